-- ===== numbers of finders =====
theorem FM_4 {F : CS} {S : Int32} (h : FM F S) (h4 : ¬ F 0 = 4) (hn : ¬ isHd (F 0)) : F 4 = -6 := by
  rcases h with h | h | h | h | h | h | h | h | h | h
  · exact h.2.2.2.1
  · exact h.2.2.1
  · exact h.2.2.1
  · exact h.2.2.1
  · exact absurd h.1 h4
  · exact absurd (Or.inl h.1) hn
  · exact absurd (Or.inr (Or.inl h.1)) hn
  · exact absurd (Or.inr (Or.inr (Or.inl h.1))) hn
  · exact absurd (Or.inr (Or.inr (Or.inr h.1))) hn
  · exact h.2.1
theorem FM_5 {F : CS} {S : Int32} (h : FM F S) (h3 : ¬ F 0 = 3) (h6 : ¬ F 0 = 6) : F 5 = 0 := by
  rcases h with h | h | h | h | h | h | h | h | h | h
  · exact h.2.2.2.2.1
  · exact h.2.2.2.1
  · exact h.2.2.2.1
  · exact absurd h.1 h3
  · exact h.2.2.1
  · exact h.2.2.1
  · exact absurd h.1 h6
  · exact h.2.1
  · exact h.2
  · exact h.2.2.1
theorem FM_7 {F : CS} {S : Int32} (h : FM F S) (hn : ¬ (F 0 = 2 ∨ F 0 = 5 ∨ F 0 = 7 ∨ F 0 = 8 ∨ F 0 = 9)) : F 7 = 0 := by
  rcases h with h | h | h | h | h | h | h | h | h | h
  · exact h.2.2.2.2.2.2.1
  · exact h.2.2.2.2.2.1
  · exact absurd (Or.inl h.1) hn
  · exact h.2.2.2.2.1
  · exact h.2.2.2.2.1
  · exact absurd (Or.inr (Or.inl h.1)) hn
  · exact h.2.2.2.1
  · exact absurd (Or.inr (Or.inr (Or.inl h.1))) hn
  · exact absurd (Or.inr (Or.inr (Or.inr (Or.inl h.1)))) hn
  · exact absurd (Or.inr (Or.inr (Or.inr (Or.inr h.1)))) hn
theorem FM_8 {F : CS} {S : Int32} (h : FM F S) (hn : ¬ F 0 = 8) : F 8 = 0 := by
  rcases h with h | h | h | h | h | h | h | h | h | h
  · exact h.2.2.2.2.2.2.2.1
  · exact h.2.2.2.2.2.2.1
  · exact h.2.2.2.2.2.1
  · exact h.2.2.2.2.2.1
  · exact h.2.2.2.2.2.1
  · exact h.2.2.2.2.1
  · exact h.2.2.2.2.1
  · exact h.2.2
  · exact absurd h.1 hn
  · exact h.2.2.2.1
theorem shows_q {F : CS} {S : Int32} (h : FM F S) (M : ES) (K : Int32 → Prop) (h1 : (F 0 = 2 ∨ F 0 = 5 ∨ F 0 = 7 ∨ F 0 = 8 ∨ F 0 = 9) → K 1) (h0 : ¬ (F 0 = 2 ∨ F 0 = 5 ∨ F 0 = 7 ∨ F 0 = 8 ∨ F 0 = 9) → K 0) : wp_X5_showsTimer M (F 0) K := by
  rcases FM_modes h with e | e | e | e | e | e | e | e | e | e
  · exact kn (by rw [e]; decide) (kn (by rw [e]; decide) (in_no (by rw [e]; decide) (k00 (h0 (by rw [e]; decide)))))
  · exact kn (by rw [e]; decide) (kn (by rw [e]; decide) (in_no (by rw [e]; decide) (k00 (h0 (by rw [e]; decide)))))
  · exact ky e (h1 (Or.inl e))
  · exact kn (by rw [e]; decide) (kn (by rw [e]; decide) (in_no (by rw [e]; decide) (k00 (h0 (by rw [e]; decide)))))
  · exact kn (by rw [e]; decide) (kn (by rw [e]; decide) (in_no (by rw [e]; decide) (k00 (h0 (by rw [e]; decide)))))
  · exact kn (by rw [e]; decide) (ky e (h1 (Or.inr (Or.inl e))))
  · exact kn (by rw [e]; decide) (kn (by rw [e]; decide) (in_no (by rw [e]; decide) (k00 (h0 (by rw [e]; decide)))))
  · exact kn (by rw [e]; decide) (kn (by rw [e]; decide) (in_yes (by rw [e]; decide) (by rw [e]; decide) (k01 (h1 (Or.inr (Or.inr (Or.inl e)))))))
  · exact kn (by rw [e]; decide) (kn (by rw [e]; decide) (in_yes (by rw [e]; decide) (by rw [e]; decide) (k01 (h1 (Or.inr (Or.inr (Or.inr (Or.inl e))))))))
  · exact kn (by rw [e]; decide) (kn (by rw [e]; decide) (in_yes (by rw [e]; decide) (by rw [e]; decide) (k01 (h1 (Or.inr (Or.inr (Or.inr (Or.inr e))))))))
theorem finder_sim {q nf o : Nat} {E : ES} {h : CS} {N G : ES} (hR : XR q nf (vw (o + 1) E) h N G) (p1 p2 : Int32) : SimQ (wp_X4_finder o E p1 p2) (fun Z => wp_X5_finder (ms Z h N G) p1 p2) () := by
  have c5 : E (o + 1) 5 = nI nf := hR.1.2.1.2.2.2
  have c1 : h 1 = nI nf := hR.1.2.1.2.2.1
  have n1 : 1 ≤ nf := hR.1.2.1.1
  have n4 : nf ≤ 4 := hR.1.2.1.2.1
  have e1 : nI nf - 1 = nI (nf - 1) := by
    obtain ⟨m, rfl⟩ : ∃ m, nf = m + 1 := ⟨nf - 1, by omega⟩
    exact nI_pred m
  have co : ∀ K : Int32 → Prop, wp_X4_isWithin p1 0 (nI (nf - 1)) K → wp_X4_isWithin p1 0 (E (o + 1) 5 - 1) K := fun K hK => by rw [c5, e1]; exact hK
  have mo : ∀ (Z : ES) (K : Int32 → Prop), wp_X5_in p1 0 (nI (nf - 1)) K → wp_X5_isFinder (ms Z h N G) p1 K := fun Z K hK => ⟨vpl (n := 1) rfl (by decide), by rw [hd_1, c1, e1]; exact hK⟩
  rcases inc_dec p1 0 (nI (nf - 1)) with ⟨a, b, hy, hyc⟩ | ⟨hn, hnc⟩
  · obtain ⟨f, f1, rfl⟩ := nI_of a
    have hf : f < nf := by
      have := Int32.not_lt.mp b
      have := (nI_leI f1 (by omega)).mp this
      omega
    have h4 : f < 4 := by omega
    obtain ⟨⟨g0, g1, g2, g3, g4, g5, g7, g8, g9⟩, -, hFM⟩ := hR.2.2.1 f h4
    have fx : E (o + 1 + fix (nI f)) = vw (o + 1) E (22 + f) := by rw [fix_nI h4]; rfl
    by_cases k0 : p2 = 0
    · exact simQ (vw (o + 1) E (22 + f) 0) (fun K hK => co _ (hyc _ (k01 (by rw [fx]; exact (ky k0 hK))))) (fun Z K hK => mo Z _ (hy _ (k01 (by rw [ofF_0 h4]; exact (ky k0 (by rw [← g0]; exact hK))))))
    by_cases k1 : p2 = 1
    · exact simQ (vw (o + 1) E (22 + f) 1) (fun K hK => co _ (hyc _ (k01 (by rw [fx]; exact (kn k0 (ky k1 hK)))))) (fun Z K hK => mo Z _ (hy _ (k01 (by rw [ofF_0 h4]; exact (kn k0 (ky k1 (by rw [ofF_1 h4, ← g1]; exact hK)))))))
    by_cases k2 : p2 = 2
    · exact simQ (vw (o + 1) E (22 + f) 2) (fun K hK => co _ (hyc _ (k01 (by rw [fx]; exact (kn k0 (kn k1 (ky k2 hK))))))) (fun Z K hK => mo Z _ (hy _ (k01 (by rw [ofF_0 h4]; exact (kn k0 (kn k1 (ky k2 (by rw [ofF_2 h4, ← g2]; exact hK))))))))
    by_cases k3 : p2 = 3
    · exact simQ (vw (o + 1) E (22 + f) 3) (fun K hK => co _ (hyc _ (k01 (by rw [fx]; exact (kn k0 (kn k1 (kn k2 (ky k3 hK)))))))) (fun Z K hK => mo Z _ (hy _ (k01 (by rw [ofF_0 h4]; exact (kn k0 (kn k1 (kn k2 (ky k3 (by rw [ofF_3 h4, ← g3]; exact hK)))))))))
    by_cases k4 : p2 = 4
    · have m4 : ∀ (Z : ES) (K : Int32 → Prop), K (vw (o + 1) E (22 + f) 4) → (G f 0 = 4 → wp_X5_ofFinder (ms Z h N G) (nI f) 4 fun r => K r) ∧ (¬ G f 0 = 4 → wp_X5_isHolding (ms Z h N G) (nI f) fun r => (r = 0 → K (-6)) ∧ (¬ r = 0 → wp_X5_ofFinder (ms Z h N G) (nI f) 4 fun r => K r)) := by
        intro Z K hK
        rw [ofF_4 h4, ← g4, ← g0]
        by_cases e4 : vw (o + 1) E (22 + f) 0 = 4
        · exact ky e4 hK
        · refine kn e4 (isHolding_q hR h4 Z _ ⟨fun _ => k01 hK, fun z => k00 ?_⟩)
          rw [← FM_4 hFM e4 z]; exact hK
      exact simQ (vw (o + 1) E (22 + f) 4) (fun K hK => co _ (hyc _ (k01 (by rw [fx]; exact (kn k0 (kn k1 (kn k2 (kn k3 (ky k4 hK))))))))) (fun Z K hK => mo Z _ (hy _ (k01 (by rw [ofF_0 h4]; exact (kn k0 (kn k1 (kn k2 (kn k3 (ky k4 (m4 Z K hK))))))))))
    by_cases k5 : p2 = 5
    · have m5 : ∀ (Z : ES) (K : Int32 → Prop), K (vw (o + 1) E (22 + f) 5) → (G f 0 = 3 → wp_X5_ofFinder (ms Z h N G) (nI f) 5 fun r => K r) ∧ (¬ G f 0 = 3 → (G f 0 = 6 → wp_X5_ofFinder (ms Z h N G) (nI f) 5 fun r => K r) ∧ (¬ G f 0 = 6 → K 0)) := by
        intro Z K hK
        rw [ofF_5 h4, ← g5, ← g0]
        by_cases e3 : vw (o + 1) E (22 + f) 0 = 3
        · exact ky e3 hK
        · by_cases e6 : vw (o + 1) E (22 + f) 0 = 6
          · exact kn e3 (ky e6 hK)
          · refine kn e3 (kn e6 ?_)
            rw [← FM_5 hFM e3 e6]; exact hK
      exact simQ (vw (o + 1) E (22 + f) 5) (fun K hK => co _ (hyc _ (k01 (by rw [fx]; exact (kn k0 (kn k1 (kn k2 (kn k3 (kn k4 (ky k5 hK)))))))))) (fun Z K hK => mo Z _ (hy _ (k01 (by rw [ofF_0 h4]; exact (kn k0 (kn k1 (kn k2 (kn k3 (kn k4 (ky k5 (m5 Z K hK)))))))))))
    by_cases k6 : p2 = 6
    · have m6 : ∀ (Z : ES) (K : Int32 → Prop), K (vw (o + 1) E (22 + f) 7) → wp_X5_showsTimer (ms Z h N G) (G f 0) fun r => (r = 0 → K 0) ∧ (¬ r = 0 → wp_X5_ofFinder (ms Z h N G) (nI f) 7 fun r => K r) := by
        intro Z K hK
        rw [ofF_7 h4, ← g7, ← g0]
        refine shows_q hFM _ _ (fun _ => k01 hK) (fun z => k00 ?_)
        rw [← FM_7 hFM z]; exact hK
      exact simQ (vw (o + 1) E (22 + f) 7) (fun K hK => co _ (hyc _ (k01 (by rw [fx]; exact (kn k0 (kn k1 (kn k2 (kn k3 (kn k4 (kn k5 (ky k6 hK))))))))))) (fun Z K hK => mo Z _ (hy _ (k01 (by rw [ofF_0 h4]; exact (kn k0 (kn k1 (kn k2 (kn k3 (kn k4 (kn k5 (ky k6 (m6 Z K hK))))))))))))
    by_cases k7 : p2 = 7
    · have m7 : ∀ (Z : ES) (K : Int32 → Prop), K (vw (o + 1) E (22 + f) 8) → (G f 0 = 8 → wp_X5_ofFinder (ms Z h N G) (nI f) 8 fun r => K r) ∧ (¬ G f 0 = 8 → K 0) := by
        intro Z K hK
        rw [ofF_8 h4, ← g8, ← g0]
        by_cases e8 : vw (o + 1) E (22 + f) 0 = 8
        · exact ky e8 hK
        · refine kn e8 ?_
          rw [← FM_8 hFM e8]; exact hK
      exact simQ (vw (o + 1) E (22 + f) 8) (fun K hK => co _ (hyc _ (k01 (by rw [fx]; exact (kn k0 (kn k1 (kn k2 (kn k3 (kn k4 (kn k5 (kn k6 (ky k7 hK)))))))))))) (fun Z K hK => mo Z _ (hy _ (k01 (by rw [ofF_0 h4]; exact (kn k0 (kn k1 (kn k2 (kn k3 (kn k4 (kn k5 (kn k6 (ky k7 (m7 Z K hK)))))))))))))
    exact simQ (-2) (fun K hK => co _ (hyc _ (k01 (by rw [fx]; exact (kn k0 (kn k1 (kn k2 (kn k3 (kn k4 (kn k5 (kn k6 (kn k7 hK)))))))))))) (fun Z K hK => mo Z _ (hy _ (k01 (by rw [ofF_0 h4]; exact (kn k0 (kn k1 (kn k2 (kn k3 (kn k4 (kn k5 (kn k6 (kn k7 hK))))))))))))
  · exact simQ (-1) (fun K hK => co _ (hnc _ (k00 hK))) (fun Z K hK => mo Z _ (hn _ (k00 hK)))
