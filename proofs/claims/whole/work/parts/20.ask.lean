-- ===== questions =====
def SimQ (wc : (Int32 → Prop) → Prop) (wm : ES → (Int32 → Prop) → Prop) (_ : Unit) : Prop := ∃ r : Int32, (∀ K : Int32 → Prop, K r → wc K) ∧ ∀ (Z : ES) (K : Int32 → Prop), K r → wm Z K
theorem simQ (r : Int32) {wc : (Int32 → Prop) → Prop} {wm : ES → (Int32 → Prop) → Prop} (a : ∀ K : Int32 → Prop, K r → wc K) (b : ∀ (Z : ES) (K : Int32 → Prop), K r → wm Z K) : SimQ wc wm () := ⟨r, a, b⟩
theorem in_dec (v lo hi : Int32) : (¬ v < lo ∧ ¬ hi < v ∧ ∀ K : Int32 → Prop, K 1 → wp_X5_in v lo hi K) ∨ ∀ K : Int32 → Prop, K 0 → wp_X5_in v lo hi K := by
  by_cases h1 : v < lo
  · exact Or.inr fun K hK => in_no (Or.inl h1) hK
  · by_cases h2 : hi < v
    · exact Or.inr fun K hK => in_no (Or.inr h2) hK
    · exact Or.inl ⟨h1, h2, fun K hK => in_yes h1 h2 hK⟩
theorem inc_dec (v lo hi : Int32) : (¬ v < lo ∧ ¬ hi < v ∧ (∀ K : Int32 → Prop, K 1 → wp_X5_in v lo hi K) ∧ ∀ K : Int32 → Prop, K 1 → wp_X4_isWithin v lo hi K) ∨ ((∀ K : Int32 → Prop, K 0 → wp_X5_in v lo hi K) ∧ ∀ K : Int32 → Prop, K 0 → wp_X4_isWithin v lo hi K) := by
  rcases in_dec v lo hi with ⟨a, b, c⟩ | c
  · exact Or.inl ⟨a, b, c, c⟩
  · exact Or.inr ⟨c, c⟩
theorem line_dec (p : Int32) : (∃ i : Nat, i < 16 ∧ p = nI i) ∨ ∀ K : Int32 → Prop, K 0 → wp_X5_in p 0 15 K := by
  rcases in_dec p 0 15 with ⟨a, b, -⟩ | h
  · obtain ⟨j, h1, h2⟩ := nI_of2 (M := 15) (n := 15) (by decide) a (Int32.not_lt.mp b)
    exact Or.inl ⟨j, by omega, h2⟩
  · exact Or.inr h
theorem line_y {i : Nat} (hi : i < 16) {K : Int32 → Prop} (hK : K 1) : wp_X5_in (nI i) 0 15 K := isLine_q hi hK
theorem k01 {A B : Prop} (h : B) : ((1 : Int32) = 0 → A) ∧ (¬ (1 : Int32) = 0 → B) := ⟨fun z => absurd z (by decide), fun _ => h⟩
theorem k00 {A B : Prop} (h : A) : ((0 : Int32) = 0 → A) ∧ (¬ (0 : Int32) = 0 → B) := ⟨fun _ => h, fun z => absurd rfl z⟩
theorem ky {P A B : Prop} (p : P) (h : A) : (P → A) ∧ (¬ P → B) := ⟨fun _ => h, fun z => absurd p z⟩
theorem kn {P A B : Prop} (p : ¬ P) (h : B) : (P → A) ∧ (¬ P → B) := ⟨fun z => absurd z p, fun _ => h⟩
/-- a line's way to its finder, in the states in which it has one -/
theorem ptr_of {q nf i : Nat} {X : ES} {h : CS} {N G : ES} (hR : XR q nf X h N G) (hi : i < 16) (hs : ¬ (X (6 + i) 0 = 0 ∨ X (6 + i) 0 = 1 ∨ X (6 + i) 0 = 10 ∨ X (6 + i) 0 = 11)) : ∃ f, f < 4 ∧ X (6 + i) 6 = nI f := by
  rcases hR.2.2.2.2.2.1 i hi with ⟨-, z⟩ | ⟨f, f1, f2, -⟩
  · exact absurd z hs
  · exact ⟨f, f1, f2⟩
theorem place_loop {q nf a : Nat} {X : ES} {h : CS} {N G : ES} (hR : XR q nf X h N G) (hq : q < 2 ^ 30) (ha : a < 16) (hQa : Qd X a) : ∀ (j i n : Nat), i + j = 16 → ∃ r : Int32, (∀ (K : Int32 → Prop) (Kx : Int32 → Int32 → Prop), (∀ y, Kx r y) → wpl_X0_placeOf_14 X (6 + a) K Kx (j + 1) (nI n) (nI i)) ∧ ∀ (Z : ES) (K : Int32 → Prop) (Kx : Int32 → Int32 → Prop), (∀ y, Kx r y) → wpl_X5_placeOf_15 (ms Z h N G) (nI a) K Kx (j + 1) (nI n) (nI i)
  | 0, i, n, he => by
    have e : i = 16 := by omega
    subst e
    refine ⟨nI n, fun K Kx hK => ?_, fun Z K Kx hK => ?_⟩
    · rw [wpl_X0_placeOf_14]
      exact ⟨fun _ => hK _, fun z => absurd (nI_le (a := 16) (b := 16) (Nat.le_refl _) (by decide)) z⟩
    · rw [wpl_X5_placeOf_15]
      exact ⟨fun _ => hK _, fun z => absurd (nI_le (a := 16) (b := 16) (Nat.le_refl _) (by decide)) z⟩
  | j + 1, i, n, he => by
    have hi : i < 16 := by omega
    have hlt : ¬ (16 : Int32) ≤ nI i := nI_ge (b := 16) hi (by decide)
    obtain ⟨u, u1, u2, u3⟩ := Qd_turn hR ha hQa
    have i0 : nI n + 0 = nI n := by simp
    by_cases hQ : Qd X i
    · obtain ⟨s, s1, s2, s3⟩ := Qd_turn hR hi hQ
      by_cases hc : u ≤ s
      · obtain ⟨r, r2, r3⟩ := place_loop hR hq ha hQa j (i + 1) n (by omega)
        refine ⟨r, fun K Kx hK => ?_, fun Z K Kx hK => ?_⟩
        · rw [wpl_X0_placeOf_14, lix_nI hi, s3, u3]
          refine kn hlt (waits_q _ (fun _ => k01 (ky (nI_le (by omega) (by omega)) fun v ev => ?_)) (fun z => absurd hQ z))
          rw [ev, nI_1]; exact r2 K Kx hK
        · rw [wpl_X5_placeOf_15]
          refine kn hlt (isQueued_q hR hi Z _ (fun _ => k01 ?_) (fun z => absurd hQ z))
          rw [of_4 hi, of_4 ha, s2, u2]
          refine ky (nI_le hc (by omega)) fun v ev v2 ev2 => ?_
          rw [ev, ev2, nI_1, i0]; exact r3 Z K Kx hK
      · obtain ⟨r, r2, r3⟩ := place_loop hR hq ha hQa j (i + 1) (n + 1) (by omega)
        refine ⟨r, fun K Kx hK => ?_, fun Z K Kx hK => ?_⟩
        · rw [wpl_X0_placeOf_14, lix_nI hi, s3, u3]
          refine kn hlt (waits_q _ (fun _ => k01 (kn (nI_ge (by omega) (by omega)) fun v ev v2 ev2 => ?_)) (fun z => absurd hQ z))
          rw [ev, ev2, nI_1, nI_1]; exact r2 K Kx hK
        · rw [wpl_X5_placeOf_15]
          refine kn hlt (isQueued_q hR hi Z _ (fun _ => k01 ?_) (fun z => absurd hQ z))
          rw [of_4 hi, of_4 ha, s2, u2]
          refine kn (nI_ge (by omega) (by omega)) fun v ev v2 ev2 => ?_
          rw [ev, ev2, nI_1, nI_1]; exact r3 Z K Kx hK
    · obtain ⟨r, r2, r3⟩ := place_loop hR hq ha hQa j (i + 1) n (by omega)
      refine ⟨r, fun K Kx hK => ?_, fun Z K Kx hK => ?_⟩
      · rw [wpl_X0_placeOf_14, lix_nI hi]
        refine kn hlt (waits_q _ (fun z => absurd z hQ) (fun _ => k00 fun v ev => ?_))
        rw [ev, nI_1]; exact r2 K Kx hK
      · rw [wpl_X5_placeOf_15]
        refine kn hlt (isQueued_q hR hi Z _ (fun z => absurd z hQ) (fun _ => k00 fun v ev v2 ev2 => ?_))
        rw [ev, ev2, nI_1, i0]; exact r3 Z K Kx hK
theorem place_sim {q nf i : Nat} {X : ES} {h : CS} {N G : ES} (hR : XR q nf X h N G) (hq : q < 2 ^ 30) (hi : i < 16) : SimQ (wp_X0_placeOf X (6 + i)) (fun Z => wp_X5_placeOf (ms Z h N G) (nI i)) () := by
  by_cases hQ : Qd X i
  · obtain ⟨r, r2, r3⟩ := place_loop hR hq hi hQ 16 0 0 rfl
    refine simQ r (fun K hK => waits_q _ (fun _ => k01 ⟨17, ?_⟩) (fun z => absurd hQ z)) (fun Z K hK => isQueued_q hR hi Z _ (fun _ => k01 ⟨17, ?_⟩) (fun z => absurd hQ z))
    · exact r2 K _ fun _ => hK
    · exact r3 Z K _ fun _ => hK
  · exact simQ (-6) (fun K hK => waits_q _ (fun z => absurd z hQ) (fun _ => k00 hK)) (fun Z K hK => isQueued_q hR hi Z _ (fun z => absurd z hQ) (fun _ => k00 hK))
theorem other_sim {q nf i : Nat} {X : ES} {h : CS} {N G : ES} (hR : XR q nf X h N G) (hi : i < 16) : SimQ (wp_X0_partnerOf X (6 + i)) (fun Z => wp_X5_otherOf (ms Z h N G) (nI i)) () := by
  have l0 : X (6 + i) 0 = N i 0 := (hR.2.1 i hi).1.1
  by_cases e4 : X (6 + i) 0 = 4
  · obtain ⟨f, h4, pf⟩ := ptr_of hR hi (by rw [e4]; decide)
    obtain ⟨g0, g1, g2, g3, g4, g5, g7, g8, g9⟩ := (hR.2.2.1 f h4).1
    have z4 : N i 0 = 4 := l0.symm.trans e4
    refine simQ (X (22 + f) 9) (fun K hK => ?_) (fun Z K hK => ?_)
    · simp only [wp_X0_partnerOf, wp_X2_callsAnother, wp_X2_isCalledByAnother, e4, pf, fix_nI h4]
      simp
      exact hK
    · simp only [wp_X5_otherOf, of_0 hi, z4]
      simp
      refine fo_ptr hR hi (by rw [e4]; decide) (by rw [e4]; decide) Z N _ ?_
      rw [pf, ofF_9 h4, ← g9]
      exact hK
  by_cases e6 : X (6 + i) 0 = 6
  · obtain ⟨f, h4, pf⟩ := ptr_of hR hi (by rw [e6]; decide)
    obtain ⟨g0, g1, g2, g3, g4, g5, g7, g8, g9⟩ := (hR.2.2.1 f h4).1
    have z6 : N i 0 = 6 := l0.symm.trans e6
    refine simQ (X (22 + f) 9) (fun K hK => ?_) (fun Z K hK => ?_)
    · simp only [wp_X0_partnerOf, wp_X2_callsAnother, wp_X2_isCalledByAnother, e6, pf, fix_nI h4]
      simp
      exact hK
    · simp only [wp_X5_otherOf, of_0 hi, z6]
      simp
      refine fo_ptr hR hi (by rw [e6]; decide) (by rw [e6]; decide) Z N _ ?_
      rw [pf, ofF_9 h4, ← g9]
      exact hK
  by_cases e5 : X (6 + i) 0 = 5
  · obtain ⟨f, h4, pf⟩ := ptr_of hR hi (by rw [e5]; decide)
    obtain ⟨g0, g1, g2, g3, g4, g5, g7, g8, g9⟩ := (hR.2.2.1 f h4).1
    have z5 : N i 0 = 5 := l0.symm.trans e5
    refine simQ (X (22 + f) 2) (fun K hK => ?_) (fun Z K hK => ?_)
    · simp only [wp_X0_partnerOf, wp_X2_callsAnother, wp_X2_isCalledByAnother, e5, pf, fix_nI h4]
      simp
      exact hK
    · simp only [wp_X5_otherOf, of_0 hi, z5]
      simp
      refine ft_ptr hR hi (Or.inl e5) Z N _ ?_
      rw [pf, ofF_2 h4, ← g2]
      exact hK
  by_cases e7 : X (6 + i) 0 = 7
  · obtain ⟨f, h4, pf⟩ := ptr_of hR hi (by rw [e7]; decide)
    obtain ⟨g0, g1, g2, g3, g4, g5, g7, g8, g9⟩ := (hR.2.2.1 f h4).1
    have z7 : N i 0 = 7 := l0.symm.trans e7
    refine simQ (X (22 + f) 2) (fun K hK => ?_) (fun Z K hK => ?_)
    · simp only [wp_X0_partnerOf, wp_X2_callsAnother, wp_X2_isCalledByAnother, e7, pf, fix_nI h4]
      simp
      exact hK
    · simp only [wp_X5_otherOf, of_0 hi, z7]
      simp
      refine ft_ptr hR hi (Or.inr e7) Z N _ ?_
      rw [pf, ofF_2 h4, ← g2]
      exact hK
  have z4 : ¬ N i 0 = 4 := fun z => e4 (l0.trans z)
  have z5 : ¬ N i 0 = 5 := fun z => e5 (l0.trans z)
  have z6 : ¬ N i 0 = 6 := fun z => e6 (l0.trans z)
  have z7 : ¬ N i 0 = 7 := fun z => e7 (l0.trans z)
  refine simQ (-6) (fun K hK => ?_) (fun Z K hK => ?_)
  · simp only [wp_X0_partnerOf, wp_X2_callsAnother, wp_X2_isCalledByAnother]
    simp [e4, e5, e6, e7]
    exact hK
  · simp only [wp_X5_otherOf, of_0 hi]
    simp [z4, z5, z6, z7]
    exact hK
theorem path_q {q nf i : Nat} {X : ES} {h : CS} {N G : ES} (hR : XR q nf X h N G) (hi : i < 16) (Z : ES) (K : Int32 → Prop) (hK : K (X (6 + i) 6)) : wp_X5_pathOf (ms Z h N G) (nI i) K := by
  have l0 : X (6 + i) 0 = N i 0 := (hR.2.1 i hi).1.1
  simp only [wp_X5_pathOf, of_0 hi]
  by_cases e5 : X (6 + i) 0 = 5
  · have z5 : N i 0 = 5 := l0.symm.trans e5
    rw [z5]
    exact in_yes (by decide) (by decide) (k01 (ft_ptr hR hi (Or.inl e5) Z N _ hK))
  · have z5 : ¬ N i 0 = 5 := fun z => e5 (l0.trans z)
    have i5 : ∀ K : Int32 → Prop, K 0 → wp_X5_in (N i 0) 5 5 K := by
      intro K hK
      rcases in_dec (N i 0) 5 5 with ⟨a, b, -⟩ | c
      · exact absurd (Int32.le_antisymm (Int32.not_lt.mp b) (Int32.not_lt.mp a)) z5
      · exact c K hK
    refine i5 _ (k00 ?_)
    by_cases e7 : X (6 + i) 0 = 7
    · exact ky (l0.symm.trans e7) (ft_ptr hR hi (Or.inr e7) Z N _ hK)
    · exact kn (fun z => e7 (l0.trans z)) (fo_ptr hR hi e5 e7 Z N _ hK)
theorem lineN_sim {q nf i : Nat} {X : ES} {h : CS} {N G : ES} (hR : XR q nf X h N G) (hq : q < 2 ^ 30) (hi : i < 16) (p2 : Int32) : SimQ (wp_X0_numberOfLine X (nI i) p2) (fun Z => wp_X5_line (ms Z h N G) (nI i) p2) () := by
  obtain ⟨⟨l0, l1, l2, l3, l5⟩, ds, hD, hS⟩ := hR.2.1 i hi
  have h01 : N i 1 = 0 ∨ N i 1 = 1 := by
    rcases hS with h1 | h1 | h1 | h1 | h1 | h1
    · exact Or.inl h1.2.1
    · exact Or.inr h1.2.1
    · exact Or.inr h1.2.1
    · exact h1.2.1
    · exact Or.inr h1.2.1
    · exact Or.inr h1.2.1
  unfold wp_X0_numberOfLine
  rw [lix_nI hi]
  by_cases k0 : p2 = 0
  · exact simQ (X (6 + i) 0) (fun K hK => (ky k0 hK)) (fun Z K hK => line_y hi (k01 (ky k0 (by rw [of_0 hi, ← l0]; exact hK))))
  by_cases k1 : p2 = 1
  · refine simQ (N i 1) (fun K hK => (kn k0 (ky k1 ?_))) (fun Z K hK => line_y hi (k01 (kn k0 (ky k1 (by rw [of_1 hi]; exact hK)))))
    rw [l1]
    rcases h01 with e | e
    · rw [e] at hK ⊢; exact k00 hK
    · rw [e] at hK ⊢; exact k01 hK
  by_cases k2 : p2 = 2
  · exact simQ (X (6 + i) 6) (fun K hK => (kn k0 (kn k1 (ky k2 hK)))) (fun Z K hK => line_y hi (k01 (kn k0 (kn k1 (ky k2 (path_q hR hi Z K hK))))))
  by_cases k3 : p2 = 3
  · obtain ⟨r, a, b⟩ := other_sim hR hi
    exact simQ r (fun K hK => (kn k0 (kn k1 (kn k2 (ky k3 (a K hK)))))) (fun Z K hK => line_y hi (k01 (kn k0 (kn k1 (kn k2 (ky k3 (b Z K hK)))))))
  by_cases k4 : p2 = 4
  · exact simQ (X (6 + i) 5) (fun K hK => (kn k0 (kn k1 (kn k2 (kn k3 (ky k4 hK)))))) (fun Z K hK => line_y hi (k01 (kn k0 (kn k1 (kn k2 (kn k3 (ky k4 (by rw [of_10 hi, ← l5]; exact hK))))))))
  by_cases k5 : p2 = 5
  · exact simQ (X (6 + i) 2) (fun K hK => (kn k0 (kn k1 (kn k2 (kn k3 (kn k4 (ky k5 hK))))))) (fun Z K hK => line_y hi (k01 (kn k0 (kn k1 (kn k2 (kn k3 (kn k4 (ky k5 (by rw [of_2 hi, ← l2]; exact hK)))))))))
  by_cases k6 : p2 = 6
  · exact simQ (X (6 + i) 3) (fun K hK => (kn k0 (kn k1 (kn k2 (kn k3 (kn k4 (kn k5 (ky k6 hK)))))))) (fun Z K hK => line_y hi (k01 (kn k0 (kn k1 (kn k2 (kn k3 (kn k4 (kn k5 (ky k6 (by rw [of_3 hi, ← l3]; exact hK))))))))))
  by_cases k7 : p2 = 7
  · obtain ⟨r, a, b⟩ := place_sim hR hq hi
    exact simQ r (fun K hK => (kn k0 (kn k1 (kn k2 (kn k3 (kn k4 (kn k5 (kn k6 (ky k7 (a K hK)))))))))) (fun Z K hK => line_y hi (k01 (kn k0 (kn k1 (kn k2 (kn k3 (kn k4 (kn k5 (kn k6 (ky k7 (b Z K hK)))))))))))
  by_cases k8 : p2 = 8
  · refine simQ (X (6 + i) 8) (fun K hK => (kn k0 (kn k1 (kn k2 (kn k3 (kn k4 (kn k5 (kn k6 (kn k7 (ky k8 hK)))))))))) (fun Z K hK => line_y hi (k01 (kn k0 (kn k1 (kn k2 (kn k3 (kn k4 (kn k5 (kn k6 (kn k7 (ky k8 ?_)))))))))))
    rw [of_0 hi, of_5 hi]
    by_cases e10 : N i 0 = 10
    · simp [LSt, e10] at hS
      refine ky e10 ?_
      rw [← hS.2.2.1]; exact hK
    · have e8 : X (6 + i) 8 = 0 := by
        rcases hS with h1 | h1 | h1 | h1 | h1 | h1
        · exact h1.2.2.2.1
        · exact h1.2.2.2.1
        · exact h1.2.2
        · exact h1.2.2.2
        · exact absurd h1.1 e10
        · exact h1.2.2.2.1
      refine kn e10 ?_
      rw [e8] at hK; exact hK
  exact simQ (-2) (fun K hK => (kn k0 (kn k1 (kn k2 (kn k3 (kn k4 (kn k5 (kn k6 (kn k7 (kn k8 hK)))))))))) (fun Z K hK => line_y hi (k01 (kn k0 (kn k1 (kn k2 (kn k3 (kn k4 (kn k5 (kn k6 (kn k7 (kn k8 hK)))))))))))
theorem line_sim {q nf o : Nat} {E : ES} {h : CS} {N G : ES} (hR : XR q nf (vw (o + 1) E) h N G) (hq : q < 2 ^ 30) (p1 p2 : Int32) : SimQ (wp_X4_line o E p1 p2) (fun Z => wp_X5_line (ms Z h N G) p1 p2) () := by
  rcases line_dec p1 with ⟨i, hi, rfl⟩ | hno
  · obtain ⟨r, a, b⟩ := lineN_sim hR hq hi p2
    exact simQ r (fun K hK => line_y hi (k01 (a K hK))) b
  · exact simQ (-1) (fun K hK => hno _ (k00 hK)) (fun Z K hK => hno _ (k00 hK))
theorem trace_sim {q nf o : Nat} {E : ES} {h : CS} {N G : ES} (hR : XR q nf (vw (o + 1) E) h N G) (p1 p2 : Int32) : SimQ (wp_X4_trace o E p1 p2) (fun Z => wp_X5_trace (ms Z h N G) p1 p2) () := by
  rcases line_dec p1 with ⟨i, hi, rfl⟩ | hno
  · rcases inc_dec p2 0 2 with ⟨a1, a2, hy, hyc⟩ | ⟨hn, hnc⟩
    · have l0 : vw (o + 1) E (6 + i) 0 = N i 0 := (hR.2.1 i hi).1.1
      by_cases e5 : vw (o + 1) E (6 + i) 0 = 5
      · obtain ⟨f, h4, pf⟩ := ptr_of hR hi (by rw [e5]; decide)
        obtain ⟨g0, g1, g2, g3, g4, g5, g7, g8, g9⟩ := (hR.2.2.1 f h4).1
        have z5 : N i 0 = 5 := l0.symm.trans e5
        by_cases c0 : p2 = 0
        · subst c0
          refine simQ (vw (o + 1) E (22 + f) 4) (fun K hK => line_y hi (k01 (hyc _ (k01 ?_)))) (fun Z K hK => line_y hi (k01 (hy _ (k01 ?_))))
          · simp only [wp_X0_traceFrom, wp_X2_isCalledByAnother, lix_nI hi, e5, pf, fix_nI h4]
            simp 
            exact hK
          · rw [of_0 hi, z5]
            simp
            refine ft_ptr hR hi (Or.inl e5) Z N _ ?_
            rw [pf, ofF_4 h4, ← g4]
            exact hK
        · by_cases c1 : p2 = 1
          · subst c1
            refine simQ (nI f) (fun K hK => line_y hi (k01 (hyc _ (k01 ?_)))) (fun Z K hK => line_y hi (k01 (hy _ (k01 ?_))))
            · simp only [wp_X0_traceFrom, wp_X2_isCalledByAnother, lix_nI hi, e5, pf, fix_nI h4]
              simp 
              exact hK
            · rw [of_0 hi, z5]
              simp
              refine ft_ptr hR hi (Or.inl e5) Z N _ ?_
              rw [pf]
              exact hK
          · skip
            refine simQ (vw (o + 1) E (22 + f) 2) (fun K hK => line_y hi (k01 (hyc _ (k01 ?_)))) (fun Z K hK => line_y hi (k01 (hy _ (k01 ?_))))
            · simp only [wp_X0_traceFrom, wp_X2_isCalledByAnother, lix_nI hi, e5, pf, fix_nI h4]
              simp [c0, c1]
              exact hK
            · rw [of_0 hi, z5]
              simp
              refine ft_ptr hR hi (Or.inl e5) Z N _ ?_
              rw [pf, ofF_4 h4, ofF_2 h4, ← g4, ← g2]; simp [c0, c1]
              exact hK
      by_cases e7 : vw (o + 1) E (6 + i) 0 = 7
      · obtain ⟨f, h4, pf⟩ := ptr_of hR hi (by rw [e7]; decide)
        obtain ⟨g0, g1, g2, g3, g4, g5, g7, g8, g9⟩ := (hR.2.2.1 f h4).1
        have z7 : N i 0 = 7 := l0.symm.trans e7
        by_cases c0 : p2 = 0
        · subst c0
          refine simQ (vw (o + 1) E (22 + f) 4) (fun K hK => line_y hi (k01 (hyc _ (k01 ?_)))) (fun Z K hK => line_y hi (k01 (hy _ (k01 ?_))))
          · simp only [wp_X0_traceFrom, wp_X2_isCalledByAnother, lix_nI hi, e7, pf, fix_nI h4]
            simp 
            exact hK
          · rw [of_0 hi, z7]
            simp
            refine ft_ptr hR hi (Or.inr e7) Z N _ ?_
            rw [pf, ofF_4 h4, ← g4]
            exact hK
        · by_cases c1 : p2 = 1
          · subst c1
            refine simQ (nI f) (fun K hK => line_y hi (k01 (hyc _ (k01 ?_)))) (fun Z K hK => line_y hi (k01 (hy _ (k01 ?_))))
            · simp only [wp_X0_traceFrom, wp_X2_isCalledByAnother, lix_nI hi, e7, pf, fix_nI h4]
              simp 
              exact hK
            · rw [of_0 hi, z7]
              simp
              refine ft_ptr hR hi (Or.inr e7) Z N _ ?_
              rw [pf]
              exact hK
          · skip
            refine simQ (vw (o + 1) E (22 + f) 2) (fun K hK => line_y hi (k01 (hyc _ (k01 ?_)))) (fun Z K hK => line_y hi (k01 (hy _ (k01 ?_))))
            · simp only [wp_X0_traceFrom, wp_X2_isCalledByAnother, lix_nI hi, e7, pf, fix_nI h4]
              simp [c0, c1]
              exact hK
            · rw [of_0 hi, z7]
              simp
              refine ft_ptr hR hi (Or.inr e7) Z N _ ?_
              rw [pf, ofF_4 h4, ofF_2 h4, ← g4, ← g2]; simp [c0, c1]
              exact hK
      have z5 : ¬ N i 0 = 5 := fun z => e5 (l0.trans z)
      have z7 : ¬ N i 0 = 7 := fun z => e7 (l0.trans z)
      refine simQ (-6) (fun K hK => line_y hi (k01 (hyc _ (k01 ?_)))) (fun Z K hK => line_y hi (k01 (hy _ (k01 ?_))))
      · simp only [wp_X0_traceFrom, wp_X2_isCalledByAnother, lix_nI hi]
        simp [e5, e7]
        exact hK
      · rw [of_0 hi]
        exact kn z5 (kn z7 hK)
    · exact simQ (-2) (fun K hK => line_y hi (k01 (hnc _ (k00 hK)))) (fun Z K hK => line_y hi (k01 (hn _ (k00 hK))))
  · exact simQ (-1) (fun K hK => hno _ (k00 hK)) (fun Z K hK => hno _ (k00 hK))
theorem connector_sim {q nf o : Nat} {E : ES} {h : CS} {N G : ES} (hR : XR q nf (vw (o + 1) E) h N G) (p1 p2 : Int32) : SimQ (wp_X4_connector o E p1 p2) (fun Z => wp_X5_connector (ms Z h N G) p1 p2) () := by
  have e6 : E (o + 1) 6 = h 2 := hR.1.2.2.1.1
  rcases inc_dec p1 1 4 with ⟨a1, a2, hy, hyc⟩ | ⟨hn, hnc⟩
  · rcases inc_dec p2 0 (h 2 - 1) with ⟨b1, b2, hy2, hyc2⟩ | ⟨hn2, hnc2⟩
    · obtain ⟨r, -, a, b⟩ := hold_sim hR p1 p2
      refine simQ r (fun K hK => hyc _ (k01 ?_)) (fun Z K hK => hy _ (k01 ⟨vpl (n := 2) rfl (by decide), ?_⟩))
      · rw [e6]; exact hyc2 _ (k01 (a K hK))
      · rw [hd_2]; exact hy2 _ (k01 (b Z K hK))
    · refine simQ (-1) (fun K hK => hyc _ (k01 ?_)) (fun Z K hK => hy _ (k01 ⟨vpl (n := 2) rfl (by decide), ?_⟩))
      · rw [e6]; exact hnc2 _ (k00 hK)
      · rw [hd_2]; exact hn2 _ (k00 hK)
  · exact simQ (-1) (fun K hK => hnc _ (k00 hK)) (fun Z K hK => hn _ (k00 hK))
