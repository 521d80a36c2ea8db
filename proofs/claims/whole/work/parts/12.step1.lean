theorem lix_nI {c : Nat} (h : c < 16) : lix (nI c) = 6 + c := by
  unfold lix
  have h1 : ¬ (nI c < 0 ∨ 16 ≤ nI c) := by
    intro z
    rcases z with z | z
    · exact nI_pos (by omega) z
    · exact absurd z (nI_ge (b := 16) h (by decide))
  rw [if_neg h1, nI_clamp (by omega)]
theorem fix_nI {c : Nat} (h : c < 4) : fix (nI c) = 22 + c := by
  unfold fix
  have h1 : ¬ (nI c < 0 ∨ 4 ≤ nI c) := by
    intro z
    rcases z with z | z
    · exact nI_pos (by omega) z
    · exact absurd z (nI_ge (b := 4) h (by decide))
  rw [if_neg h1, nI_clamp (by omega)]
theorem lix_m6 : lix (-6) = 3 := by decide
theorem fix_m6 : fix (-6) = 4 := by decide
def RunC (X : ES) (k : Nat) (X' : ES) : Prop := ∀ K : ES → Prop, K X' → wp_X0_takeStep X k K
def RunM (M : ES) (f : Int32) (M' : ES) : Prop := ∀ K : ES → Prop, K M' → wp_X5_stepFinder M f K
def SimS (q nf : Nat) (X : ES) (h : CS) (N G : ES) (f : Nat) : Prop := ∃ (X' : ES) (h' : CS) (N' G' : ES), RunC X (22 + f) X' ∧ (∀ Z : ES, RunM (ms Z h N G) (nI f) (ms Z h' N' G')) ∧ XR q nf X' h' N' G'
theorem simI {q nf : Nat} {X X' : ES} {h h' : CS} {N G N' G' : ES} {f : Nat} (a : ∀ K : ES → Prop, K X' → wp_X0_takeStep X (22 + f) K) (b : ∀ (Z : ES) (K : ES → Prop), K (ms Z h' N' G') → wp_X5_stepFinder (ms Z h N G) (nI f) K) (c : XR q nf X' h' N' G') : SimS q nf X h N G f := ⟨X', h', N', G', a, b, c⟩
set_option maxHeartbeats 1000000 in
theorem sim_seek {q nf f : Nat} {X : ES} {h : CS} {N G : ES} (hR : XR q nf X h N G) (hf : f < nf) (hm : X (22 + f) 0 = 1) : SimS q nf X h N G f := by
  have h4 : f < 4 := by have := hR.1.2.1.2.1; omega
  obtain ⟨c, hc, hc1, hc2, hc3⟩ := hR.2.2.2.1 f h4 (by rw [hm]; decide)
  have hF := hR.2.2.1 f h4
  obtain ⟨⟨g0, g1, g2, g3, g4, g5, g7, g8, g9⟩, ⟨po, hpo, hpe⟩, hFM⟩ := hF
  obtain ⟨⟨l0, l1, l2, l3, l5⟩, ds, hD, hS⟩ := hR.2.1 c hc
  have m0 : G f 0 = 1 := g0.symm.trans hm
  have m2 : G f 2 = nI c := g2.symm.trans hc1
  have n1 : ¬ (22 + f = 6 + c) := by omega
  have n2 : ¬ (6 + c = 22 + f) := by omega
  have n3 : ¬ (22 + f = 0) := by omega
  have n4 : ¬ (6 + c = 0) := by omega
  have n5 : ¬ (0 = 22 + f) := by omega
  have n6 : ¬ (0 = 6 + c) := by omega
  have s0 : X (6 + c) 0 = 1 := by simpa [smt, hm] using hc3
  simp [FM, hm] at hFM
  have z0 : N c 0 = 1 := l0.symm.trans s0
  simp [LSt, z0] at hS
  by_cases hp : X (22 + f) 1 = X (22 + f) 2
  · apply simI
    · intro K hK
      simp only [wp_X0_takeStep, wp_X0_seek, wp_X1_become, forall_eq, hm, hc1, hp, lix_nI hc]
      simp
      exact hK
    · intro Z K hK
      simp only [wp_X5_stepFinder, wp_X5_seek, ofF_0 h4, ofF_1 h4, ofF_2 h4, layF_0 h4, layF_7 h4, m0, m2, lay_0 hc, cnt_1, vuU, vuS, ← g1, hp, hc1]
      simp
      exact hK
    · refine XR_one2 hR hf hc (by rw [hm]; decide) (by rw [hm]; decide) (by rw [hm]; decide) hc1 (by simp only [vuA, n1, n2, n3, n4, n5, n6, if_true, if_false]; rfl) (by simp only [vuA, n1, n2, n3, n4, n5, n6, if_true, if_false]; rfl) (by simp only [vuA, n1, n2, n3, n4, n5, n6, if_true, if_false]; rfl) (fun k h1 h2 h3 => by simp only [vuA, h1, h2, h3, if_false]) rfl rfl ?_ ?_ ?_ ?_
      · exact HR_10 hR.1
      · simp [FR, FM, updA, ← g0, ← g1, ← g2, ← g3, ← g4, ← g5, ← g7, ← g8, ← g9, hm, hFM, hpe]
        trace_state
        sorry
      · refine ⟨by simp [updA, l0, l1, l2, l3, l5], ds, ?_, ?_⟩
        · simpa [LD, updA] using hD
        · simp [LSt, updA, hS]
          trace_state
          sorry
      · simp [updA, hc1, hc2, smt]
        trace_state
        sorry
  · sorry
