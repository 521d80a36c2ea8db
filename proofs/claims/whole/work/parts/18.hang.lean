-- ===== hang =====
theorem in_no78 {F : CS} {S : Int32} (h : FM F S) (hn : ¬ (F 0 = 7 ∨ F 0 = 8)) {K : Int32 → Prop} (hK : K 0) : wp_X5_in (F 0) 7 8 K := by
  rcases FM_modes h with e | e | e | e | e | e | e | e | e | e
  · exact in_no (by rw [e]; decide) hK
  · exact in_no (by rw [e]; decide) hK
  · exact in_no (by rw [e]; decide) hK
  · exact in_no (by rw [e]; decide) hK
  · exact in_no (by rw [e]; decide) hK
  · exact in_no (by rw [e]; decide) hK
  · exact in_no (by rw [e]; decide) hK
  · exact absurd (Or.inl e) hn
  · exact absurd (Or.inr e) hn
  · exact in_no (by rw [e]; decide) hK
theorem FM_9 {F : CS} {S : Int32} (h : FM F S) (hn : ¬ (F 0 = 7 ∨ F 0 = 8)) : F 9 = -6 := by
  rcases h with h | h | h | h | h | h | h | h | h | h
  · exact h.2.2.2.2.2.2.2.2
  · exact h.2.2.2.2.2.2.2
  · exact h.2.2.2.2.2.2
  · exact h.2.2.2.2.2.2
  · exact h.2.2.2.2.2.2
  · exact h.2.2.2.2.2
  · exact h.2.2.2.2.2
  · exact absurd (Or.inl h.1) hn
  · exact absurd (Or.inr h.1) hn
  · exact h.2.2.2.2
set_option maxHeartbeats 4000000 in
theorem sim_hang {q nf i : Nat} {X : ES} {h : CS} {N G : ES} (hR : XR q nf X h N G) (hi : i < 16) : SimI q nf (fun K => wp_X0_hangLine X (nI i) K) (fun Z K => wp_X5_hang (ms Z h N G) (nI i) K) (h 0) () () := by
  obtain ⟨⟨l0, l1, l2, l3, l5⟩, ds, hD, hS⟩ := hR.2.1 i hi
  have n4 : ¬ (6 + i = 0) := by omega
  have n6 : ¬ (0 = 6 + i) := by omega
  by_cases e1 : X (6 + i) 1 = 0
  · have z1 : N i 1 = 0 := l1.symm.trans e1
    apply simJ (r := -5) (X' := X) (h' := h) (N' := N) (G' := G)
    · intro K hK
      simp only [wp_X0_hangLine, lix_nI hi]
      simp [e1]
      exact hK
    · intro Z K hK
      refine isLine_q hi ?_
      simp only [of_1 hi, z1]
      simp
      exact hK
    · exact hR
    · rfl
  have z1 : N i 1 = 1 := by
    rcases hS with h1 | h1 | h1 | h1 | h1 | h1
    · exact absurd (l1.trans h1.2.1) e1
    · exact h1.2.1
    · exact h1.2.1
    · rcases h1.2.1 with w | w
      · exact absurd (l1.trans w) e1
      · exact w
    · exact h1.2.1
    · exact h1.2.1
  by_cases e5 : X (6 + i) 0 = 5
  · have z5 : N i 0 = 5 := l0.symm.trans e5
    simp [LSt, z5] at hS
    obtain ⟨hS1, rfl, hS3⟩ := hS
    apply simJ (r := 5)
    · intro K hK
      simp only [wp_X0_hangLine, wp_X2_isCalledByAnother, lix_nI hi, forall_eq, vuS, vuU]
      simp [updA, e1, e5]
      exact hK
    · intro Z K hK
      refine isLine_q hi ?_
      simp only [of_1 hi, z1, of_0 hi, lay_1 hi]
      simp [z5]
      exact hK
    · refine XR_ln hR hi (Nat.le_refl q) (vuS _ _ _) (fun k k1 k2 => vuN k1) rfl ?_ ?_ (by simp [updA]) (Or.inl (by simp [updA]))
      · rw [vuN n6]; exact hR.1
      · exact ⟨by simp [updA, l0, l1, l2, l3, l5], [], LD_keep hD (by simp [updA]) (by simp [updA]) (by simp [updA]) (by simp [updA]) (by simp [updA]) (by simp [updA]), by simp [LSt, updA, z5, hS3]⟩
    · rfl
  by_cases e7 : X (6 + i) 0 = 7
  · have z7 : N i 0 = 7 := l0.symm.trans e7
    simp [LSt, z7] at hS
    obtain ⟨hS1, rfl, hS3⟩ := hS
    apply simJ (r := 7)
    · intro K hK
      simp only [wp_X0_hangLine, wp_X2_isCalledByAnother, lix_nI hi, forall_eq, vuS, vuU]
      simp [updA, e1, e7]
      exact hK
    · intro Z K hK
      refine isLine_q hi ?_
      simp only [of_1 hi, z1, of_0 hi, lay_1 hi]
      simp [z7]
      exact hK
    · refine XR_ln hR hi (Nat.le_refl q) (vuS _ _ _) (fun k k1 k2 => vuN k1) rfl ?_ ?_ (by simp [updA]) (Or.inl (by simp [updA]))
      · rw [vuN n6]; exact hR.1
      · exact ⟨by simp [updA, l0, l1, l2, l3, l5], [], LD_keep hD (by simp [updA]) (by simp [updA]) (by simp [updA]) (by simp [updA]) (by simp [updA]) (by simp [updA]), by simp [LSt, updA, z7, hS3]⟩
    · rfl
  have z5 : ¬ N i 0 = 5 := fun w => e5 (l0.trans w)
  have z7 : ¬ N i 0 = 7 := fun w => e7 (l0.trans w)
  have hLn : LR q (upd (upd (upd (upd (upd (upd (X (6 + i)) 1 0) 0 0) 6 (-6)) 8 0) 4 0) 5 0) (upd (upd (upd (upd (N i) 1 0) 0 0) 10 0) 5 0) := ⟨by simp [updA, l2, l3], [], by simp [LD, updA, packL, nI_0], by simp [LSt, updA]⟩
  rcases hR.2.2.2.2.2.1 i hi with ⟨p6, hst⟩ | ⟨f, h4, pf, hF0, hwho⟩
  · apply simJ (r := X (6 + i) 0)
    · intro K hK
      simp only [wp_X0_hangLine, wp_X2_isCalledByAnother, wp_X2_leaveCall, lix_nI hi, forall_eq, vuS, vuU]
      simp [updA, e1, e5, e7, p6]
      exact hK
    · intro Z K hK
      refine isLine_q hi ?_
      simp only [of_1 hi, z1, of_0 hi, lay_1 hi, lay_0 hi, lay_10 hi, lay_5 hi, vuU, vuS]
      simp [z5, z7]
      refine fo_ptr hR hi e5 e7 Z _ _ ?_
      rw [p6]
      refine ⟨fun z => absurd z (by decide), fun _ => ?_⟩
      rw [← l0]
      exact hK
    · refine XR_ln hR hi (Nat.le_refl q) (vuS _ _ _) (fun k k1 k2 => vuN k1) rfl ?_ hLn (by simp [updA, p6]) (Or.inr ⟨p6, by simp [updA]⟩)
      rw [vuN n6]; exact hR.1
    · rfl
  have hfn : f < nf := Nat.lt_of_not_le fun z => hF0 (hR.2.2.2.2.2.2 f z h4)
  have nf9 : ¬ nI f = -6 := nI_neg (by omega)
  have hpos : (0 : Int32) ≤ nI f := nI_pos' (by omega)
  have hc1 : X (22 + f) 2 = nI i := by
    rcases hwho with a | ⟨a, b⟩
    · exact a
    · obtain ⟨t, t1, t2, t3, t4⟩ := hR.2.2.2.2.1 f h4 a
      have et := nI_inj (by omega) (by omega) (b.symm.trans t2)
      subst et
      rcases t4 with ⟨-, t4⟩ | ⟨-, t4⟩
      · exact absurd t4 e5
      · exact absurd t4 e7
  obtain ⟨⟨g0, g1, g2, g3, g4, g5, g7, g8, g9⟩, ⟨po, hpo, hpe⟩, hFM⟩ := hR.2.2.1 f h4
  have n1 : ¬ (22 + f = 6 + i) := by omega
  have n2 : ¬ (6 + i = 22 + f) := by omega
  have n3 : ¬ (22 + f = 0) := by omega
  have n5 : ¬ (0 = 22 + f) := by omega
  have n9 : ¬ (3 = 6 + i) := by omega
  have T0 : X 3 0 = 0 := hR.1.1
  by_cases h78 : X (22 + f) 0 = 7 ∨ X (22 + f) 0 = 8
  · rcases h78 with hm | hm
    · obtain ⟨t, ht, ht1, ht2, ht3⟩ := hR.2.2.2.2.1 f h4 (Or.inl hm)
      have t0 : X (6 + t) 0 = 5 := by simpa [hm] using ht3
      have b8 : ¬ t = i := fun z => by subst z; exact e5 t0
      have b9 : ¬ i = t := fun z => b8 z.symm
      have y0 : N t 0 = 5 := by rw [← (hR.2.1 t ht).1.1]; exact t0
      have m9 : G f 9 = nI t := g9.symm.trans ht1
      have m0 : G f 0 = 7 := g0.symm.trans hm
      have tn : ¬ nI t < 0 := nI_pos (by omega)
      obtain ⟨⟨k0, k1, k2, k3, k5⟩, dt, hDt, hSt⟩ := hR.2.1 t ht
      simp [LSt, y0] at hSt
      obtain ⟨hS1, rfl, hS3⟩ := hSt
      have e10 : N t 10 = 0 := hDt.2.2.1
      have L4 : X (6 + t) 4 = 0 := hDt.2.2.2.2
      have b1 : ¬ (6 + t = 22 + f) := by omega
      have b2 : ¬ (6 + t = 0) := by omega
      have b3 : ¬ (22 + f = 6 + t) := by omega
      have b4 : ¬ (0 = 6 + t) := by omega
      have b6 : ¬ (6 + t = 6 + i) := by omega
      have b7 : ¬ (6 + i = 6 + t) := by omega
      by_cases hlf : X (6 + t) 1 = 0
      · have y1 : N t 1 = 0 := k1.symm.trans hlf
        apply simJ (r := X (6 + i) 0)
        · intro K hK
          simp only [wp_X0_hangLine, wp_X0_release, wp_X2_isCalledByAnother, wp_X2_leaveCall, wp_X1_becomeFree, wp_X1_become, lix_nI hi, fix_nI h4, lix_nI ht, ht1, pf, forall_eq, updA, vuS, vuU, vuN n1, vuN n2, vuN n4, vuN n6, vuN b1, vuN b3, vuN b6, vuN b7, hlf]
          simp [updA, e1, e5, e7, nf9, t0, hlf, pf, fix_nI h4, ht1, lix_nI ht, vuN n1, vuN n2, vuN b1, vuN b3, vuN b6, vuN b7]
          exact hK
        · intro Z K hK
          refine isLine_q hi ?_
          simp only [of_1 hi, z1, of_0 hi, lay_1 hi, lay_0 hi, lay_10 hi, lay_5 hi, vuU, vuS]
          simp [z5, z7]
          refine fo_ptr hR hi e5 e7 Z _ _ ?_
          rw [pf]
          refine ⟨fun _ => ?_, fun z => absurd hpos z⟩
          simp only [ofF_0 h4, ofF_9 h4, m0, m9]
          refine in_yes (by decide) (by decide) ?_
          refine ⟨fun z => absurd z (by decide), fun _ => ?_⟩
          refine q_free h4 ?_
          simp only [wp_X5_park, of_1 ht, lay_0 ht, lay_5 ht, lay_10 ht, lay_3 ht, vuS, vuU, vuN b8, vuN b9, y1]
          simp [tn]
          try simp only [wp_X5_park, of_1 ht, lay_0 ht, lay_5 ht, lay_10 ht, lay_3 ht, vuS, vuU, vuN b8, vuN b9]
          rw [← l0]
          exact hK
        · refine XR_two2 (t := t) hR hfn hi ht b8 hF0 hc1 (Or.inl ht2) (fun _ => ht1) (by simp only [vuA, n1, n2, n3, n4, n5, n6, b1, b2, b3, b4, b6, b7, if_true, if_false]; rfl) (by simp only [vuA, n1, n2, n3, n4, n5, n6, b1, b2, b3, b4, b6, b7, if_true, if_false]; rfl) (by simp only [vuA, n1, n2, n3, n4, n5, n6, b1, b2, b3, b4, b6, b7, if_true, if_false]; rfl) (by simp only [vuA, n1, n2, n3, n4, n5, n6, b1, b2, b3, b4, b6, b7, if_true, if_false]; rfl) (fun k k1 k2 k3 k4 => by simp only [vuA, k1, k2, k3, k4, if_false]) rfl (by first | rfl | exact (vuSelf _ _).symm) ?_ ?_ ?_ ?_ ?_ ?_ ?_ ?_
          · exact hR.1
          · simp [FR, FM, frG, updA, ← g1, hpe]; exact ⟨po, hpo, rfl⟩
          · exact hLn
          · exact ⟨by simp [updA, k0, k1, k2, k3, k5, e10], [], by simp [LD, updA, packL, nI_0, e10], by simp [LSt, updA, y1]⟩
          · simp [updA]
          · simp [updA]
          · simp [updA]
          · simp [updA]
        · rfl
      · have hl1 : X (6 + t) 1 = 1 := by
          rcases hS1 with e | e
          · exact absurd (k1.trans e) hlf
          · exact k1.trans e
        have y1 : N t 1 = 1 := k1.symm.trans hl1
        apply simJ (r := X (6 + i) 0)
        · intro K hK
          simp only [wp_X0_hangLine, wp_X0_release, wp_X2_isCalledByAnother, wp_X2_leaveCall, wp_X1_becomeFree, wp_X1_become, lix_nI hi, fix_nI h4, lix_nI ht, ht1, pf, forall_eq, updA, vuS, vuU, vuN n1, vuN n2, vuN n4, vuN n6, vuN b1, vuN b3, vuN b6, vuN b7, hlf]
          simp [updA, e1, e5, e7, nf9, t0, hlf, pf, fix_nI h4, ht1, lix_nI ht, vuN n1, vuN n2, vuN b1, vuN b3, vuN b6, vuN b7]
          exact hK
        · intro Z K hK
          refine isLine_q hi ?_
          simp only [of_1 hi, z1, of_0 hi, lay_1 hi, lay_0 hi, lay_10 hi, lay_5 hi, vuU, vuS]
          simp [z5, z7]
          refine fo_ptr hR hi e5 e7 Z _ _ ?_
          rw [pf]
          refine ⟨fun _ => ?_, fun z => absurd hpos z⟩
          simp only [ofF_0 h4, ofF_9 h4, m0, m9]
          refine in_yes (by decide) (by decide) ?_
          refine ⟨fun z => absurd z (by decide), fun _ => ?_⟩
          refine q_free h4 ?_
          simp only [wp_X5_park, of_1 ht, lay_0 ht, lay_5 ht, lay_10 ht, lay_3 ht, vuS, vuU, vuN b8, vuN b9, y1]
          simp [tn]
          try simp only [wp_X5_park, of_1 ht, lay_0 ht, lay_5 ht, lay_10 ht, lay_3 ht, vuS, vuU, vuN b8, vuN b9]
          rw [← l0]
          exact hK
        · refine XR_two2 (t := t) hR hfn hi ht b8 hF0 hc1 (Or.inl ht2) (fun _ => ht1) (by simp only [vuA, n1, n2, n3, n4, n5, n6, b1, b2, b3, b4, b6, b7, if_true, if_false]; rfl) (by simp only [vuA, n1, n2, n3, n4, n5, n6, b1, b2, b3, b4, b6, b7, if_true, if_false]; rfl) (by simp only [vuA, n1, n2, n3, n4, n5, n6, b1, b2, b3, b4, b6, b7, if_true, if_false]; rfl) (by simp only [vuA, n1, n2, n3, n4, n5, n6, b1, b2, b3, b4, b6, b7, if_true, if_false]; rfl) (fun k k1 k2 k3 k4 => by simp only [vuA, k1, k2, k3, k4, if_false]) rfl (by first | rfl | exact (vuSelf _ _).symm) ?_ ?_ ?_ ?_ ?_ ?_ ?_ ?_
          · exact hR.1
          · simp [FR, FM, frG, updA, ← g1, hpe]; exact ⟨po, hpo, rfl⟩
          · exact hLn
          · exact ⟨by simp [updA, k0, k1, k2, k3, k5, e10], [], by simp [LD, updA, packL, nI_0, e10], by simp [LSt, updA, y1]⟩
          · simp [updA]
          · simp [updA]
          · simp [updA]
          · simp [updA]
        · rfl
    · obtain ⟨t, ht, ht1, ht2, ht3⟩ := hR.2.2.2.2.1 f h4 (Or.inr hm)
      have t0 : X (6 + t) 0 = 7 := by simpa [hm] using ht3
      have b8 : ¬ t = i := fun z => by subst z; exact e7 t0
      have b9 : ¬ i = t := fun z => b8 z.symm
      have y0 : N t 0 = 7 := by rw [← (hR.2.1 t ht).1.1]; exact t0
      have m9 : G f 9 = nI t := g9.symm.trans ht1
      have m0 : G f 0 = 8 := g0.symm.trans hm
      have tn : ¬ nI t < 0 := nI_pos (by omega)
      obtain ⟨⟨k0, k1, k2, k3, k5⟩, dt, hDt, hSt⟩ := hR.2.1 t ht
      simp [LSt, y0] at hSt
      obtain ⟨hS1, rfl, hS3⟩ := hSt
      have e10 : N t 10 = 0 := hDt.2.2.1
      have L4 : X (6 + t) 4 = 0 := hDt.2.2.2.2
      have b1 : ¬ (6 + t = 22 + f) := by omega
      have b2 : ¬ (6 + t = 0) := by omega
      have b3 : ¬ (22 + f = 6 + t) := by omega
      have b4 : ¬ (0 = 6 + t) := by omega
      have b6 : ¬ (6 + t = 6 + i) := by omega
      have b7 : ¬ (6 + i = 6 + t) := by omega
      by_cases hlf : X (6 + t) 1 = 0
      · have y1 : N t 1 = 0 := k1.symm.trans hlf
        apply simJ (r := X (6 + i) 0)
        · intro K hK
          simp only [wp_X0_hangLine, wp_X0_release, wp_X2_isCalledByAnother, wp_X2_leaveCall, wp_X1_becomeFree, wp_X1_become, lix_nI hi, fix_nI h4, lix_nI ht, ht1, pf, forall_eq, updA, vuS, vuU, vuN n1, vuN n2, vuN n4, vuN n6, vuN b1, vuN b3, vuN b6, vuN b7, hlf]
          simp [updA, e1, e5, e7, nf9, t0, hlf, pf, fix_nI h4, ht1, lix_nI ht, vuN n1, vuN n2, vuN b1, vuN b3, vuN b6, vuN b7]
          exact hK
        · intro Z K hK
          refine isLine_q hi ?_
          simp only [of_1 hi, z1, of_0 hi, lay_1 hi, lay_0 hi, lay_10 hi, lay_5 hi, vuU, vuS]
          simp [z5, z7]
          refine fo_ptr hR hi e5 e7 Z _ _ ?_
          rw [pf]
          refine ⟨fun _ => ?_, fun z => absurd hpos z⟩
          simp only [ofF_0 h4, ofF_9 h4, m0, m9]
          refine in_yes (by decide) (by decide) ?_
          refine ⟨fun z => absurd z (by decide), fun _ => ?_⟩
          refine q_free h4 ?_
          simp only [wp_X5_park, of_1 ht, lay_0 ht, lay_5 ht, lay_10 ht, lay_3 ht, vuS, vuU, vuN b8, vuN b9, y1]
          simp [tn]
          try simp only [wp_X5_park, of_1 ht, lay_0 ht, lay_5 ht, lay_10 ht, lay_3 ht, vuS, vuU, vuN b8, vuN b9]
          rw [← l0]
          exact hK
        · refine XR_two2 (t := t) hR hfn hi ht b8 hF0 hc1 (Or.inl ht2) (fun _ => ht1) (by simp only [vuA, n1, n2, n3, n4, n5, n6, b1, b2, b3, b4, b6, b7, if_true, if_false]; rfl) (by simp only [vuA, n1, n2, n3, n4, n5, n6, b1, b2, b3, b4, b6, b7, if_true, if_false]; rfl) (by simp only [vuA, n1, n2, n3, n4, n5, n6, b1, b2, b3, b4, b6, b7, if_true, if_false]; rfl) (by simp only [vuA, n1, n2, n3, n4, n5, n6, b1, b2, b3, b4, b6, b7, if_true, if_false]; rfl) (fun k k1 k2 k3 k4 => by simp only [vuA, k1, k2, k3, k4, if_false]) rfl (by first | rfl | exact (vuSelf _ _).symm) ?_ ?_ ?_ ?_ ?_ ?_ ?_ ?_
          · exact hR.1
          · simp [FR, FM, frG, updA, ← g1, hpe]; exact ⟨po, hpo, rfl⟩
          · exact hLn
          · exact ⟨by simp [updA, k0, k1, k2, k3, k5, e10], [], by simp [LD, updA, packL, nI_0, e10], by simp [LSt, updA, y1]⟩
          · simp [updA]
          · simp [updA]
          · simp [updA]
          · simp [updA]
        · rfl
      · have hl1 : X (6 + t) 1 = 1 := by
          rcases hS1 with e | e
          · exact absurd (k1.trans e) hlf
          · exact k1.trans e
        have y1 : N t 1 = 1 := k1.symm.trans hl1
        apply simJ (r := X (6 + i) 0)
        · intro K hK
          simp only [wp_X0_hangLine, wp_X0_release, wp_X2_isCalledByAnother, wp_X2_leaveCall, wp_X1_becomeFree, wp_X1_become, lix_nI hi, fix_nI h4, lix_nI ht, ht1, pf, forall_eq, updA, vuS, vuU, vuN n1, vuN n2, vuN n4, vuN n6, vuN b1, vuN b3, vuN b6, vuN b7, hlf]
          simp [updA, e1, e5, e7, nf9, t0, hlf, pf, fix_nI h4, ht1, lix_nI ht, vuN n1, vuN n2, vuN b1, vuN b3, vuN b6, vuN b7]
          exact hK
        · intro Z K hK
          refine isLine_q hi ?_
          simp only [of_1 hi, z1, of_0 hi, lay_1 hi, lay_0 hi, lay_10 hi, lay_5 hi, vuU, vuS]
          simp [z5, z7]
          refine fo_ptr hR hi e5 e7 Z _ _ ?_
          rw [pf]
          refine ⟨fun _ => ?_, fun z => absurd hpos z⟩
          simp only [ofF_0 h4, ofF_9 h4, m0, m9]
          refine in_yes (by decide) (by decide) ?_
          refine ⟨fun z => absurd z (by decide), fun _ => ?_⟩
          refine q_free h4 ?_
          simp only [wp_X5_park, of_1 ht, lay_0 ht, lay_5 ht, lay_10 ht, lay_3 ht, vuS, vuU, vuN b8, vuN b9, y1]
          simp [tn]
          try simp only [wp_X5_park, of_1 ht, lay_0 ht, lay_5 ht, lay_10 ht, lay_3 ht, vuS, vuU, vuN b8, vuN b9]
          rw [← l0]
          exact hK
        · refine XR_two2 (t := t) hR hfn hi ht b8 hF0 hc1 (Or.inl ht2) (fun _ => ht1) (by simp only [vuA, n1, n2, n3, n4, n5, n6, b1, b2, b3, b4, b6, b7, if_true, if_false]; rfl) (by simp only [vuA, n1, n2, n3, n4, n5, n6, b1, b2, b3, b4, b6, b7, if_true, if_false]; rfl) (by simp only [vuA, n1, n2, n3, n4, n5, n6, b1, b2, b3, b4, b6, b7, if_true, if_false]; rfl) (by simp only [vuA, n1, n2, n3, n4, n5, n6, b1, b2, b3, b4, b6, b7, if_true, if_false]; rfl) (fun k k1 k2 k3 k4 => by simp only [vuA, k1, k2, k3, k4, if_false]) rfl (by first | rfl | exact (vuSelf _ _).symm) ?_ ?_ ?_ ?_ ?_ ?_ ?_ ?_
          · exact hR.1
          · simp [FR, FM, frG, updA, ← g1, hpe]; exact ⟨po, hpo, rfl⟩
          · exact hLn
          · exact ⟨by simp [updA, k0, k1, k2, k3, k5, e10], [], by simp [LD, updA, packL, nI_0, e10], by simp [LSt, updA, y1]⟩
          · simp [updA]
          · simp [updA]
          · simp [updA]
          · simp [updA]
        · rfl
  · have h9 : X (22 + f) 9 = -6 := FM_9 hFM h78
    have m78 : ¬ (G f 0 = 7 ∨ G f 0 = 8) := by rw [← g0]; exact h78
    apply simJ (r := X (6 + i) 0)
    · intro K hK
      simp only [wp_X0_hangLine, wp_X0_release, wp_X2_isCalledByAnother, wp_X2_leaveCall, wp_X1_becomeFree, wp_X1_become, lix_nI hi, fix_nI h4, h9, lix_m6, pf, forall_eq, updA, vuS, vuU, vuN n1, vuN n2, vuN n4, vuN n6, vuN n9]
      simp [updA, e1, e5, e7, nf9, pf, fix_nI h4, h9, lix_m6, T0, vuN n1, vuN n2, vuN n9]
      exact hK
    · intro Z K hK
      refine isLine_q hi ?_
      simp only [of_1 hi, z1, of_0 hi, lay_1 hi, lay_0 hi, lay_10 hi, lay_5 hi, vuU, vuS]
      simp [z5, z7]
      refine fo_ptr hR hi e5 e7 Z _ _ ?_
      rw [pf]
      refine ⟨fun _ => ?_, fun z => absurd hpos z⟩
      simp only [ofF_0 h4]
      rw [← g0]
      refine in_no78 hFM h78 ?_
      refine ⟨fun _ => ?_, fun z => absurd rfl z⟩
      refine q_free h4 ?_
      rw [← l0]
      exact hK
    · refine XR_one2 hR hfn hi hF0 (fun w => h78 (Or.inl w)) (fun w => h78 (Or.inr w)) hc1 (by simp only [vuA, n1, n2, n3, n4, n5, n6, if_true, if_false]; rfl) (by simp only [vuA, n1, n2, n3, n4, n5, n6, if_true, if_false]; rfl) (by simp only [vuA, n1, n2, n3, n4, n5, n6, if_true, if_false]; rfl) (fun k k1 k2 k3 => by simp only [vuA, k1, k2, k3, if_false]) rfl rfl ?_ ?_ ?_ ?_
      · exact hR.1
      · simp [FR, FM, frG, updA, ← g1, hpe]; exact ⟨po, hpo, rfl⟩
      · exact hLn
      · left; simp [updA]
    · rfl
