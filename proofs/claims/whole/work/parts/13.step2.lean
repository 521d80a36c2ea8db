theorem vuC {N : ES} {c t : Nat} {a b d : CS} (h : ¬ t = c) : va_up (va_up (va_up N c a) t b) c d = va_up (va_up N c d) t b := by
  funext k
  by_cases h1 : k = c
  · subst h1; rw [vuS, vuN (fun z => h z.symm), vuS]
  · rw [vuN h1]
    by_cases h2 : k = t
    · subst h2; rw [vuS, vuS]
    · rw [vuN h2, vuN h2, vuN h1, vuN h1]
theorem vuKeep {N : ES} {c t : Nat} {a : CS} (h : ¬ t = c) : va_up N c a = va_up (va_up N c a) t (N t) := by
  funext k
  by_cases h2 : k = t
  · subst h2; rw [vuS, vuN h]
  · rw [vuN (f := va_up N c a) h2]
set_option maxHeartbeats 2000000 in
theorem sim_stepping {q nf f : Nat} {X : ES} {h : CS} {N G : ES} (hR : XR q nf X h N G) (hf : f < nf) (hm : X (22 + f) 0 = 6) : SimS q nf X h N G f := by
  have h4 : f < 4 := by have := hR.1.2.1.2.1; omega
  obtain ⟨c, hc, hc1, hc2, hc3⟩ := hR.2.2.2.1 f h4 (by rw [hm]; decide)
  obtain ⟨⟨g0, g1, g2, g3, g4, g5, g7, g8, g9⟩, ⟨po, hpo, hpe⟩, hFM⟩ := hR.2.2.1 f h4
  obtain ⟨⟨l0, l1, l2, l3, l5⟩, ds, hD, hS⟩ := hR.2.1 c hc
  obtain ⟨w0, w1, w2, w3, w4⟩ := hR.1.2.2.2.2.2.2.2.1
  have m0 : G f 0 = 6 := g0.symm.trans hm
  have m2 : G f 2 = nI c := g2.symm.trans hc1
  have n1 : ¬ (22 + f = 6 + c) := by omega
  have n2 : ¬ (6 + c = 22 + f) := by omega
  have n3 : ¬ (22 + f = 0) := by omega
  have n4 : ¬ (6 + c = 0) := by omega
  have n5 : ¬ (0 = 22 + f) := by omega
  have n6 : ¬ (0 = 6 + c) := by omega
  have n7 : ¬ (5 = 22 + f) := by omega
  have n8 : ¬ (5 = 6 + c) := by omega
  simp [FM, hm] at hFM
  have s0 : X (6 + c) 0 = 3 := by simpa [smt, hm] using hc3
  have z0 : N c 0 = 3 := l0.symm.trans s0
  simp [LSt, z0] at hS
  obtain ⟨⟨l, hl1, hl2, el⟩, ⟨a, ea, p, ep, hp1, hap, eS⟩, f7, f8, f9⟩ := id hFM
  obtain ⟨p', rfl⟩ : ∃ p', p = p' + 1 := ⟨p - 1, by omega⟩
  obtain ⟨l', rfl⟩ : ∃ l', l = l' + 1 := ⟨l - 1, by omega⟩
  have hlv : lvl (X (22 + f) 3) := ⟨l' + 1, hl1, hl2, el⟩
  have u5 : X (22 + f) 5 - 1 = nI p' := by rw [ep]; exact nI_pred p'
  have u6 : X (22 + f) 6 + 1 = nI (a + 1) := by rw [ea]; exact nI_1 a
  have v5 : G f 5 - 1 = nI p' := by rw [← g5]; exact u5
  by_cases hp : p' = 0
  · subst hp
    rw [nI_0] at u5 v5
    have v6 : G f 6 = nI (a + 1) := eS
    by_cases ha : a + 1 ≤ 4
    · have ha' : nI (a + 1) ≤ 4 := nI_le (b := 4) ha (by decide)
      have ha2 : ¬ 4 < nI (a + 1) := fun z => absurd z (nI_nlt (b := a + 1) (a := 4) ha (by decide))
      obtain ⟨t, et⟩ : ∃ t, t = 4 * l' + a := ⟨_, rfl⟩
      have ht : t < 16 := by omega
      have ev : 4 * (X (22 + f) 3 - 1) + nI (a + 1) - 1 = nI t := by
        rw [el, nI_pred, show (4 : Int32) = nI 4 from rfl, pk_mul, nI_add, show 4 * l' + (a + 1) = t + 1 by omega, nI_pred]
      have ev2 : 4 * (G f 3 - 1) + nI (a + 1) - 1 = nI t := by rw [← g3]; exact ev
      by_cases hb : X (6 + t) 0 = 0
      · have hb2 : N t 0 = 0 := by rw [← (hR.2.1 t ht).1.1]; exact hb
        have htc : ¬ t = c := fun z => by subst z; rw [hb] at s0; exact absurd s0 (by decide)
        obtain ⟨⟨k0, k1, k2, k3, k5⟩, dt, hDt, hSt⟩ := hR.2.1 t ht
        simp [LSt, hb2] at hSt
        have b1 : ¬ (6 + t = 22 + f) := by omega
        have b2 : ¬ (6 + t = 0) := by omega
        have b3 : ¬ (22 + f = 6 + t) := by omega
        have b4 : ¬ (0 = 6 + t) := by omega
        have b5 : ¬ (5 = 6 + t) := by omega
        have b6 : ¬ (6 + t = 6 + c) := by omega
        have b7 : ¬ (6 + c = 6 + t) := by omega
        have b8 : ¬ (t = c) := by omega
        have b9 : ¬ (c = t) := by omega
        apply simI
        · intro K hK
          simp only [wp_X0_takeStep, wp_X0_stepOn, wp_X1_become, wp_X0_sound, updA, forall_eq, hm, hc1, lix_nI hc, vuS, vuU, vuN n1, vuN n2, vuN n3, vuN n4, vuN n5, vuN n6, vuN n7, vuN n8, stg_0, stg_1, stg_2, stg_3, u5, u6, ha', ev, lix_nI ht, hb, hc2, vuN b1, vuN b2, vuN b3, vuN b4, vuN b5, vuN b6, vuN b7]
          simp [updA, u5, u6, ha', ev, lix_nI ht, hb, hc2, vuN b1, vuN b2, vuN b3, vuN b4, vuN b5, vuN b6, vuN b7]
          exact hK
        · intro Z K hK
          simp only [wp_X5_stepFinder, wp_X5_step, wp_X5_test, ofF_0 h4, layF_0 h4, ofF_1 h4, layF_1 h4, ofF_2 h4, layF_2 h4, ofF_3 h4, layF_3 h4, ofF_4 h4, layF_4 h4, ofF_5 h4, layF_5 h4, ofF_6 h4, layF_6 h4, ofF_7 h4, layF_7 h4, ofF_8 h4, layF_8 h4, ofF_9 h4, layF_9 h4, of_0 hc, lay_0 hc, of_1 hc, lay_1 hc, of_2 hc, lay_2 hc, of_3 hc, lay_3 hc, of_4 hc, lay_4 hc, of_5 hc, lay_5 hc, of_6 hc, lay_6 hc, of_7 hc, lay_7 hc, of_8 hc, lay_8 hc, of_9 hc, lay_9 hc, of_10 hc, lay_10 hc, cnt_0, cnt_1, cnt_2, cnt_3, cnt_4, cnt_5, cnt_6, set_0, set_1, set_2, set_3, set_4, m0, m2, of_0 ht, lay_0 ht, of_1 ht, lay_1 ht, of_2 ht, lay_2 ht, of_3 ht, lay_3 ht, of_4 ht, lay_4 ht, of_5 ht, lay_5 ht, of_6 ht, lay_6 ht, of_7 ht, lay_7 ht, of_8 ht, lay_8 ht, of_9 ht, lay_9 ht, of_10 ht, lay_10 ht, vuN b8, vuN b9, vuU, vuS, v5, v6, ha', ha2, ev2, hb2]
          simp [updA, m0, m2, v5, v6, ha', ha2, ev2, hb2]
          simp only [lay_0 hc, lay_3 hc, lay_2 hc, of_2 hc, of_0 ht, lay_0 ht, lay_5 hc, lay_10 hc, cnt_2, cnt_3, cnt_4, cnt_5, vuU, vuS, vuN b8, vuN b9]
          try simp [updA, m2, hb2]
          try simp only [lay_0 hc, lay_3 hc, lay_2 hc, of_2 hc, of_0 ht, lay_0 ht, lay_5 hc, lay_10 hc, cnt_2, cnt_3, cnt_4, cnt_5, vuU, vuS, vuN b8, vuN b9]
          exact hK
        · refine XS_two2 (t := t) hR hf hc ht b8 (by rw [hm]; decide) hc1 (Or.inr hSt.2.2.2) (fun z => by rw [hm] at z; exact absurd z (by decide)) (by simp only [vuA, n1, n2, n3, n4, n5, n6, b1, b2, b3, b4, b6, b7, if_true, if_false]; rfl) (by simp only [vuA, n1, n2, n3, n4, n5, n6, b1, b2, b3, b4, b6, b7, if_true, if_false]; rfl) (by simp only [vuA, n1, n2, n3, n4, n5, n6, b1, b2, b3, b4, b6, b7, if_true, if_false]; rfl) (by simp only [vuA, n1, n2, n3, n4, n5, n6, b1, b2, b3, b4, b6, b7, if_true, if_false]; rfl) (fun k k1 k2 k3 k4 => by simp only [vuA, k1, k2, k3, k4, if_false]) rfl (by first | rfl | exact (vuSelf _ _).symm) ?_ ?_ ?_ ?_ ?_ ?_ ?_ ?_ ?_ ?_ ?_ ?_
          · exact HR_11 hR.1
          · simp [FR, FM, frG, updA, ← g0, ← g1, ← g2, ← g3, ← g4, ← g5, ← g7, ← g8, ← g9, hm, hFM, hpe]; exact ⟨po, hpo, rfl⟩
          · exact ⟨by simp [updA, l0, l1, l2, l3, l5], ds, LD_keep hD (by simp [updA]) (by simp [updA]) (by simp [updA]) (by simp [updA]) (by simp [updA]) (by simp [updA]), by simp [LSt, updA, z0, hS]⟩
          · exact ⟨by simp [updA, k0, k1, k2, k3, k5], [], by obtain ⟨x1, x2, x3, x4⟩ := hSt; subst x2; exact LD_keep hDt (by simp [updA]) (by simp [updA]) (by simp [updA]) (by simp [updA]) (by simp [updA]) (by simp [updA]), by simp [LSt, updA, hSt]⟩
          · simp [updA, hc1, hc2, smt]
          · simp [updA, hc2]
          · simp [updA, hc1, hc2]
          · simp [updA, hc2]
          · intro hg; first | (refine absurd hg ?_; simp [go, s0]; done) | (simp [S6, updA, s0, hc2]; done)
          · first | (simp [go, t0]; done) | (simp [go, hb]; done)
          · first | exact Or.inl ht2 | exact Or.inr hb
          · first | rfl | (simp [updA]; done)
      · have hb2 : ¬ N t 0 = 0 := by rw [← (hR.2.1 t ht).1.1]; exact hb
        have b1 : ¬ (6 + t = 22 + f) := by omega
        have b2 : ¬ (6 + t = 0) := by omega
        apply simI
        · intro K hK
          simp only [wp_X0_takeStep, wp_X0_stepOn, wp_X1_become, wp_X0_sound, updA, forall_eq, hm, hc1, lix_nI hc, vuS, vuU, vuN n1, vuN n2, vuN n3, vuN n4, vuN n5, vuN n6, vuN n7, vuN n8, stg_0, stg_1, stg_2, stg_3, u5, u6, ha', ev, lix_nI ht, vuN b1, hb]
          simp [updA, u5, u6, ha', ev, lix_nI ht, vuN b1, hb]
          exact hK
        · intro Z K hK
          simp only [wp_X5_stepFinder, wp_X5_step, wp_X5_test, wp_X5_sound, ofF_0 h4, layF_0 h4, ofF_1 h4, layF_1 h4, ofF_2 h4, layF_2 h4, ofF_3 h4, layF_3 h4, ofF_4 h4, layF_4 h4, ofF_5 h4, layF_5 h4, ofF_6 h4, layF_6 h4, ofF_7 h4, layF_7 h4, ofF_8 h4, layF_8 h4, ofF_9 h4, layF_9 h4, of_0 hc, lay_0 hc, of_1 hc, lay_1 hc, of_2 hc, lay_2 hc, of_3 hc, lay_3 hc, of_4 hc, lay_4 hc, of_5 hc, lay_5 hc, of_6 hc, lay_6 hc, of_7 hc, lay_7 hc, of_8 hc, lay_8 hc, of_9 hc, lay_9 hc, of_10 hc, lay_10 hc, cnt_0, cnt_1, cnt_2, cnt_3, cnt_4, cnt_5, cnt_6, set_0, set_1, set_2, set_3, set_4, m0, m2, vuU, vuS, v5, v6, ha', ha2, ev2, of_0 ht, hb2]
          simp [updA, m0, m2, v5, v6, ha', ha2, ev2, of_0 ht, hb2]
          simp only [lay_0 hc, lay_3 hc, cnt_4, cnt_5, vuU, vuS]
          try simp
          exact hK
        · refine XS_one2 hR hf hc (by rw [hm]; decide) (by rw [hm]; decide) (by rw [hm]; decide) hc1 (by simp only [vuA, n1, n2, n3, n4, n5, n6, if_true, if_false]; rfl) (by simp only [vuA, n1, n2, n3, n4, n5, n6, if_true, if_false]; rfl) (by simp only [vuA, n1, n2, n3, n4, n5, n6, if_true, if_false]; rfl) (fun k k1 k2 k3 => by simp only [vuA, k1, k2, k3, if_false]) (by first | rfl | exact (vuSelf _ _).symm) (by first | rfl | exact (vuSelf _ _).symm) ?_ ?_ ?_ ?_ ?_ ?_
          · exact HR_13 hR.1
          · simp [FR, FM, frG, updA, ← g0, ← g1, ← g2, ← g3, ← g4, ← g5, ← g7, ← g8, ← g9, hm, hFM, hpe, f7, f8, f9]; exact ⟨po, hpo, rfl⟩
          · exact ⟨by simp [updA, l0, l1, l2, l3, l5], ds, LD_keep hD (by simp [updA]) (by simp [updA]) (by simp [updA]) (by simp [updA]) (by simp [updA]) (by simp [updA]), by simp [LSt, updA, z0, hS]⟩
          · simp [updA, hm, hc1, hc2, smt, s0]
          · exact fun hg => by simp [S6, updA, s0, hc2]
          · first | rfl | (simp [updA]; done)
    · have ha' : ¬ nI (a + 1) ≤ 4 := nI_ge (a := 4) (by omega) (by omega)
      have ha2 : 4 < nI (a + 1) := nI_lt (a := 4) (by omega) (by omega)
      apply simI
      · intro K hK
        simp only [wp_X0_takeStep, wp_X0_stepOn, wp_X1_become, wp_X0_sound, updA, forall_eq, hm, hc1, lix_nI hc, vuS, vuU, vuN n1, vuN n2, vuN n3, vuN n4, vuN n5, vuN n6, vuN n7, vuN n8, stg_0, stg_1, stg_2, stg_3, u5, u6, ha', ha2]
        simp [updA, u5, u6, ha', ha2]
        exact hK
      · intro Z K hK
        simp only [wp_X5_stepFinder, wp_X5_step, wp_X5_sound, ofF_0 h4, layF_0 h4, ofF_1 h4, layF_1 h4, ofF_2 h4, layF_2 h4, ofF_3 h4, layF_3 h4, ofF_4 h4, layF_4 h4, ofF_5 h4, layF_5 h4, ofF_6 h4, layF_6 h4, ofF_7 h4, layF_7 h4, ofF_8 h4, layF_8 h4, ofF_9 h4, layF_9 h4, of_0 hc, lay_0 hc, of_1 hc, lay_1 hc, of_2 hc, lay_2 hc, of_3 hc, lay_3 hc, of_4 hc, lay_4 hc, of_5 hc, lay_5 hc, of_6 hc, lay_6 hc, of_7 hc, lay_7 hc, of_8 hc, lay_8 hc, of_9 hc, lay_9 hc, of_10 hc, lay_10 hc, cnt_0, cnt_1, cnt_2, cnt_3, cnt_4, cnt_5, cnt_6, set_0, set_1, set_2, set_3, set_4, m0, m2, vuU, vuS, v5, v6, ha', ha2]
        simp [updA, m0, m2, v5, v6, ha', ha2]
        simp only [lay_0 hc, lay_3 hc, cnt_4, cnt_5, vuU, vuS]
        try simp
        exact hK
      · refine XS_one2 hR hf hc (by rw [hm]; decide) (by rw [hm]; decide) (by rw [hm]; decide) hc1 (by simp only [vuA, n1, n2, n3, n4, n5, n6, if_true, if_false]; rfl) (by simp only [vuA, n1, n2, n3, n4, n5, n6, if_true, if_false]; rfl) (by simp only [vuA, n1, n2, n3, n4, n5, n6, if_true, if_false]; rfl) (fun k k1 k2 k3 => by simp only [vuA, k1, k2, k3, if_false]) (by first | rfl | exact (vuSelf _ _).symm) (by first | rfl | exact (vuSelf _ _).symm) ?_ ?_ ?_ ?_ ?_ ?_
        · exact HR_14 hR.1
        · simp [FR, FM, frG, updA, ← g0, ← g1, ← g2, ← g3, ← g4, ← g5, ← g7, ← g8, ← g9, hm, hFM, hpe, f7, f8, f9]; exact ⟨po, hpo, rfl⟩
        · exact ⟨by simp [updA, l0, l1, l2, l3, l5], ds, LD_keep hD (by simp [updA]) (by simp [updA]) (by simp [updA]) (by simp [updA]) (by simp [updA]) (by simp [updA]), by simp [LSt, updA, z0, hS]⟩
        · simp [updA, hm, hc1, hc2, smt, s0]
        · exact fun hg => by simp [S6, updA, s0, hc2]
        · first | rfl | (simp [updA]; done)
  · obtain ⟨p2, rfl⟩ : ∃ p2, p' = p2 + 1 := ⟨p' - 1, by omega⟩
    have q1 : ¬ nI (p2 + 1) ≤ 0 := nle_s (by omega)
    have q3 : 0 < nI (p2 + 1) := nI_lt (a := 0) (by omega) (by omega)
    apply simI
    · intro K hK
      simp only [wp_X0_takeStep, wp_X0_stepOn, updA, forall_eq, hm, hc1, lix_nI hc, vuS, vuU, vuN n1, vuN n2, vuN n3, vuN n4, vuN n5, vuN n6, vuN n7, vuN n8, stg_0, stg_1, stg_2, stg_3, u5, u6, q1, q3]
      simp [updA, u5, u6, q1, q3]
      exact hK
    · intro Z K hK
      simp only [wp_X5_stepFinder, wp_X5_step, ofF_0 h4, layF_0 h4, ofF_1 h4, layF_1 h4, ofF_2 h4, layF_2 h4, ofF_3 h4, layF_3 h4, ofF_4 h4, layF_4 h4, ofF_5 h4, layF_5 h4, ofF_6 h4, layF_6 h4, ofF_7 h4, layF_7 h4, ofF_8 h4, layF_8 h4, ofF_9 h4, layF_9 h4, of_0 hc, lay_0 hc, of_1 hc, lay_1 hc, of_2 hc, lay_2 hc, of_3 hc, lay_3 hc, of_4 hc, lay_4 hc, of_5 hc, lay_5 hc, of_6 hc, lay_6 hc, of_7 hc, lay_7 hc, of_8 hc, lay_8 hc, of_9 hc, lay_9 hc, of_10 hc, lay_10 hc, cnt_0, cnt_1, cnt_2, cnt_3, cnt_4, cnt_5, cnt_6, set_0, set_1, set_2, set_3, set_4, m0, m2, vuU, vuS, v5, q1, q3]
      simp [updA, m0, m2, v5, q1, q3]
      exact hK
    · refine XS_one2 hR hf hc (by rw [hm]; decide) (by rw [hm]; decide) (by rw [hm]; decide) hc1 (by simp only [vuA, n1, n2, n3, n4, n5, n6, if_true, if_false]; rfl) (by simp only [vuA, n1, n2, n3, n4, n5, n6, if_true, if_false]; rfl) (by simp only [vuA, n1, n2, n3, n4, n5, n6, if_true, if_false]; rfl) (fun k k1 k2 k3 => by simp only [vuA, k1, k2, k3, if_false]) (by first | rfl | exact (vuSelf _ _).symm) (by first | rfl | exact (vuSelf _ _).symm) ?_ ?_ ?_ ?_ ?_ ?_
      · exact hR.1
      · simp [FR, FM, frG, updA, ← g0, ← g1, ← g2, ← g3, ← g4, ← g5, ← g7, ← g8, ← g9, hm, hFM, hpe, f7, f8, f9, u5, u6, v5, hlv, eS]; exact ⟨⟨po, hpo, rfl⟩, a + 1, rfl, p2 + 1, rfl, by omega, by omega, by congr 1; omega⟩
      · exact ⟨by simp [updA, l0, l1, l2, l3, l5], ds, LD_keep hD (by simp [updA]) (by simp [updA]) (by simp [updA]) (by simp [updA]) (by simp [updA]) (by simp [updA]), by simp [LSt, updA, z0, hS]⟩
      · simp [updA, hm, hc1, hc2, smt, s0]
      · exact fun hg => by simp [S6, updA, s0, hc2]
      · first | rfl | (simp [updA]; done)

set_option maxHeartbeats 2000000 in
theorem sim_calling {q nf f : Nat} {X : ES} {h : CS} {N G : ES} (hR : XR q nf X h N G) (hf : f < nf) (hm : X (22 + f) 0 = 7) : SimS q nf X h N G f := by
  have h4 : f < 4 := by have := hR.1.2.1.2.1; omega
  obtain ⟨c, hc, hc1, hc2, hc3⟩ := hR.2.2.2.1 f h4 (by rw [hm]; decide)
  obtain ⟨⟨g0, g1, g2, g3, g4, g5, g7, g8, g9⟩, ⟨po, hpo, hpe⟩, hFM⟩ := hR.2.2.1 f h4
  obtain ⟨⟨l0, l1, l2, l3, l5⟩, ds, hD, hS⟩ := hR.2.1 c hc
  obtain ⟨w0, w1, w2, w3, w4⟩ := hR.1.2.2.2.2.2.2.2.1
  have m0 : G f 0 = 7 := g0.symm.trans hm
  have m2 : G f 2 = nI c := g2.symm.trans hc1
  have n1 : ¬ (22 + f = 6 + c) := by omega
  have n2 : ¬ (6 + c = 22 + f) := by omega
  have n3 : ¬ (22 + f = 0) := by omega
  have n4 : ¬ (6 + c = 0) := by omega
  have n5 : ¬ (0 = 22 + f) := by omega
  have n6 : ¬ (0 = 6 + c) := by omega
  have n7 : ¬ (5 = 22 + f) := by omega
  have n8 : ¬ (5 = 6 + c) := by omega
  simp [FM, hm] at hFM
  have s0 : X (6 + c) 0 = 4 := by simpa [smt, hm] using hc3
  have z0 : N c 0 = 4 := l0.symm.trans s0
  simp [LSt, z0] at hS
  obtain ⟨t, ht, ht1, ht2, ht3⟩ := hR.2.2.2.2.1 f h4 (Or.inl hm)
  have t0 : X (6 + t) 0 = 5 := by simpa [hm] using ht3
  have htc : ¬ t = c := fun z => by subst z; rw [t0] at s0; exact absurd s0 (by decide)
  have y0 : N t 0 = 5 := by rw [← (hR.2.1 t ht).1.1]; exact t0
  have m9 : G f 9 = nI t := g9.symm.trans ht1
  obtain ⟨⟨k0, k1, k2, k3, k5⟩, dt, hDt, hSt⟩ := hR.2.1 t ht
  simp [LSt, y0] at hSt
  obtain ⟨hS1, rfl, hS3⟩ := hSt
  have e10 : N t 10 = 0 := hDt.2.2.1
  have b1 : ¬ (6 + t = 22 + f) := by omega
  have b2 : ¬ (6 + t = 0) := by omega
  have b3 : ¬ (22 + f = 6 + t) := by omega
  have b4 : ¬ (0 = 6 + t) := by omega
  have b5 : ¬ (5 = 6 + t) := by omega
  have b6 : ¬ (6 + t = 6 + c) := by omega
  have b7 : ¬ (6 + c = 6 + t) := by omega
  have b8 : ¬ (t = c) := by omega
  have b9 : ¬ (c = t) := by omega
  by_cases hlf : X (6 + t) 1 = 0
  · have y1 : N t 1 = 0 := k1.symm.trans hlf
    by_cases htm : X (22 + f) 7 + 1 < X 5 1
    · apply simI
      · intro K hK
        simp only [wp_X0_takeStep, wp_X0_ringOn, wp_X1_become, wp_X0_sound, wp_X2_leaveCall, updA, ht1, lix_nI ht, forall_eq, hm, hc1, lix_nI hc, vuS, vuU, vuN n1, vuN n2, vuN n3, vuN n4, vuN n5, vuN n6, vuN n7, vuN n8, stg_0, stg_1, stg_2, stg_3, hlf, htm, vuN b1, vuN b2, vuN b3, vuN b4, vuN b5, vuN b6, vuN b7]
        simp [updA, hlf, htm, vuN b1, vuN b2, vuN b3, vuN b4, vuN b5, vuN b6, vuN b7]
        exact hK
      · intro Z K hK
        simp only [wp_X5_stepFinder, wp_X5_ring, wp_X5_reaches, wp_X5_meter, m9, ofF_0 h4, layF_0 h4, ofF_1 h4, layF_1 h4, ofF_2 h4, layF_2 h4, ofF_3 h4, layF_3 h4, ofF_4 h4, layF_4 h4, ofF_5 h4, layF_5 h4, ofF_6 h4, layF_6 h4, ofF_7 h4, layF_7 h4, ofF_8 h4, layF_8 h4, ofF_9 h4, layF_9 h4, of_0 hc, lay_0 hc, of_1 hc, lay_1 hc, of_2 hc, lay_2 hc, of_3 hc, lay_3 hc, of_4 hc, lay_4 hc, of_5 hc, lay_5 hc, of_6 hc, lay_6 hc, of_7 hc, lay_7 hc, of_8 hc, lay_8 hc, of_9 hc, lay_9 hc, of_10 hc, lay_10 hc, cnt_0, cnt_1, cnt_2, cnt_3, cnt_4, cnt_5, cnt_6, set_0, set_1, set_2, set_3, set_4, m0, m2, of_0 ht, lay_0 ht, of_1 ht, lay_1 ht, of_2 ht, lay_2 ht, of_3 ht, lay_3 ht, of_4 ht, lay_4 ht, of_5 ht, lay_5 ht, of_6 ht, lay_6 ht, of_7 ht, lay_7 ht, of_8 ht, lay_8 ht, of_9 ht, lay_9 ht, of_10 ht, lay_10 ht, vuN b8, vuN b9, vuU, vuS, y1, ← g7, ← w1, htm]
        simp [updA, m0, m2, y1, ← g7, ← w1, htm]
        exact hK
      · refine XS_two2 (t := t) hR hf hc ht b8 (by rw [hm]; decide) hc1 (Or.inl ht2) (fun _ => ht1) (by simp only [vuA, n1, n2, n3, n4, n5, n6, b1, b2, b3, b4, b6, b7, if_true, if_false]; rfl) (by simp only [vuA, n1, n2, n3, n4, n5, n6, b1, b2, b3, b4, b6, b7, if_true, if_false]; rfl) (by simp only [vuA, n1, n2, n3, n4, n5, n6, b1, b2, b3, b4, b6, b7, if_true, if_false]; rfl) (by simp only [vuA, n1, n2, n3, n4, n5, n6, b1, b2, b3, b4, b6, b7, if_true, if_false]; rfl) (fun k k1 k2 k3 k4 => by simp only [vuA, k1, k2, k3, k4, if_false]) (by rw [vuSelf, vuSelf]) (by first | rfl | exact (vuSelf _ _).symm) ?_ ?_ ?_ ?_ ?_ ?_ ?_ ?_ ?_ ?_ ?_ ?_
        · exact hR.1
        · simp [FR, FM, frG, updA, ← g0, ← g1, ← g2, ← g3, ← g4, ← g5, ← g7, ← g8, ← g9, hm, hFM, hpe]; exact ⟨po, hpo, rfl⟩
        · exact hR.2.1 c hc
        · rw [vuSelf]; exact hR.2.1 t ht
        · simp [updA, hm, hc1, hc2, smt, s0]
        · simp [updA, hm, ht1, ht2, t0]
        · simp [updA, hm, hc1, hc2]
        · simp [updA, hm, ht1, ht2]
        · intro hg; first | (refine absurd hg ?_; simp [go, s0]; done) | (simp [S6, updA, s0, hc2]; done)
        · first | (simp [go, t0]; done) | (simp [go, hb]; done)
        · first | exact Or.inl ht2 | exact Or.inr hb
        · first | rfl | (simp [updA]; done)
    · apply simI
      · intro K hK
        simp only [wp_X0_takeStep, wp_X0_ringOn, wp_X1_become, wp_X0_sound, wp_X2_leaveCall, updA, ht1, lix_nI ht, forall_eq, hm, hc1, lix_nI hc, vuS, vuU, vuN n1, vuN n2, vuN n3, vuN n4, vuN n5, vuN n6, vuN n7, vuN n8, stg_0, stg_1, stg_2, stg_3, hlf, htm, vuN b1, vuN b2, vuN b3, vuN b4, vuN b5, vuN b6, vuN b7]
        simp [updA, hlf, htm, vuN b1, vuN b2, vuN b3, vuN b4, vuN b5, vuN b6, vuN b7]
        exact hK
      · intro Z K hK
        simp only [wp_X5_stepFinder, wp_X5_ring, wp_X5_reaches, wp_X5_meter, wp_X5_sound, m9, ofF_0 h4, layF_0 h4, ofF_1 h4, layF_1 h4, ofF_2 h4, layF_2 h4, ofF_3 h4, layF_3 h4, ofF_4 h4, layF_4 h4, ofF_5 h4, layF_5 h4, ofF_6 h4, layF_6 h4, ofF_7 h4, layF_7 h4, ofF_8 h4, layF_8 h4, ofF_9 h4, layF_9 h4, of_0 hc, lay_0 hc, of_1 hc, lay_1 hc, of_2 hc, lay_2 hc, of_3 hc, lay_3 hc, of_4 hc, lay_4 hc, of_5 hc, lay_5 hc, of_6 hc, lay_6 hc, of_7 hc, lay_7 hc, of_8 hc, lay_8 hc, of_9 hc, lay_9 hc, of_10 hc, lay_10 hc, cnt_0, cnt_1, cnt_2, cnt_3, cnt_4, cnt_5, cnt_6, set_0, set_1, set_2, set_3, set_4, m0, m2, of_0 ht, lay_0 ht, of_1 ht, lay_1 ht, of_2 ht, lay_2 ht, of_3 ht, lay_3 ht, of_4 ht, lay_4 ht, of_5 ht, lay_5 ht, of_6 ht, lay_6 ht, of_7 ht, lay_7 ht, of_8 ht, lay_8 ht, of_9 ht, lay_9 ht, of_10 ht, lay_10 ht, vuN b8, vuN b9, vuU, vuS, y1, ← g7, ← w1, htm]
        simp [updA, m0, m2, y1, ← g7, ← w1, htm]
        simp only [lay_0 hc, lay_3 hc, lay_2 hc, of_2 hc, of_0 ht, lay_0 ht, lay_5 hc, lay_10 hc, cnt_2, cnt_3, cnt_4, cnt_5, vuU, vuS, vuN b8, vuN b9]
        try simp
        try simp only [lay_0 hc, lay_3 hc, lay_2 hc, of_2 hc, of_0 ht, lay_0 ht, lay_5 hc, lay_10 hc, cnt_2, cnt_3, cnt_4, cnt_5, vuU, vuS, vuN b8, vuN b9]
        exact hK
      · refine XS_two2 (t := t) hR hf hc ht b8 (by rw [hm]; decide) hc1 (Or.inl ht2) (fun _ => ht1) (by simp only [vuA, n1, n2, n3, n4, n5, n6, b1, b2, b3, b4, b6, b7, if_true, if_false]; rfl) (by simp only [vuA, n1, n2, n3, n4, n5, n6, b1, b2, b3, b4, b6, b7, if_true, if_false]; rfl) (by simp only [vuA, n1, n2, n3, n4, n5, n6, b1, b2, b3, b4, b6, b7, if_true, if_false]; rfl) (by simp only [vuA, n1, n2, n3, n4, n5, n6, b1, b2, b3, b4, b6, b7, if_true, if_false]; rfl) (fun k k1 k2 k3 k4 => by simp only [vuA, k1, k2, k3, k4, if_false]) rfl (by first | rfl | exact (vuSelf _ _).symm) ?_ ?_ ?_ ?_ ?_ ?_ ?_ ?_ ?_ ?_ ?_ ?_
        · exact HR_13 hR.1
        · simp [FR, FM, frG, updA, ← g0, ← g1, ← g2, ← g3, ← g4, ← g5, ← g7, ← g8, ← g9, hm, hFM, hpe]; exact ⟨po, hpo, rfl⟩
        · exact ⟨by simp [updA, l0, l1, l2, l3, l5], ds, LD_keep hD (by simp [updA]) (by simp [updA]) (by simp [updA]) (by simp [updA]) (by simp [updA]) (by simp [updA]), by simp [LSt, updA, z0, hS]⟩
        · exact ⟨by simp [updA, k0, k1, k2, k3, k5, e10], [], by simp [LD, updA, packL, nI_0, e10], by simp [LSt, updA, y1]⟩
        · simp [updA, hm, hc1, hc2, smt, s0]
        · simp [updA]
        · simp [updA, hc1, hc2]
        · simp [updA]
        · intro hg; first | (refine absurd hg ?_; simp [go, s0]; done) | (simp [S6, updA, s0, hc2]; done)
        · first | (simp [go, t0]; done) | (simp [go, hb]; done)
        · first | exact Or.inl ht2 | exact Or.inr hb
        · first | rfl | (simp [updA]; done)
  · have hl1 : X (6 + t) 1 = 1 := by
      rcases hS1 with e | e
      · exact absurd (k1.trans e) hlf
      · exact k1.trans e
    have y1 : N t 1 = 1 := k1.symm.trans hl1
    apply simI
    · intro K hK
      simp only [wp_X0_takeStep, wp_X0_ringOn, wp_X1_become, wp_X0_sound, wp_X2_leaveCall, updA, ht1, lix_nI ht, forall_eq, hm, hc1, lix_nI hc, vuS, vuU, vuN n1, vuN n2, vuN n3, vuN n4, vuN n5, vuN n6, vuN n7, vuN n8, stg_0, stg_1, stg_2, stg_3, hlf, vuN b1, vuN b2, vuN b3, vuN b4, vuN b5, vuN b6, vuN b7]
      simp [updA, hlf, vuN b1, vuN b2, vuN b3, vuN b4, vuN b5, vuN b6, vuN b7]
      exact hK
    · intro Z K hK
      simp only [wp_X5_stepFinder, wp_X5_ring, wp_X5_meter, m9, ofF_0 h4, layF_0 h4, ofF_1 h4, layF_1 h4, ofF_2 h4, layF_2 h4, ofF_3 h4, layF_3 h4, ofF_4 h4, layF_4 h4, ofF_5 h4, layF_5 h4, ofF_6 h4, layF_6 h4, ofF_7 h4, layF_7 h4, ofF_8 h4, layF_8 h4, ofF_9 h4, layF_9 h4, of_0 hc, lay_0 hc, of_1 hc, lay_1 hc, of_2 hc, lay_2 hc, of_3 hc, lay_3 hc, of_4 hc, lay_4 hc, of_5 hc, lay_5 hc, of_6 hc, lay_6 hc, of_7 hc, lay_7 hc, of_8 hc, lay_8 hc, of_9 hc, lay_9 hc, of_10 hc, lay_10 hc, cnt_0, cnt_1, cnt_2, cnt_3, cnt_4, cnt_5, cnt_6, set_0, set_1, set_2, set_3, set_4, m0, m2, of_0 ht, lay_0 ht, of_1 ht, lay_1 ht, of_2 ht, lay_2 ht, of_3 ht, lay_3 ht, of_4 ht, lay_4 ht, of_5 ht, lay_5 ht, of_6 ht, lay_6 ht, of_7 ht, lay_7 ht, of_8 ht, lay_8 ht, of_9 ht, lay_9 ht, of_10 ht, lay_10 ht, vuN b8, vuN b9, vuU, vuS, y1]
      simp [updA, m0, m2, y1]
      try simp only [lay_0 hc, lay_3 hc, lay_2 hc, of_2 hc, of_0 ht, lay_0 ht, lay_5 hc, lay_10 hc, cnt_2, cnt_3, cnt_4, cnt_5, vuU, vuS, vuN b8, vuN b9]
      try simp [updA]
      try simp only [lay_0 hc, lay_3 hc, lay_2 hc, of_2 hc, of_0 ht, lay_0 ht, lay_5 hc, lay_10 hc, cnt_2, cnt_3, cnt_4, cnt_5, vuU, vuS, vuN b8, vuN b9]
      exact hK
    · refine XS_two2 (t := t) hR hf hc ht b8 (by rw [hm]; decide) hc1 (Or.inl ht2) (fun _ => ht1) (by simp only [vuA, n1, n2, n3, n4, n5, n6, b1, b2, b3, b4, b6, b7, if_true, if_false]; rfl) (by simp only [vuA, n1, n2, n3, n4, n5, n6, b1, b2, b3, b4, b6, b7, if_true, if_false]; rfl) (by simp only [vuA, n1, n2, n3, n4, n5, n6, b1, b2, b3, b4, b6, b7, if_true, if_false]; rfl) (by simp only [vuA, n1, n2, n3, n4, n5, n6, b1, b2, b3, b4, b6, b7, if_true, if_false]; rfl) (fun k k1 k2 k3 k4 => by simp only [vuA, k1, k2, k3, k4, if_false]) (vuC b8) (by first | rfl | exact (vuSelf _ _).symm) ?_ ?_ ?_ ?_ ?_ ?_ ?_ ?_ ?_ ?_ ?_ ?_
      · exact HR_12 hR.1
      · simp [FR, FM, frG, updA, ← g0, ← g1, ← g2, ← g3, ← g4, ← g5, ← g7, ← g8, ← g9, hm, hFM, hpe]; exact ⟨po, hpo, rfl⟩
      · exact ⟨by simp [updA, l0, l1, l2, l3, l5], ds, LD_keep hD (by simp [updA]) (by simp [updA]) (by simp [updA]) (by simp [updA]) (by simp [updA]) (by simp [updA]), by simp [LSt, updA, z0, hS]⟩
      · exact ⟨by simp [updA, k0, k1, k2, k3, k5], [], LD_keep hDt (by simp [updA]) (by simp [updA]) (by simp [updA]) (by simp [updA]) (by simp [updA]) (by simp [updA]), by simp [LSt, updA, hS3, y1]⟩
      · simp [updA, hm, hc1, hc2, smt, s0]
      · simp [updA, ht1, ht2]
      · simp [updA, hc1, hc2]
      · simp [updA, ht1, ht2]
      · intro hg; first | (refine absurd hg ?_; simp [go, s0]; done) | (simp [S6, updA, s0, hc2]; done)
      · first | (simp [go, t0]; done) | (simp [go, hb]; done)
      · first | exact Or.inl ht2 | exact Or.inr hb
      · first | rfl | (simp [updA]; done)

set_option maxHeartbeats 2000000 in
theorem sim_through {q nf f : Nat} {X : ES} {h : CS} {N G : ES} (hR : XR q nf X h N G) (hf : f < nf) (hm : X (22 + f) 0 = 8) : SimS q nf X h N G f := by
  have h4 : f < 4 := by have := hR.1.2.1.2.1; omega
  obtain ⟨c, hc, hc1, hc2, hc3⟩ := hR.2.2.2.1 f h4 (by rw [hm]; decide)
  obtain ⟨⟨g0, g1, g2, g3, g4, g5, g7, g8, g9⟩, ⟨po, hpo, hpe⟩, hFM⟩ := hR.2.2.1 f h4
  obtain ⟨⟨l0, l1, l2, l3, l5⟩, ds, hD, hS⟩ := hR.2.1 c hc
  obtain ⟨w0, w1, w2, w3, w4⟩ := hR.1.2.2.2.2.2.2.2.1
  have m0 : G f 0 = 8 := g0.symm.trans hm
  have m2 : G f 2 = nI c := g2.symm.trans hc1
  have n1 : ¬ (22 + f = 6 + c) := by omega
  have n2 : ¬ (6 + c = 22 + f) := by omega
  have n3 : ¬ (22 + f = 0) := by omega
  have n4 : ¬ (6 + c = 0) := by omega
  have n5 : ¬ (0 = 22 + f) := by omega
  have n6 : ¬ (0 = 6 + c) := by omega
  have n7 : ¬ (5 = 22 + f) := by omega
  have n8 : ¬ (5 = 6 + c) := by omega
  simp [FM, hm] at hFM
  have s0 : X (6 + c) 0 = 6 := by simpa [smt, hm] using hc3
  have z0 : N c 0 = 6 := l0.symm.trans s0
  simp [LSt, z0] at hS
  obtain ⟨t, ht, ht1, ht2, ht3⟩ := hR.2.2.2.2.1 f h4 (Or.inr hm)
  have t0 : X (6 + t) 0 = 7 := by simpa [hm] using ht3
  have htc : ¬ t = c := fun z => by subst z; rw [t0] at s0; exact absurd s0 (by decide)
  have y0 : N t 0 = 7 := by rw [← (hR.2.1 t ht).1.1]; exact t0
  have m9 : G f 9 = nI t := g9.symm.trans ht1
  obtain ⟨⟨k0, k1, k2, k3, k5⟩, dt, hDt, hSt⟩ := hR.2.1 t ht
  simp [LSt, y0] at hSt
  obtain ⟨hS1, rfl, hS3⟩ := hSt
  have e10 : N t 10 = 0 := hDt.2.2.1
  have b1 : ¬ (6 + t = 22 + f) := by omega
  have b2 : ¬ (6 + t = 0) := by omega
  have b3 : ¬ (22 + f = 6 + t) := by omega
  have b4 : ¬ (0 = 6 + t) := by omega
  have b5 : ¬ (5 = 6 + t) := by omega
  have b6 : ¬ (6 + t = 6 + c) := by omega
  have b7 : ¬ (6 + c = 6 + t) := by omega
  have b8 : ¬ (t = c) := by omega
  have b9 : ¬ (c = t) := by omega
  obtain ⟨pv, pv1, pv2, pve⟩ := hR.1.2.2.2.2.2.2.2.2.2.2.1
  have per1 : ¬ X 5 2 ≤ 0 := by rw [w2, pve]; exact nI_nle (by omega) (by omega)
  have per2 : ¬ X 5 2 = 0 := by rw [w2, pve]; exact nI_ne0 (by omega) (by omega)
  have per3 : ¬ h 7 = 0 := by rw [pve]; exact nI_ne0 (by omega) (by omega)
  have per4 : 0 < X 5 2 := Int32.not_le.mp per1
  by_cases hlf : X (6 + t) 1 = 0
  · have y1 : N t 1 = 0 := k1.symm.trans hlf
    by_cases htm : X (22 + f) 8 + 1 < X 5 3
    · by_cases hmet : X (22 + f) 7 + 1 - (X (22 + f) 7 + 1) / X 5 2 * X 5 2 = 0
      · have hmet2 : G f 7 + 1 - (G f 7 + 1) / h 7 * h 7 = 0 := by rw [← g7, ← w2]; exact hmet
        apply simI
        · intro K hK
          simp only [wp_X0_takeStep, wp_X0_talkOn, wp_X1_becomeFree, wp_X1_become, wp_X2_leaveCall, updA, ht1, lix_nI ht, forall_eq, hm, hc1, lix_nI hc, vuS, vuU, vuN n1, vuN n2, vuN n3, vuN n4, vuN n5, vuN n6, vuN n7, vuN n8, stg_0, stg_1, stg_2, stg_3, hlf, htm, hmet, per1, per2, per4, vuN b1, vuN b2, vuN b3, vuN b4, vuN b5, vuN b6, vuN b7]
          simp [updA, hlf, htm, hmet, per1, per2, per4, vuN b1, vuN b2, vuN b3, vuN b4, vuN b5, vuN b6, vuN b7]
          exact hK
        · intro Z K hK
          simp only [wp_X5_stepFinder, wp_X5_talk, wp_X5_reaches, wp_X5_meter, m9, ofF_0 h4, layF_0 h4, ofF_1 h4, layF_1 h4, ofF_2 h4, layF_2 h4, ofF_3 h4, layF_3 h4, ofF_4 h4, layF_4 h4, ofF_5 h4, layF_5 h4, ofF_6 h4, layF_6 h4, ofF_7 h4, layF_7 h4, ofF_8 h4, layF_8 h4, ofF_9 h4, layF_9 h4, of_0 hc, lay_0 hc, of_1 hc, lay_1 hc, of_2 hc, lay_2 hc, of_3 hc, lay_3 hc, of_4 hc, lay_4 hc, of_5 hc, lay_5 hc, of_6 hc, lay_6 hc, of_7 hc, lay_7 hc, of_8 hc, lay_8 hc, of_9 hc, lay_9 hc, of_10 hc, lay_10 hc, cnt_0, cnt_1, cnt_2, cnt_3, cnt_4, cnt_5, cnt_6, set_0, set_1, set_2, set_3, set_4, m0, m2, of_0 ht, lay_0 ht, of_1 ht, lay_1 ht, of_2 ht, lay_2 ht, of_3 ht, lay_3 ht, of_4 ht, lay_4 ht, of_5 ht, lay_5 ht, of_6 ht, lay_6 ht, of_7 ht, lay_7 ht, of_8 ht, lay_8 ht, of_9 ht, lay_9 ht, of_10 ht, lay_10 ht, vuN b8, vuN b9, vuU, vuS, y1, ← g8, ← w3, htm, hmet2, per3]
          simp [updA, m0, m2, y1, ← g8, ← w3, htm, hmet2, per3]
          try simp only [lay_0 hc, lay_3 hc, lay_2 hc, of_2 hc, of_0 ht, lay_0 ht, lay_5 hc, lay_10 hc, cnt_2, cnt_3, cnt_4, cnt_5, vuU, vuS, vuN b8, vuN b9]
          try simp [updA]
          try simp only [lay_0 hc, lay_3 hc, lay_2 hc, of_2 hc, of_0 ht, lay_0 ht, lay_5 hc, lay_10 hc, cnt_2, cnt_3, cnt_4, cnt_5, vuU, vuS, vuN b8, vuN b9]
          exact hK
        · refine XS_two2 (t := t) hR hf hc ht b8 (by rw [hm]; decide) hc1 (Or.inl ht2) (fun _ => ht1) (by simp only [vuA, n1, n2, n3, n4, n5, n6, b1, b2, b3, b4, b6, b7, if_true, if_false]; rfl) (by simp only [vuA, n1, n2, n3, n4, n5, n6, b1, b2, b3, b4, b6, b7, if_true, if_false]; rfl) (by simp only [vuA, n1, n2, n3, n4, n5, n6, b1, b2, b3, b4, b6, b7, if_true, if_false]; rfl) (by simp only [vuA, n1, n2, n3, n4, n5, n6, b1, b2, b3, b4, b6, b7, if_true, if_false]; rfl) (fun k k1 k2 k3 k4 => by simp only [vuA, k1, k2, k3, k4, if_false]) (vuKeep b8) (by first | rfl | exact (vuSelf _ _).symm) ?_ ?_ ?_ ?_ ?_ ?_ ?_ ?_ ?_ ?_ ?_ ?_
          · exact hR.1
          · simp [FR, FM, frG, updA, ← g0, ← g1, ← g2, ← g3, ← g4, ← g5, ← g7, ← g8, ← g9, hm, hFM, hpe]; exact ⟨po, hpo, rfl⟩
          · exact ⟨by simp [updA, l0, l1, l2, l3, l5], ds, LD_keep hD (by simp [updA]) (by simp [updA]) (by simp [updA]) (by simp [updA]) (by simp [updA]) (by simp [updA]), by simp [LSt, updA, z0, hS]⟩
          · exact hR.2.1 t ht
          · simp [updA, hm, hc1, hc2, smt, s0]
          · simp [updA, hm, ht1, ht2, t0]
          · simp [updA, hm, hc1, hc2]
          · simp [updA, hm, ht1, ht2]
          · intro hg; first | (refine absurd hg ?_; simp [go, s0]; done) | (simp [S6, updA, s0, hc2]; done)
          · first | (simp [go, t0]; done) | (simp [go, hb]; done)
          · first | exact Or.inl ht2 | exact Or.inr hb
          · first | rfl | (simp [updA]; done)
      · have hmet2 : ¬ G f 7 + 1 - (G f 7 + 1) / h 7 * h 7 = 0 := by rw [← g7, ← w2]; exact hmet
        apply simI
        · intro K hK
          simp only [wp_X0_takeStep, wp_X0_talkOn, wp_X1_becomeFree, wp_X1_become, wp_X2_leaveCall, updA, ht1, lix_nI ht, forall_eq, hm, hc1, lix_nI hc, vuS, vuU, vuN n1, vuN n2, vuN n3, vuN n4, vuN n5, vuN n6, vuN n7, vuN n8, stg_0, stg_1, stg_2, stg_3, hlf, htm, hmet, per1, per2, per4, vuN b1, vuN b2, vuN b3, vuN b4, vuN b5, vuN b6, vuN b7]
          simp [updA, hlf, htm, hmet, per1, per2, per4, vuN b1, vuN b2, vuN b3, vuN b4, vuN b5, vuN b6, vuN b7]
          exact hK
        · intro Z K hK
          simp only [wp_X5_stepFinder, wp_X5_talk, wp_X5_reaches, wp_X5_meter, m9, ofF_0 h4, layF_0 h4, ofF_1 h4, layF_1 h4, ofF_2 h4, layF_2 h4, ofF_3 h4, layF_3 h4, ofF_4 h4, layF_4 h4, ofF_5 h4, layF_5 h4, ofF_6 h4, layF_6 h4, ofF_7 h4, layF_7 h4, ofF_8 h4, layF_8 h4, ofF_9 h4, layF_9 h4, of_0 hc, lay_0 hc, of_1 hc, lay_1 hc, of_2 hc, lay_2 hc, of_3 hc, lay_3 hc, of_4 hc, lay_4 hc, of_5 hc, lay_5 hc, of_6 hc, lay_6 hc, of_7 hc, lay_7 hc, of_8 hc, lay_8 hc, of_9 hc, lay_9 hc, of_10 hc, lay_10 hc, cnt_0, cnt_1, cnt_2, cnt_3, cnt_4, cnt_5, cnt_6, set_0, set_1, set_2, set_3, set_4, m0, m2, of_0 ht, lay_0 ht, of_1 ht, lay_1 ht, of_2 ht, lay_2 ht, of_3 ht, lay_3 ht, of_4 ht, lay_4 ht, of_5 ht, lay_5 ht, of_6 ht, lay_6 ht, of_7 ht, lay_7 ht, of_8 ht, lay_8 ht, of_9 ht, lay_9 ht, of_10 ht, lay_10 ht, vuN b8, vuN b9, vuU, vuS, y1, ← g8, ← w3, htm, hmet2, per3]
          simp [updA, m0, m2, y1, ← g8, ← w3, htm, hmet2, per3]
          try simp only [lay_0 hc, lay_3 hc, lay_2 hc, of_2 hc, of_0 ht, lay_0 ht, lay_5 hc, lay_10 hc, cnt_2, cnt_3, cnt_4, cnt_5, vuU, vuS, vuN b8, vuN b9]
          try simp [updA]
          try simp only [lay_0 hc, lay_3 hc, lay_2 hc, of_2 hc, of_0 ht, lay_0 ht, lay_5 hc, lay_10 hc, cnt_2, cnt_3, cnt_4, cnt_5, vuU, vuS, vuN b8, vuN b9]
          exact hK
        · refine XS_two2 (t := t) hR hf hc ht b8 (by rw [hm]; decide) hc1 (Or.inl ht2) (fun _ => ht1) (by simp only [vuA, n1, n2, n3, n4, n5, n6, b1, b2, b3, b4, b6, b7, if_true, if_false]; rfl) (by simp only [vuA, n1, n2, n3, n4, n5, n6, b1, b2, b3, b4, b6, b7, if_true, if_false]; rfl) (by simp only [vuA, n1, n2, n3, n4, n5, n6, b1, b2, b3, b4, b6, b7, if_true, if_false]; rfl) (by simp only [vuA, n1, n2, n3, n4, n5, n6, b1, b2, b3, b4, b6, b7, if_true, if_false]; rfl) (fun k k1 k2 k3 k4 => by simp only [vuA, k1, k2, k3, k4, if_false]) (by rw [vuSelf, vuSelf]) (by first | rfl | exact (vuSelf _ _).symm) ?_ ?_ ?_ ?_ ?_ ?_ ?_ ?_ ?_ ?_ ?_ ?_
          · exact hR.1
          · simp [FR, FM, frG, updA, ← g0, ← g1, ← g2, ← g3, ← g4, ← g5, ← g7, ← g8, ← g9, hm, hFM, hpe]; exact ⟨po, hpo, rfl⟩
          · exact hR.2.1 c hc
          · rw [vuSelf]; exact hR.2.1 t ht
          · simp [updA, hm, hc1, hc2, smt, s0]
          · simp [updA, hm, ht1, ht2, t0]
          · simp [updA, hm, hc1, hc2]
          · simp [updA, hm, ht1, ht2]
          · intro hg; first | (refine absurd hg ?_; simp [go, s0]; done) | (simp [S6, updA, s0, hc2]; done)
          · first | (simp [go, t0]; done) | (simp [go, hb]; done)
          · first | exact Or.inl ht2 | exact Or.inr hb
          · first | rfl | (simp [updA]; done)
    · apply simI
      · intro K hK
        simp only [wp_X0_takeStep, wp_X0_talkOn, wp_X1_becomeFree, wp_X1_become, wp_X2_leaveCall, updA, ht1, lix_nI ht, forall_eq, hm, hc1, lix_nI hc, vuS, vuU, vuN n1, vuN n2, vuN n3, vuN n4, vuN n5, vuN n6, vuN n7, vuN n8, stg_0, stg_1, stg_2, stg_3, hlf, htm, per1, per2, per4, vuN b1, vuN b2, vuN b3, vuN b4, vuN b5, vuN b6, vuN b7]
        simp [updA, hlf, htm, per1, per2, per4, vuN b1, vuN b2, vuN b3, vuN b4, vuN b5, vuN b6, vuN b7]
        exact hK
      · intro Z K hK
        simp only [wp_X5_stepFinder, wp_X5_talk, wp_X5_reaches, wp_X5_meter, m9, ofF_0 h4, layF_0 h4, ofF_1 h4, layF_1 h4, ofF_2 h4, layF_2 h4, ofF_3 h4, layF_3 h4, ofF_4 h4, layF_4 h4, ofF_5 h4, layF_5 h4, ofF_6 h4, layF_6 h4, ofF_7 h4, layF_7 h4, ofF_8 h4, layF_8 h4, ofF_9 h4, layF_9 h4, of_0 hc, lay_0 hc, of_1 hc, lay_1 hc, of_2 hc, lay_2 hc, of_3 hc, lay_3 hc, of_4 hc, lay_4 hc, of_5 hc, lay_5 hc, of_6 hc, lay_6 hc, of_7 hc, lay_7 hc, of_8 hc, lay_8 hc, of_9 hc, lay_9 hc, of_10 hc, lay_10 hc, cnt_0, cnt_1, cnt_2, cnt_3, cnt_4, cnt_5, cnt_6, set_0, set_1, set_2, set_3, set_4, m0, m2, of_0 ht, lay_0 ht, of_1 ht, lay_1 ht, of_2 ht, lay_2 ht, of_3 ht, lay_3 ht, of_4 ht, lay_4 ht, of_5 ht, lay_5 ht, of_6 ht, lay_6 ht, of_7 ht, lay_7 ht, of_8 ht, lay_8 ht, of_9 ht, lay_9 ht, of_10 ht, lay_10 ht, vuN b8, vuN b9, vuU, vuS, y1, ← g8, ← w3, htm, per3]
        simp [updA, m0, m2, y1, ← g8, ← w3, htm, per3]
        refine q_free h4 ?_
        simp only [wp_X5_park, lay_0 hc, lay_5 hc, lay_10 hc, lay_3 hc, lay_0 ht, vuU, vuS, vuN b8, vuN b9]
        exact hK
      · refine XS_two2 (t := t) hR hf hc ht b8 (by rw [hm]; decide) hc1 (Or.inl ht2) (fun _ => ht1) (by simp only [vuA, n1, n2, n3, n4, n5, n6, b1, b2, b3, b4, b6, b7, if_true, if_false]; rfl) (by simp only [vuA, n1, n2, n3, n4, n5, n6, b1, b2, b3, b4, b6, b7, if_true, if_false]; rfl) (by simp only [vuA, n1, n2, n3, n4, n5, n6, b1, b2, b3, b4, b6, b7, if_true, if_false]; rfl) (by simp only [vuA, n1, n2, n3, n4, n5, n6, b1, b2, b3, b4, b6, b7, if_true, if_false]; rfl) (fun k k1 k2 k3 k4 => by simp only [vuA, k1, k2, k3, k4, if_false]) rfl (by first | rfl | exact (vuSelf _ _).symm) ?_ ?_ ?_ ?_ ?_ ?_ ?_ ?_ ?_ ?_ ?_ ?_
        · exact hR.1
        · simp [FR, FM, frG, updA, ← g0, ← g1, ← g2, ← g3, ← g4, ← g5, ← g7, ← g8, ← g9, hm, hFM, hpe]; exact ⟨po, hpo, rfl⟩
        · exact ⟨by simp [updA, l0, l1, l2, l3, l5], [], by simp [LD, updA, packL, nI_0], by simp [LSt, updA, hS]⟩
        · exact ⟨by simp [updA, k0, k1, k2, k3, k5, e10], [], by simp [LD, updA, packL, nI_0, e10], by simp [LSt, updA, y1]⟩
        · simp [updA]
        · simp [updA]
        · simp [updA]
        · simp [updA]
        · intro hg; first | (refine absurd hg ?_; simp [go, s0]; done) | (simp [S6, updA, s0, hc2]; done)
        · first | (simp [go, t0]; done) | (simp [go, hb]; done)
        · first | exact Or.inl ht2 | exact Or.inr hb
        · first | rfl | (simp [updA]; done)
  · have hl1 : X (6 + t) 1 = 1 := by
      rcases hS1 with e | e
      · exact absurd (k1.trans e) hlf
      · exact k1.trans e
    have y1 : N t 1 = 1 := k1.symm.trans hl1
    by_cases hmet : X (22 + f) 7 + 1 - (X (22 + f) 7 + 1) / X 5 2 * X 5 2 = 0
    · have hmet2 : G f 7 + 1 - (G f 7 + 1) / h 7 * h 7 = 0 := by rw [← g7, ← w2]; exact hmet
      apply simI
      · intro K hK
        simp only [wp_X0_takeStep, wp_X0_talkOn, wp_X1_becomeFree, wp_X1_become, wp_X2_leaveCall, updA, ht1, lix_nI ht, forall_eq, hm, hc1, lix_nI hc, vuS, vuU, vuN n1, vuN n2, vuN n3, vuN n4, vuN n5, vuN n6, vuN n7, vuN n8, stg_0, stg_1, stg_2, stg_3, hlf, hmet, per1, per2, per4, vuN b1, vuN b2, vuN b3, vuN b4, vuN b5, vuN b6, vuN b7]
        simp [updA, hlf, hmet, per1, per2, per4, vuN b1, vuN b2, vuN b3, vuN b4, vuN b5, vuN b6, vuN b7]
        exact hK
      · intro Z K hK
        simp only [wp_X5_stepFinder, wp_X5_talk, wp_X5_reaches, wp_X5_meter, m9, ofF_0 h4, layF_0 h4, ofF_1 h4, layF_1 h4, ofF_2 h4, layF_2 h4, ofF_3 h4, layF_3 h4, ofF_4 h4, layF_4 h4, ofF_5 h4, layF_5 h4, ofF_6 h4, layF_6 h4, ofF_7 h4, layF_7 h4, ofF_8 h4, layF_8 h4, ofF_9 h4, layF_9 h4, of_0 hc, lay_0 hc, of_1 hc, lay_1 hc, of_2 hc, lay_2 hc, of_3 hc, lay_3 hc, of_4 hc, lay_4 hc, of_5 hc, lay_5 hc, of_6 hc, lay_6 hc, of_7 hc, lay_7 hc, of_8 hc, lay_8 hc, of_9 hc, lay_9 hc, of_10 hc, lay_10 hc, cnt_0, cnt_1, cnt_2, cnt_3, cnt_4, cnt_5, cnt_6, set_0, set_1, set_2, set_3, set_4, m0, m2, of_0 ht, lay_0 ht, of_1 ht, lay_1 ht, of_2 ht, lay_2 ht, of_3 ht, lay_3 ht, of_4 ht, lay_4 ht, of_5 ht, lay_5 ht, of_6 ht, lay_6 ht, of_7 ht, lay_7 ht, of_8 ht, lay_8 ht, of_9 ht, lay_9 ht, of_10 ht, lay_10 ht, vuN b8, vuN b9, vuU, vuS, y1, hmet2, per3]
        simp [updA, m0, m2, y1, hmet2, per3]
        try simp only [lay_0 hc, lay_3 hc, lay_2 hc, of_2 hc, of_0 ht, lay_0 ht, lay_5 hc, lay_10 hc, cnt_2, cnt_3, cnt_4, cnt_5, vuU, vuS, vuN b8, vuN b9]
        try simp [updA]
        try simp only [lay_0 hc, lay_3 hc, lay_2 hc, of_2 hc, of_0 ht, lay_0 ht, lay_5 hc, lay_10 hc, cnt_2, cnt_3, cnt_4, cnt_5, vuU, vuS, vuN b8, vuN b9]
        exact hK
      · refine XS_two2 (t := t) hR hf hc ht b8 (by rw [hm]; decide) hc1 (Or.inl ht2) (fun _ => ht1) (by simp only [vuA, n1, n2, n3, n4, n5, n6, b1, b2, b3, b4, b6, b7, if_true, if_false]; rfl) (by simp only [vuA, n1, n2, n3, n4, n5, n6, b1, b2, b3, b4, b6, b7, if_true, if_false]; rfl) (by simp only [vuA, n1, n2, n3, n4, n5, n6, b1, b2, b3, b4, b6, b7, if_true, if_false]; rfl) (by simp only [vuA, n1, n2, n3, n4, n5, n6, b1, b2, b3, b4, b6, b7, if_true, if_false]; rfl) (fun k k1 k2 k3 k4 => by simp only [vuA, k1, k2, k3, k4, if_false]) (vuKeep b8) (by first | rfl | exact (vuSelf _ _).symm) ?_ ?_ ?_ ?_ ?_ ?_ ?_ ?_ ?_ ?_ ?_ ?_
        · exact hR.1
        · simp [FR, FM, frG, updA, ← g0, ← g1, ← g2, ← g3, ← g4, ← g5, ← g7, ← g8, ← g9, hm, hFM, hpe]; exact ⟨po, hpo, rfl⟩
        · exact ⟨by simp [updA, l0, l1, l2, l3, l5], ds, LD_keep hD (by simp [updA]) (by simp [updA]) (by simp [updA]) (by simp [updA]) (by simp [updA]) (by simp [updA]), by simp [LSt, updA, z0, hS]⟩
        · exact hR.2.1 t ht
        · simp [updA, hm, hc1, hc2, smt, s0]
        · simp [updA, hm, ht1, ht2, t0]
        · simp [updA, hm, hc1, hc2]
        · simp [updA, hm, ht1, ht2]
        · intro hg; first | (refine absurd hg ?_; simp [go, s0]; done) | (simp [S6, updA, s0, hc2]; done)
        · first | (simp [go, t0]; done) | (simp [go, hb]; done)
        · first | exact Or.inl ht2 | exact Or.inr hb
        · first | rfl | (simp [updA]; done)
    · have hmet2 : ¬ G f 7 + 1 - (G f 7 + 1) / h 7 * h 7 = 0 := by rw [← g7, ← w2]; exact hmet
      apply simI
      · intro K hK
        simp only [wp_X0_takeStep, wp_X0_talkOn, wp_X1_becomeFree, wp_X1_become, wp_X2_leaveCall, updA, ht1, lix_nI ht, forall_eq, hm, hc1, lix_nI hc, vuS, vuU, vuN n1, vuN n2, vuN n3, vuN n4, vuN n5, vuN n6, vuN n7, vuN n8, stg_0, stg_1, stg_2, stg_3, hlf, hmet, per1, per2, per4, vuN b1, vuN b2, vuN b3, vuN b4, vuN b5, vuN b6, vuN b7]
        simp [updA, hlf, hmet, per1, per2, per4, vuN b1, vuN b2, vuN b3, vuN b4, vuN b5, vuN b6, vuN b7]
        exact hK
      · intro Z K hK
        simp only [wp_X5_stepFinder, wp_X5_talk, wp_X5_reaches, wp_X5_meter, m9, ofF_0 h4, layF_0 h4, ofF_1 h4, layF_1 h4, ofF_2 h4, layF_2 h4, ofF_3 h4, layF_3 h4, ofF_4 h4, layF_4 h4, ofF_5 h4, layF_5 h4, ofF_6 h4, layF_6 h4, ofF_7 h4, layF_7 h4, ofF_8 h4, layF_8 h4, ofF_9 h4, layF_9 h4, of_0 hc, lay_0 hc, of_1 hc, lay_1 hc, of_2 hc, lay_2 hc, of_3 hc, lay_3 hc, of_4 hc, lay_4 hc, of_5 hc, lay_5 hc, of_6 hc, lay_6 hc, of_7 hc, lay_7 hc, of_8 hc, lay_8 hc, of_9 hc, lay_9 hc, of_10 hc, lay_10 hc, cnt_0, cnt_1, cnt_2, cnt_3, cnt_4, cnt_5, cnt_6, set_0, set_1, set_2, set_3, set_4, m0, m2, of_0 ht, lay_0 ht, of_1 ht, lay_1 ht, of_2 ht, lay_2 ht, of_3 ht, lay_3 ht, of_4 ht, lay_4 ht, of_5 ht, lay_5 ht, of_6 ht, lay_6 ht, of_7 ht, lay_7 ht, of_8 ht, lay_8 ht, of_9 ht, lay_9 ht, of_10 ht, lay_10 ht, vuN b8, vuN b9, vuU, vuS, y1, hmet2, per3]
        simp [updA, m0, m2, y1, hmet2, per3]
        try simp only [lay_0 hc, lay_3 hc, lay_2 hc, of_2 hc, of_0 ht, lay_0 ht, lay_5 hc, lay_10 hc, cnt_2, cnt_3, cnt_4, cnt_5, vuU, vuS, vuN b8, vuN b9]
        try simp [updA]
        try simp only [lay_0 hc, lay_3 hc, lay_2 hc, of_2 hc, of_0 ht, lay_0 ht, lay_5 hc, lay_10 hc, cnt_2, cnt_3, cnt_4, cnt_5, vuU, vuS, vuN b8, vuN b9]
        exact hK
      · refine XS_two2 (t := t) hR hf hc ht b8 (by rw [hm]; decide) hc1 (Or.inl ht2) (fun _ => ht1) (by simp only [vuA, n1, n2, n3, n4, n5, n6, b1, b2, b3, b4, b6, b7, if_true, if_false]; rfl) (by simp only [vuA, n1, n2, n3, n4, n5, n6, b1, b2, b3, b4, b6, b7, if_true, if_false]; rfl) (by simp only [vuA, n1, n2, n3, n4, n5, n6, b1, b2, b3, b4, b6, b7, if_true, if_false]; rfl) (by simp only [vuA, n1, n2, n3, n4, n5, n6, b1, b2, b3, b4, b6, b7, if_true, if_false]; rfl) (fun k k1 k2 k3 k4 => by simp only [vuA, k1, k2, k3, k4, if_false]) (by rw [vuSelf, vuSelf]) (by first | rfl | exact (vuSelf _ _).symm) ?_ ?_ ?_ ?_ ?_ ?_ ?_ ?_ ?_ ?_ ?_ ?_
        · exact hR.1
        · simp [FR, FM, frG, updA, ← g0, ← g1, ← g2, ← g3, ← g4, ← g5, ← g7, ← g8, ← g9, hm, hFM, hpe]; exact ⟨po, hpo, rfl⟩
        · exact hR.2.1 c hc
        · rw [vuSelf]; exact hR.2.1 t ht
        · simp [updA, hm, hc1, hc2, smt, s0]
        · simp [updA, hm, ht1, ht2, t0]
        · simp [updA, hm, hc1, hc2]
        · simp [updA, hm, ht1, ht2]
        · intro hg; first | (refine absurd hg ?_; simp [go, s0]; done) | (simp [S6, updA, s0, hc2]; done)
        · first | (simp [go, t0]; done) | (simp [go, hb]; done)
        · first | exact Or.inl ht2 | exact Or.inr hb
        · first | rfl | (simp [updA]; done)

/-- a free finder stays -/
theorem sim_free {q nf f : Nat} {X : ES} {h : CS} {N G : ES} (hR : XR q nf X h N G) (hf : f < nf) (hm : X (22 + f) 0 = 0) : SimS q nf X h N G f := by
  have h4 : f < 4 := by have := hR.1.2.1.2.1; omega
  have m0 : G f 0 = 0 := by rw [← (hR.2.2.1 f h4).1.1]; exact hm
  refine simI (X' := X) (h' := h) (N' := N) (G' := G) (fun K hK => ?_) (fun Z K hK => ?_) ⟨hR, fun i _ _ _ => rfl, fun i hi hp _ => absurd hm (XR_ptr hR h4 hi hp).1, rfl⟩
  · simp [wp_X0_takeStep, hm]; exact hK
  · simp only [wp_X5_stepFinder, ofF_0 h4, m0]; simp; exact hK
theorem sim_step {q nf f : Nat} {X : ES} {h : CS} {N G : ES} (hR : XR q nf X h N G) (hf : f < nf) : SimS q nf X h N G f := by
  have h4 : f < 4 := by have := hR.1.2.1.2.1; omega
  rcases FM_modes (hR.2.2.1 f h4).2.2 with e | e | e | e | e | e | e | e | e | e
  · exact sim_free hR hf e
  · exact sim_seek hR hf e
  · exact sim_ready hR hf e
  · exact sim_rise hR hf e
  · exact sim_hunt hR hf e
  · exact sim_linked hR hf e
  · exact sim_stepping hR hf e
  · exact sim_calling hR hf e
  · exact sim_through hR hf e
  · exact sim_sound hR hf e

