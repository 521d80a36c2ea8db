-- ===== the class's steps are these functions =====
theorem en_rem {a b : Int} (h1 : 0 ≤ a) (h2 : a < 2147483648) (h3 : 0 < b) (h4 : b < 2147483648) : en a - en a / en b * en b = en (a % b) := by
  obtain ⟨n, rfl⟩ := Int.eq_ofNat_of_zero_le h1
  obtain ⟨m, rfl⟩ := Int.eq_ofNat_of_zero_le (Int.le_of_lt h3)
  rw [en_nat, en_nat, pk_rem (by omega) (by omega) (by omega), ← en_nat, Int.natCast_emod]
theorem stg_0 {X : ES} {K : Int32 → Prop} : wp_X0_settingAt X 0 K = K (X 5 0) := by
  unfold wp_X0_settingAt; exact propext ⟨fun q => ((q.2 (by decide)).2 (by decide)).2, fun q => ⟨fun z => absurd z (by decide), fun _ => ⟨fun z => absurd z (by decide), fun _ => ⟨vp_in_nI (n := 0) (by decide) (by decide), q⟩⟩⟩⟩
theorem stg_1 {X : ES} {K : Int32 → Prop} : wp_X0_settingAt X 1 K = K (X 5 1) := by
  unfold wp_X0_settingAt; exact propext ⟨fun q => ((q.2 (by decide)).2 (by decide)).2, fun q => ⟨fun z => absurd z (by decide), fun _ => ⟨fun z => absurd z (by decide), fun _ => ⟨vp_in_nI (n := 1) (by decide) (by decide), q⟩⟩⟩⟩
theorem stg_2 {X : ES} {K : Int32 → Prop} : wp_X0_settingAt X 2 K = K (X 5 2) := by
  unfold wp_X0_settingAt; exact propext ⟨fun q => ((q.2 (by decide)).2 (by decide)).2, fun q => ⟨fun z => absurd z (by decide), fun _ => ⟨fun z => absurd z (by decide), fun _ => ⟨vp_in_nI (n := 2) (by decide) (by decide), q⟩⟩⟩⟩
theorem stg_3 {X : ES} {K : Int32 → Prop} : wp_X0_settingAt X 3 K = K (X 5 3) := by
  unfold wp_X0_settingAt; exact propext ⟨fun q => ((q.2 (by decide)).2 (by decide)).2, fun q => ⟨fun z => absurd z (by decide), fun _ => ⟨fun z => absurd z (by decide), fun _ => ⟨vp_in_nI (n := 3) (by decide) (by decide), q⟩⟩⟩⟩
theorem stg_4 {X : ES} {K : Int32 → Prop} : wp_X0_settingAt X 4 K = K (X 5 4) := by
  unfold wp_X0_settingAt; exact propext ⟨fun q => ((q.2 (by decide)).2 (by decide)).2, fun q => ⟨fun z => absurd z (by decide), fun _ => ⟨fun z => absurd z (by decide), fun _ => ⟨vp_in_nI (n := 4) (by decide) (by decide), q⟩⟩⟩⟩
section WF
variable {S : SS} {X : ES} {k c t : Nat} {K : ES → Prop}
theorem w_seek (h : Ag S X) (hk : 22 ≤ k ∧ k < 26) (hc : 6 ≤ c ∧ c < 22) (b1 : 0 ≤ S k 1 ∧ S k 1 < 16) (b2 : 0 ≤ S k 2 ∧ S k 2 < 16) (hK : ∀ X', Ag (f_seek S k c) X' → K X') : wp_X0_seek X k c K := by
  have rf1 := h.f hk (j := 1) (by decide)
  have rf2 := h.f hk (j := 2) (by decide)
  have rh10 := h.h (j := 10) (by decide) (by decide)
  have n1 : ¬ k = c := by omega
  have n2 : ¬ c = k := by omega
  have n3 : ¬ 0 = k := by omega
  have n4 : ¬ 0 = c := by omega
  have n5 : ¬ 5 = k := by omega
  have n6 : ¬ 5 = c := by omega
  simp only [wp_X0_seek, wp_X1_become, forall_eq]
  refine ⟨fun e => hK _ ?_, fun e => hK _ ?_⟩
  · rw [rf1, rf2, en_eq (by omega) (by omega) (by omega) (by omega)] at e
    rw [f_seek, if_pos e]
    repeat' first | exact h | refine Ag.up ?_ ?_ | refine Ag.slf ?_
    all_goals first | rfl | (simp [vuA, updA, upA, bcm, bfr, lvc, en_s, en_p, n1, n2, n3, n4, n5, n6, rf1, rf2, rh10]; done)
  · rw [rf1, rf2, en_eq (by omega) (by omega) (by omega) (by omega)] at e
    rw [f_seek, if_neg e]
    refine h.slf.up ?_
    rw [rf1, en_s]
    exact en_rem (b := 16) (by omega) (by omega) (by omega) (by omega)
theorem take_v (d : Int) : (if en d &&& 15 = 0 then (10 : Int32) else en d &&& 15) = en (pls d) := by
  unfold pls dgt
  by_cases e : en d &&& 15 = 0
  · rw [if_pos e, e]; rfl
  · rw [if_neg e, if_neg, en_of]
    intro z
    exact e (Int32.toInt_inj.mp z)
theorem w_await (h : Ag S X) (hk : 22 ≤ k ∧ k < 26) (hc : 6 ≤ c ∧ c < 22) {m : Int} {p3 : Int32} (hm : p3 = en m) (b7 : 0 ≤ S k 7 ∧ S k 7 < 1000000) (b5 : 0 ≤ S c 5 ∧ S c 5 ≤ 4) (bs : 0 ≤ S 5 0 ∧ S 5 0 < 1000000) (hK : ∀ X', Ag (f_await S k c m) X' → K X') : wp_X0_awaitDigit X k c p3 K := by
  have rf7 := h.f hk (j := 7) (by decide)
  have rl4 := h.l hc (j := 4) (by decide)
  have rl5 := h.l hc (j := 5) (by decide)
  have rh15 := h.h (j := 15) (by decide) (by decide)
  have rs0 := h.s (j := 0) (by decide)
  have n1 : ¬ k = c := by omega
  have n2 : ¬ c = k := by omega
  have n3 : ¬ 0 = k := by omega
  have n4 : ¬ 0 = c := by omega
  have n5 : ¬ 5 = k := by omega
  have n6 : ¬ 5 = c := by omega
  simp only [wp_X0_awaitDigit, wp_X1_become, wp_X1_becomeFree, wp_X2_leaveCall, wp_X2_takePulses, stg_0, forall_eq]
  refine ⟨fun e => ?_, fun e => ?_⟩
  · have e1 : S c 5 ≤ 0 := by
      rw [rl5] at e
      exact (en_le (b := 0) (by omega) (by omega) (by omega) (by omega)).mp e
    refine ⟨fun e2 => hK _ ?_, fun e2 => hK _ ?_⟩
    · rw [vuS, pk_us, vuN n5, rf7, rs0, en_s, en_lt (by omega) (by omega) (by omega) (by omega)] at e2
      rw [f_await, if_pos e1, if_pos e2]
      repeat' first | exact h | refine Ag.up ?_ ?_ | refine Ag.slf ?_
      all_goals first | rfl | (simp [vuA, updA, upA, bcm, bfr, lvc, en_s, en_p, n1, n2, n3, n4, n5, n6, rf7, rl4, rl5, rh15, rs0]; done)
    · rw [vuS, pk_us, vuN n5, rf7, rs0, en_s, en_lt (by omega) (by omega) (by omega) (by omega)] at e2
      rw [f_await, if_pos e1, if_neg e2]
      repeat' first | exact h | refine Ag.up ?_ ?_ | refine Ag.slf ?_
      all_goals first | rfl | (simp [vuA, updA, upA, bcm, bfr, lvc, en_s, en_p, n1, n2, n3, n4, n5, n6, rf7, rl4, rl5, rh15, rs0]; done)
  · have e1 : ¬ S c 5 ≤ 0 := fun z => e (by rw [rl5]; exact (en_le (b := 0) (by omega) (by omega) (by omega) (by omega)).mpr z)
    have tv := take_v (S c 4)
    rw [← rl4] at tv
    refine ⟨fun z => hK _ ?_, fun z => hK _ ?_⟩
    · rw [vuN n2] at z
      rw [f_await, if_neg e1]
      repeat' first | exact h | refine Ag.up ?_ ?_ | refine Ag.slf ?_
      all_goals first | rfl | exact hm | (rw [← tv, if_pos z]; done) | (rw [vuN n2, rl4, dsh, en_of]; done) | (simp [vuA, updA, upA, bcm, en_p, n1, n2, rf7, rl4, rl5, rh15, rs0]; done)
    · rw [vuN n2] at z
      rw [f_await, if_neg e1]
      repeat' first | exact h | refine Ag.up ?_ ?_ | refine Ag.slf ?_
      all_goals first | rfl | exact hm | (rw [vuN n2, ← tv, if_neg z]; done) | (rw [vuN n2, rl4, dsh, en_of]; done) | (simp [vuA, updA, upA, bcm, en_p, n1, n2, rf7, rl4, rl5, rh15, rs0]; done)
theorem w_rise (h : Ag S X) (hk : 22 ≤ k ∧ k < 26) (hc : 6 ≤ c ∧ c < 22) (b5 : 0 ≤ S k 5 ∧ S k 5 < 1000000) (b3 : 0 ≤ S k 3 ∧ S k 3 < 1000000) (hK : ∀ X', Ag (f_rise S k c) X' → K X') : wp_X0_rise X k c K := by
  have rf3 := h.f hk (j := 3) (by decide)
  have rf5 := h.f hk (j := 5) (by decide)
  have rh14 := h.h (j := 14) (by decide) (by decide)
  have n1 : ¬ k = c := by omega
  have n2 : ¬ c = k := by omega
  have n3 : ¬ 0 = k := by omega
  have n4 : ¬ 0 = c := by omega
  have n5 : ¬ 5 = k := by omega
  have n6 : ¬ 5 = c := by omega
  have d9 : ¬ (9 : Int32) = 8 := by decide
  simp only [wp_X0_rise, wp_X0_sound, wp_X1_become, forall_eq, if_neg, d9, false_imp_iff, true_and, not_false_eq_true, true_imp_iff]
  have l0 : (0 : Int32) = en 0 := rfl
  have l4 : (4 : Int32) = en 4 := rfl
  refine ⟨fun e => ⟨fun e2 => hK _ ?_, fun e2 => hK _ ?_⟩, fun e => hK _ ?_⟩
  · rw [vuU, vuS, vuS, pk_un (by decide), pk_us, rf5, en_p, l0, en_le (by omega) (by omega) (by omega) (by omega)] at e
    rw [vuU, vuS, vuS, pk_us, pk_un (by decide), rf3, en_s, l4, en_le (by omega) (by omega) (by omega) (by omega)] at e2
    rw [f_rise, if_pos e, if_pos e2]
    repeat' first | exact h | refine Ag.up ?_ ?_ | refine Ag.slf ?_
    all_goals first | rfl | (simp [vuA, updA, upA, bcm, bfr, lvc, en_s, en_p, n1, n2, n3, n4, n5, n6, rf3, rf5, rh14]; done)
  · rw [vuU, vuS, vuS, pk_un (by decide), pk_us, rf5, en_p, l0, en_le (by omega) (by omega) (by omega) (by omega)] at e
    rw [vuU, vuS, vuS, pk_us, pk_un (by decide), rf3, en_s, l4, en_le (by omega) (by omega) (by omega) (by omega)] at e2
    rw [f_rise, if_pos e, if_neg e2]
    repeat' first | exact h | refine Ag.up ?_ ?_ | refine Ag.slf ?_
    all_goals first | rfl | (simp [vuA, updA, upA, bcm, bfr, lvc, en_s, en_p, n1, n2, n3, n4, n5, n6, rf3, rf5, rh14]; done)
  · rw [vuU, vuS, vuS, pk_un (by decide), pk_us, rf5, en_p, l0, en_le (by omega) (by omega) (by omega) (by omega)] at e
    rw [f_rise, if_neg e]
    repeat' first | exact h | refine Ag.up ?_ ?_ | refine Ag.slf ?_
    all_goals first | rfl | (simp [vuA, updA, upA, bcm, bfr, lvc, en_s, en_p, n1, n2, n3, n4, n5, n6, rf3, rf5, rh14]; done)
theorem w_sound (h : Ag S X) (hk : 22 ≤ k ∧ k < 26) (hc : 6 ≤ c ∧ c < 22) (b7 : 0 ≤ S k 7 ∧ S k 7 < 1000000) (bs : 0 ≤ S 5 0 ∧ S 5 0 < 1000000) (hK : ∀ X', Ag (f_sound S k c) X' → K X') : wp_X0_soundOn X k c K := by
  have rf7 := h.f hk (j := 7) (by decide)
  have rs0 := h.s (j := 0) (by decide)
  have n1 : ¬ k = c := by omega
  have n2 : ¬ c = k := by omega
  have n3 : ¬ 0 = k := by omega
  have n4 : ¬ 0 = c := by omega
  have n5 : ¬ 5 = k := by omega
  have n6 : ¬ 5 = c := by omega
  simp only [wp_X0_soundOn, wp_X1_become, wp_X1_becomeFree, wp_X2_leaveCall, stg_0, forall_eq]
  refine ⟨fun e => hK _ ?_, fun e => hK _ ?_⟩
  · rw [vuS, pk_us, vuN n5, rf7, rs0, en_s, en_lt (by omega) (by omega) (by omega) (by omega)] at e
    rw [f_sound, if_pos e]
    repeat' first | exact h | refine Ag.up ?_ ?_ | refine Ag.slf ?_
    all_goals first | rfl | (simp [vuA, updA, upA, bcm, bfr, lvc, en_s, en_p, n1, n2, n3, n4, n5, n6, rf7, rs0]; done)
  · rw [vuS, pk_us, vuN n5, rf7, rs0, en_s, en_lt (by omega) (by omega) (by omega) (by omega)] at e
    rw [f_sound, if_neg e]
    repeat' first | exact h | refine Ag.up ?_ ?_ | refine Ag.slf ?_
    all_goals first | rfl | (simp [vuA, updA, upA, bcm, bfr, lvc, en_s, en_p, n1, n2, n3, n4, n5, n6, rf7, rs0]; done)
theorem w_ring (h : Ag S X) (hk : 22 ≤ k ∧ k < 26) (hc : 6 ≤ c ∧ c < 22) (ht : 6 ≤ t ∧ t < 22) (hct : ¬ t = c) (h9 : 0 ≤ S k 9 ∧ S k 9 < 16) (h9t : t = 6 + (S k 9).toNat) (b1 : S t 1 = 0 ∨ S t 1 = 1) (b7 : 0 ≤ S k 7 ∧ S k 7 < 1000000) (bs : 0 ≤ S 5 1 ∧ S 5 1 < 1000000) (hK : ∀ X', Ag (f_ring S k c t) X' → K X') : wp_X0_ringOn X k c K := by
  have rf7 := h.f hk (j := 7) (by decide)
  have rf9 := h.f hk (j := 9) (by decide)
  have rl2 := h.l hc (j := 2) (by decide)
  have rt1 := h.l ht (j := 1) (by decide)
  have rh12 := h.h (j := 12) (by decide) (by decide)
  have rh13 := h.h (j := 13) (by decide) (by decide)
  have rs1 := h.s (j := 1) (by decide)
  have n1 : ¬ k = c := by omega
  have n2 : ¬ c = k := by omega
  have n3 : ¬ 0 = k := by omega
  have n4 : ¬ 0 = c := by omega
  have n5 : ¬ 5 = k := by omega
  have n6 : ¬ 5 = c := by omega
  have m1 : ¬ k = t := by omega
  have m2 : ¬ t = k := by omega
  have m3 : ¬ 0 = t := by omega
  have m4 : ¬ 5 = t := by omega
  have m5 : ¬ c = t := fun z => hct z.symm
  have m6 : ¬ t = c := hct
  have d8 : (8 : Int32) = 8 := rfl
  have hlix : lix (X k 9) = t := by rw [rf9, lix_en h9.1 h9.2, h9t]
  simp only [wp_X0_ringOn, wp_X0_sound, wp_X1_become, wp_X1_becomeFree, wp_X2_leaveCall, stg_1, forall_eq, hlix, not_true_eq_false, false_imp_iff, and_true, true_imp_iff]
  refine ⟨fun e => ⟨fun e2 => hK _ ?_, fun e2 => hK _ ?_⟩, fun e => hK _ ?_⟩
  · rw [rt1, show (0 : Int32) = en 0 from rfl, en_eq (by omega) (by omega) (by omega) (by omega)] at e
    rw [vuS, pk_us, vuN n5, rf7, rs1, en_s, en_lt (by omega) (by omega) (by omega) (by omega)] at e2
    rw [f_ring, if_pos e, if_pos e2]
    repeat' first | exact h | refine Ag.up ?_ ?_ | refine Ag.slf ?_
    all_goals first | rfl | (simp [vuA, updA, upA, bcm, bfr, lvc, en_s, en_p, n1, n2, n3, n4, n5, n6, m1, m2, m3, m4, m5, m6, rf7, rf9, rl2, rt1, rh12, rh13, rs1]; done)
  · rw [rt1, show (0 : Int32) = en 0 from rfl, en_eq (by omega) (by omega) (by omega) (by omega)] at e
    rw [vuS, pk_us, vuN n5, rf7, rs1, en_s, en_lt (by omega) (by omega) (by omega) (by omega)] at e2
    rw [f_ring, if_pos e, if_neg e2]
    repeat' first | exact h | refine Ag.up ?_ ?_ | refine Ag.slf ?_
    all_goals first | rfl | (simp [vuA, updA, upA, bcm, bfr, lvc, en_s, en_p, n1, n2, n3, n4, n5, n6, m1, m2, m3, m4, m5, m6, rf7, rf9, rl2, rt1, rh12, rh13, rs1]; done)
  · rw [rt1, show (0 : Int32) = en 0 from rfl, en_eq (by omega) (by omega) (by omega) (by omega)] at e
    rw [f_ring, if_neg e]
    repeat' first | exact h | refine Ag.up ?_ ?_ | refine Ag.slf ?_
    all_goals first | rfl | (simp [vuA, updA, upA, bcm, bfr, lvc, en_s, en_p, n1, n2, n3, n4, n5, n6, m1, m2, m3, m4, m5, m6, rf7, rf9, rl2, rt1, rh12, rh13, rs1]; done)
theorem w_talk (h : Ag S X) (hk : 22 ≤ k ∧ k < 26) (hc : 6 ≤ c ∧ c < 22) (ht : 6 ≤ t ∧ t < 22) (hct : ¬ t = c) (h9 : 0 ≤ S k 9 ∧ S k 9 < 16) (h9t : t = 6 + (S k 9).toNat) (b1 : S t 1 = 0 ∨ S t 1 = 1) (b7 : 0 ≤ S k 7 ∧ S k 7 < 1000000) (b8 : 0 ≤ S k 8 ∧ S k 8 < 1000000) (bs : 0 < S 5 2 ∧ S 5 2 < 1000000) (bs3 : 0 ≤ S 5 3 ∧ S 5 3 < 1000000) (hK : ∀ X', Ag (f_talk S k c t) X' → K X') : wp_X0_talkOn X k c K := by
  have rf7 := h.f hk (j := 7) (by decide)
  have rf8 := h.f hk (j := 8) (by decide)
  have rf9 := h.f hk (j := 9) (by decide)
  have rl2 := h.l hc (j := 2) (by decide)
  have rt1 := h.l ht (j := 1) (by decide)
  have rs2 := h.s (j := 2) (by decide)
  have rs3 := h.s (j := 3) (by decide)
  have n1 : ¬ k = c := by omega
  have n2 : ¬ c = k := by omega
  have n3 : ¬ 0 = k := by omega
  have n4 : ¬ 0 = c := by omega
  have n5 : ¬ 5 = k := by omega
  have n6 : ¬ 5 = c := by omega
  have m1 : ¬ k = t := by omega
  have m2 : ¬ t = k := by omega
  have m3 : ¬ 0 = t := by omega
  have m4 : ¬ 5 = t := by omega
  have m5 : ¬ c = t := fun z => hct z.symm
  have m6 : ¬ t = c := hct
  have hlix : lix (X k 9) = t := by rw [rf9, lix_en h9.1 h9.2, h9t]
  have l0 : (0 : Int32) = en 0 := rfl
  have p1 : ¬ X 5 2 ≤ 0 := by rw [rs2, l0, en_le (by omega) (by omega) (by omega) (by omega)]; omega
  have p2 : ¬ X 5 2 = 0 := by rw [rs2, l0, en_eq (by omega) (by omega) (by omega) (by omega)]; omega
  have pm : (X k 7 + 1 - (X k 7 + 1) / X 5 2 * X 5 2 = 0) ↔ (S k 7 + 1) % S 5 2 = 0 := by
    rw [rf7, rs2, en_s, en_rem (by omega) (by omega) (by omega) (by omega), l0]
    have g1 := Int.emod_nonneg (S k 7 + 1) (b := S 5 2) (by omega)
    have g2 := Int.emod_lt_of_pos (S k 7 + 1) (b := S 5 2) (by omega)
    exact en_eq (by omega) (by omega) (by omega) (by omega)
  simp only [wp_X0_talkOn, wp_X1_become, wp_X1_becomeFree, wp_X2_leaveCall, stg_2, stg_3, forall_eq, hlix]
  refine ⟨fun e => ⟨fun e2 => ?_, fun e2 => hK _ ?_⟩, fun e => ?_⟩
  · rw [rt1, l0, en_eq (by omega) (by omega) (by omega) (by omega)] at e
    rw [vuS, pk_us, vuN n5, rf8, rs3, en_s, en_lt (by omega) (by omega) (by omega) (by omega)] at e2
    simp only [vuU, vuS, vuN n5, pk_us, pk_un (show (7 : Nat) ≠ 8 by decide), p1, p2, pm, false_imp_iff, true_and, not_false_eq_true, true_imp_iff]
    refine ⟨fun e3 => hK _ ?_, fun e3 => hK _ ?_⟩
    · rw [f_talk, if_pos e, if_pos e2, f_mt, if_pos e3]
      refine Ag.up (Ag.slf (Ag.up (Ag.up h.slf ?_) ?_)) ?_
      all_goals first | rfl | (simp [vuA, updA, upA, bcm, bfr, lvc, en_s, en_p, n1, n2, n3, n4, n5, n6, m1, m2, m3, m4, m5, m6, rf7, rf8, rf9, rl2, rt1, rs2, rs3]; done)
    · rw [f_talk, if_pos e, if_pos e2, f_mt, if_neg e3]
      refine Ag.up (Ag.up h.slf ?_) ?_
      all_goals first | rfl | (simp [vuA, updA, upA, bcm, bfr, lvc, en_s, en_p, n1, n2, n3, n4, n5, n6, m1, m2, m3, m4, m5, m6, rf7, rf8, rf9, rl2, rt1, rs2, rs3]; done)
  · rw [rt1, l0, en_eq (by omega) (by omega) (by omega) (by omega)] at e
    rw [vuS, pk_us, vuN n5, rf8, rs3, en_s, en_lt (by omega) (by omega) (by omega) (by omega)] at e2
    rw [f_talk, if_pos e, if_neg e2]
    repeat' first | exact h | refine Ag.up ?_ ?_ | refine Ag.slf ?_
    all_goals first | rfl | (simp [vuA, updA, upA, bcm, bfr, lvc, en_s, en_p, n1, n2, n3, n4, n5, n6, m1, m2, m3, m4, m5, m6, rf7, rf8, rf9, rl2, rt1, rs2, rs3]; done)
  · rw [rt1, l0, en_eq (by omega) (by omega) (by omega) (by omega)] at e
    simp only [vuU, vuS, vuN n5, pk_us, pk_un (show (7 : Nat) ≠ 8 by decide), p1, p2, pm, false_imp_iff, true_and, not_false_eq_true, true_imp_iff]
    refine ⟨fun e3 => hK _ ?_, fun e3 => hK _ ?_⟩
    · rw [f_talk, if_neg e, f_mt, if_pos e3]
      refine Ag.up (Ag.slf (Ag.up (Ag.up h.slf ?_) ?_)) ?_
      all_goals first | rfl | (simp [vuA, updA, upA, bcm, bfr, lvc, en_s, en_p, n1, n2, n3, n4, n5, n6, m1, m2, m3, m4, m5, m6, rf7, rf8, rf9, rl2, rt1, rs2, rs3]; done)
    · rw [f_talk, if_neg e, f_mt, if_neg e3]
      refine Ag.up (Ag.up h.slf ?_) ?_
      all_goals first | rfl | (simp [vuA, updA, upA, bcm, bfr, lvc, en_s, en_p, n1, n2, n3, n4, n5, n6, m1, m2, m3, m4, m5, m6, rf7, rf8, rf9, rl2, rt1, rs2, rs3]; done)
end WF
