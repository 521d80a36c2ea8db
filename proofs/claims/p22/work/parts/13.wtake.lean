-- ===== a step of a finder is stpF =====
theorem e_m6 {s : Int} (h1 : -2147483648 ≤ s) (h2 : s < 2147483648) : en s = ((-6) : Int32) ↔ s = (-6) := by rw [show ((-6) : Int32) = en (-6) from rfl]; exact en_eq h1 h2 (by omega) (by omega)
theorem e_0 {s : Int} (h1 : -2147483648 ≤ s) (h2 : s < 2147483648) : en s = (0 : Int32) ↔ s = 0 := by rw [show (0 : Int32) = en 0 from rfl]; exact en_eq h1 h2 (by omega) (by omega)
theorem e_1 {s : Int} (h1 : -2147483648 ≤ s) (h2 : s < 2147483648) : en s = (1 : Int32) ↔ s = 1 := by rw [show (1 : Int32) = en 1 from rfl]; exact en_eq h1 h2 (by omega) (by omega)
theorem e_2 {s : Int} (h1 : -2147483648 ≤ s) (h2 : s < 2147483648) : en s = (2 : Int32) ↔ s = 2 := by rw [show (2 : Int32) = en 2 from rfl]; exact en_eq h1 h2 (by omega) (by omega)
theorem e_3 {s : Int} (h1 : -2147483648 ≤ s) (h2 : s < 2147483648) : en s = (3 : Int32) ↔ s = 3 := by rw [show (3 : Int32) = en 3 from rfl]; exact en_eq h1 h2 (by omega) (by omega)
theorem e_4 {s : Int} (h1 : -2147483648 ≤ s) (h2 : s < 2147483648) : en s = (4 : Int32) ↔ s = 4 := by rw [show (4 : Int32) = en 4 from rfl]; exact en_eq h1 h2 (by omega) (by omega)
theorem e_5 {s : Int} (h1 : -2147483648 ≤ s) (h2 : s < 2147483648) : en s = (5 : Int32) ↔ s = 5 := by rw [show (5 : Int32) = en 5 from rfl]; exact en_eq h1 h2 (by omega) (by omega)
theorem e_6 {s : Int} (h1 : -2147483648 ≤ s) (h2 : s < 2147483648) : en s = (6 : Int32) ↔ s = 6 := by rw [show (6 : Int32) = en 6 from rfl]; exact en_eq h1 h2 (by omega) (by omega)
theorem e_7 {s : Int} (h1 : -2147483648 ≤ s) (h2 : s < 2147483648) : en s = (7 : Int32) ↔ s = 7 := by rw [show (7 : Int32) = en 7 from rfl]; exact en_eq h1 h2 (by omega) (by omega)
theorem e_8 {s : Int} (h1 : -2147483648 ≤ s) (h2 : s < 2147483648) : en s = (8 : Int32) ↔ s = 8 := by rw [show (8 : Int32) = en 8 from rfl]; exact en_eq h1 h2 (by omega) (by omega)
theorem e_9 {s : Int} (h1 : -2147483648 ≤ s) (h2 : s < 2147483648) : en s = (9 : Int32) ↔ s = 9 := by rw [show (9 : Int32) = en 9 from rfl]; exact en_eq h1 h2 (by omega) (by omega)
theorem e_10 {s : Int} (h1 : -2147483648 ≤ s) (h2 : s < 2147483648) : en s = (10 : Int32) ↔ s = 10 := by rw [show (10 : Int32) = en 10 from rfl]; exact en_eq h1 h2 (by omega) (by omega)
theorem e_11 {s : Int} (h1 : -2147483648 ≤ s) (h2 : s < 2147483648) : en s = (11 : Int32) ↔ s = 11 := by rw [show (11 : Int32) = en 11 from rfl]; exact en_eq h1 h2 (by omega) (by omega)
theorem q_hold {L : CS} {s : Int} {K : Int32 → Prop} (hL : L 0 = en s) (h1 : 0 ≤ s) (h2 : s ≤ 9) : wp_X1_holdsConnector L K = K (if 5 ≤ s ∧ s ≤ 8 then 1 else 0) := by
  unfold wp_X1_holdsConnector
  rw [hL, e_5 (by omega) (by omega), e_6 (by omega) (by omega), e_7 (by omega) (by omega), e_8 (by omega) (by omega)]
  by_cases g : 5 ≤ s ∧ s ≤ 8
  · rw [if_pos g]
    rcases (by omega : s = 5 ∨ s = 6 ∨ s = 7 ∨ s = 8) with rfl | rfl | rfl | rfl <;> simp
  · rw [if_neg g]
    simp [show ¬ s = 5 by omega, show ¬ s = 6 by omega, show ¬ s = 7 by omega, show ¬ s = 8 by omega]
section WG
variable {S : SS} {X : ES} {k c t : Nat} {K : ES → Prop}
theorem w_hld (h : Ag S X) {q : Int} (hq : 0 ≤ q ∧ q < 1000000) (hI : Inv q S) {l n : Int} (hl : 0 ≤ l ∧ l < 1000) (hn : -10 ≤ n ∧ n < 1000) {K : Int32 → Prop} : ∀ (m i : Nat), (i : Int) + m = S 0 5 → (K (en (hldF S l n m i)) → wpl_X0_holderOf_2 X (en l) (en n) K (fun _ => K (-6)) (m + 1) (en (i : Int)))
  | 0, i, e => fun hK => by
    have h0 := hI.hd
    unfold hdOK at h0
    rw [wpl_X0_holderOf_2]
    refine ⟨fun _ => hK, fun z => absurd ?_ z⟩
    rw [h.h (j := 5) (by decide) (by decide), en_le (by omega) (by omega) (by omega) (by omega)]
    omega
  | m + 1, i, e => fun hK => by
    have h0 := hI.hd
    unfold hdOK at h0
    have hi : i < 4 := by omega
    have h1 := hI.fin i hi
    unfold finOK at h1
    have hf : ∀ j : Nat, j < 10 → X (22 + i) j = en (S (22 + i) j) := fun j hj => h.f (by omega) hj
    rw [wpl_X0_holderOf_2]
    refine ⟨fun z => absurd z ?_, fun _ => ?_⟩
    · rw [h.h (j := 5) (by decide) (by decide), en_le (by omega) (by omega) (by omega) (by omega)]
      omega
    · rw [fix_en (by omega) (by omega), show (i : Int).toNat = i from rfl, q_hold (hf 0 (by decide)) (by omega) (by omega), hf 3 (by decide), hf 4 (by decide), en_eq (by omega) (by omega) (by omega) (by omega), en_eq (by omega) (by omega) (by omega) (by omega)]
      have ih := w_hld h hq hI hl hn (K := K) m (i + 1) (by omega)
      rw [hldF] at hK
      simp only [forall_eq]
      rw [show en (i : Int) + 1 = en ((i + 1 : Nat) : Int) from en_s _]
      by_cases g : (5 ≤ S (22 + i) 0 ∧ S (22 + i) 0 ≤ 8) ∧ S (22 + i) 3 = l ∧ S (22 + i) 4 = n
      · rw [if_pos g] at hK
        rw [if_pos g.1]
        exact ⟨fun z => absurd z (by decide), fun _ => ⟨fun _ => ⟨fun _ => hK, fun z => absurd g.2.2 z⟩, fun z => absurd g.2.1 z⟩⟩
      · rw [if_neg g] at hK
        have ih2 := ih hK
        exact ⟨fun _ => ih2, fun z => ⟨fun a => ⟨fun b => absurd ⟨by by_cases g3 : 5 ≤ S (22 + i) 0 ∧ S (22 + i) 0 ≤ 8; exact g3; exact absurd (if_neg g3) z, a, b⟩ g, fun _ => ih2⟩, fun _ => ih2⟩⟩
theorem hld_rng (S : SS) (l n : Int) : ∀ (m i : Nat), hldF S l n m i = -6 ∨ ((i : Int) ≤ hldF S l n m i ∧ hldF S l n m i < (i : Int) + m)
  | 0, i => Or.inl rfl
  | m + 1, i => by
    rw [hldF]
    by_cases g : (5 ≤ S (22 + i) 0 ∧ S (22 + i) 0 ≤ 8) ∧ S (22 + i) 3 = l ∧ S (22 + i) 4 = n
    · rw [if_pos g]; omega
    · rw [if_neg g]
      have := hld_rng S l n m (i + 1)
      omega
theorem q_holder (h : Ag S X) {q : Int} (hq : 0 ≤ q ∧ q < 1000000) (hI : Inv q S) {l n : Int} (hl : 0 ≤ l ∧ l < 1000) (hn : -10 ≤ n ∧ n < 1000) {K : Int32 → Prop} (hK : K (en (hld S l n))) : wp_X0_holderOf X (en l) (en n) K := by
  have h0 := hI.hd
  unfold hdOK at h0
  exact ⟨(S 0 5).toNat + 1, w_hld h hq hI hl hn (K := K) (S 0 5).toNat 0 (by omega) hK⟩
theorem w_hunt (h : Ag S X) (hk : 22 ≤ k ∧ k < 26) (hc : 6 ≤ c ∧ c < 22) {q : Int} (hq : 0 ≤ q ∧ q < 1000000) (hI : Inv q S) (b3 : 0 ≤ S k 3 ∧ S k 3 < 1000) (b4 : 0 ≤ S k 4 ∧ S k 4 < 1000) (hK : ∀ X', Ag (f_hunt S k c) X' → K X') : wp_X0_hunt X k c K := by
  have rf3 := h.f hk (j := 3) (by decide)
  have rf4 := h.f hk (j := 4) (by decide)
  have rh13 := h.h (j := 13) (by decide) (by decide)
  have rh6 := h.h (j := 6) (by decide) (by decide)
  have h0 := hI.hd
  unfold hdOK at h0
  have n1 : ¬ k = c := by omega
  have n2 : ¬ c = k := by omega
  have n3 : ¬ 0 = k := by omega
  have n4 : ¬ 0 = c := by omega
  have n5 : ¬ 5 = k := by omega
  have n6 : ¬ 5 = c := by omega
  unfold wp_X0_hunt
  rw [rf3, rf4]
  refine q_holder h hq hI b3 ⟨by omega, by omega⟩ ?_
  have hr := hld_rng S (S k 3) (S k 4) (S 0 5).toNat 0
  rw [show hldF S (S k 3) (S k 4) (S 0 5).toNat 0 = hld S (S k 3) (S k 4) from rfl] at hr
  rw [e_m6 (by omega) (by omega)]
  simp only [wp_X0_sound, wp_X1_become, forall_eq, not_true_eq_false, false_imp_iff, and_true, true_imp_iff]
  refine ⟨fun e => hK _ ?_, fun e => ⟨fun e2 => hK _ ?_, fun e2 => hK _ ?_⟩⟩
  · rw [f_hunt, if_pos e]
    repeat' first | exact h | refine Ag.up ?_ ?_ | refine Ag.slf ?_
    all_goals rfl
  · rw [vuS, pk_us, vuN n3, rh6, en_s, en_lt (by omega) (by omega) (by omega) (by omega)] at e2
    rw [f_hunt, if_neg e, if_pos e2]
    repeat' first | exact h | refine Ag.up ?_ ?_ | refine Ag.slf ?_
    rw [en_s]
  · rw [vuS, pk_us, vuN n3, rh6, en_s, en_lt (by omega) (by omega) (by omega) (by omega)] at e2
    rw [f_hunt, if_neg e, if_neg e2]
    repeat' first | exact h | refine Ag.up ?_ ?_ | refine Ag.slf ?_
    all_goals first | rfl | (rw [en_s]; done) | (simp [vuA, updA, upA, bcm, en_s, n1, n2, n3, n4, rh13]; done)
theorem w_stepOn (h : Ag S X) (hk : 22 ≤ k ∧ k < 26) (hc : 6 ≤ c ∧ c < 22) (b5 : 0 ≤ S k 5 ∧ S k 5 < 1000) (b6 : 0 ≤ S k 6 ∧ S k 6 < 1000) (b3 : 1 ≤ S k 3 ∧ S k 3 ≤ 4) (bl : ∀ n : Nat, n < 16 → 0 ≤ S (6 + n) 0 ∧ S (6 + n) 0 ≤ 11) (bc : ¬ S c 0 = 0) (hK : ∀ X', Ag (f_stepOn S k c) X' → K X') : wp_X0_stepOn X k c K := by
  have rf3 := h.f hk (j := 3) (by decide)
  have rf5 := h.f hk (j := 5) (by decide)
  have rf6 := h.f hk (j := 6) (by decide)
  have rl6 := h.l hc (j := 6) (by decide)
  have rh11 := h.h (j := 11) (by decide) (by decide)
  have rh13 := h.h (j := 13) (by decide) (by decide)
  have rh14 := h.h (j := 14) (by decide) (by decide)
  have n1 : ¬ k = c := by omega
  have n2 : ¬ c = k := by omega
  have n3 : ¬ 0 = k := by omega
  have n4 : ¬ 0 = c := by omega
  have n5 : ¬ 5 = k := by omega
  have n6 : ¬ 5 = c := by omega
  have d9 : ¬ (9 : Int32) = 8 := by decide
  have l0 : (0 : Int32) = en 0 := rfl
  have l4 : (4 : Int32) = en 4 := rfl
  simp only [wp_X0_stepOn, wp_X0_sound, wp_X1_become, forall_eq, d9, false_imp_iff, true_and, not_false_eq_true, true_imp_iff, not_true_eq_false, and_true]
  have ev : 4 * (X k 3 - 1) + (X k 6 + 1) - 1 = en (4 * (S k 3 - 1) + (S k 6 + 1) - 1) := by
    rw [rf3, rf6, en_s, en_p, show (4 : Int32) = en 4 from rfl, en_mul, en_add, en_p]
  have ev2 : 4 * (va_up (va_up X k (upd (X k) 5 (X k 5 - 1))) k (upd (va_up X k (upd (X k) 5 (X k 5 - 1)) k) 6 (va_up X k (upd (X k) 5 (X k 5 - 1)) k 6 + 1)) k 3 - 1) + va_up (va_up X k (upd (X k) 5 (X k 5 - 1))) k (upd (va_up X k (upd (X k) 5 (X k 5 - 1)) k) 6 (va_up X k (upd (X k) 5 (X k 5 - 1)) k 6 + 1)) k 6 - 1 = en (4 * (S k 3 - 1) + (S k 6 + 1) - 1) := by
    rw [← ev]
    simp [vuA, updA]
  rw [ev2]
  refine ⟨fun e => ⟨fun e2 => ?_, fun e2 => hK _ ?_⟩, fun e => hK _ ?_⟩
  · rw [vuU, vuS, vuS, pk_un (by decide), pk_us, rf5, en_p, l0, en_le (by omega) (by omega) (by omega) (by omega)] at e
    rw [vuU, vuS, vuS, pk_us, pk_un (by decide), rf6, en_s, l4, en_le (by omega) (by omega) (by omega) (by omega)] at e2
    obtain ⟨t, et⟩ : ∃ t : Nat, t = 6 + (4 * (S k 3 - 1) + (S k 6 + 1) - 1).toNat := ⟨_, rfl⟩
    have ht : 6 ≤ t ∧ t < 22 := by omega
    have hlix : lix (en (4 * (S k 3 - 1) + (S k 6 + 1) - 1)) = t := by rw [lix_en (by omega) (by omega), et]
    rw [hlix]
    have m1 : ¬ k = t := by omega
    have m2 : ¬ t = k := by omega
    have m3 : ¬ 0 = t := by omega
    have rt0 := h.l ht (j := 0) (by decide)
    have bt := bl (t - 6) (by omega)
    rw [show 6 + (t - 6) = t by omega] at bt
    refine ⟨fun e3 => hK _ ?_, fun e3 => hK _ ?_⟩
    · rw [vuU, vuN m2, rt0, e_0 (by omega) (by omega)] at e3
      have m5 : ¬ c = t := fun z => bc (by rw [z]; exact e3)
      have m6 : ¬ t = c := fun z => m5 z.symm
      rw [f_stepOn, if_pos e, if_pos e2, ← et, if_pos e3, f_call]
      repeat' first | exact h | refine Ag.up ?_ ?_ | refine Ag.slf ?_
      all_goals first | rfl | (rw [en_p, rf5]; done) | (simp [vuA, updA, upA, bcm, en_s, en_p, n1, n2, n3, n4, m1, m2, m3, m5, m6, rf5, rf6, rl6, rh11]; done)
    · rw [vuU, vuN m2, rt0, e_0 (by omega) (by omega)] at e3
      rw [f_stepOn, if_pos e, if_pos e2, ← et, if_neg e3]
      repeat' first | exact h | refine Ag.up ?_ ?_ | refine Ag.slf ?_
      all_goals first | rfl | (simp [vuA, updA, upA, bcm, en_s, en_p, n1, n2, n3, n4, rf5, rf6, rh13]; done)
  · rw [vuU, vuS, vuS, pk_un (by decide), pk_us, rf5, en_p, l0, en_le (by omega) (by omega) (by omega) (by omega)] at e
    rw [vuU, vuS, vuS, pk_us, pk_un (by decide), rf6, en_s, l4, en_le (by omega) (by omega) (by omega) (by omega)] at e2
    rw [f_stepOn, if_pos e, if_neg e2]
    repeat' first | exact h | refine Ag.up ?_ ?_ | refine Ag.slf ?_
    all_goals first | rfl | (simp [vuA, updA, upA, bcm, en_s, en_p, n1, n2, n3, n4, rf5, rf6, rh14]; done)
  · rw [vuU, vuS, vuS, pk_un (by decide), pk_us, rf5, en_p, l0, en_le (by omega) (by omega) (by omega) (by omega)] at e
    rw [f_stepOn, if_neg e]
    repeat' first | exact h | refine Ag.up ?_ ?_ | refine Ag.slf ?_
    all_goals first | rfl | (simp [vuA, updA, upA, bcm, en_s, en_p, n1, n2, n3, n4, rf5, rf6]; done)
theorem w_take (h : Ag S X) {q : Int} (hq : 0 ≤ q ∧ q < 900000) (hI : Inv q S) {f : Nat} (hf : f < 4) (hK : ∀ X', Ag (stpF S f) X' → K X') : wp_X0_takeStep X (22 + f) K := by
  have h1 := hI.fin f hf
  unfold finOK at h1
  have h2 := hI.set
  unfold setOK at h2
  have h0 := hI.hd
  unfold hdOK at h0
  have r0 := h.f (k := 22 + f) (by omega) (j := 0) (by decide)
  have r2 := h.f (k := 22 + f) (by omega) (j := 2) (by decide)
  have hk : 22 ≤ 22 + f ∧ 22 + f < 26 := by omega
  unfold wp_X0_takeStep
  rw [r0, e_1 (by omega) (by omega), e_2 (by omega) (by omega), e_3 (by omega) (by omega), e_4 (by omega) (by omega), e_5 (by omega) (by omega), e_6 (by omega) (by omega), e_7 (by omega) (by omega), e_8 (by omega) (by omega), e_9 (by omega) (by omega)]
  by_cases z : S (22 + f) 0 = 0
  · rw [stpF, stp, if_neg (by omega), if_neg (by omega), if_neg (by omega), if_neg (by omega), if_neg (by omega), if_neg (by omega), if_neg (by omega), if_neg (by omega), if_neg (by omega)] at hK
    exact ⟨fun e => by omega, fun _ => ⟨fun e => by omega, fun _ => ⟨fun e => by omega, fun _ => ⟨fun e => by omega, fun _ => ⟨fun e => by omega, fun _ => ⟨fun e => by omega, fun _ => ⟨fun e => by omega, fun _ => ⟨fun e => by omega, fun _ => ⟨fun e => by omega, fun _ => hK X h⟩⟩⟩⟩⟩⟩⟩⟩⟩
  · obtain ⟨c, hc, ec, ec2, elk, esm⟩ := hI.cal hf z
    have hl := hI.lin c hc
    unfold linOK at hl
    unfold smt at esm
    have hcc : 6 ≤ 6 + c ∧ 6 + c < 22 := by omega
    rw [r2, lix_en (by omega) (by omega), ec2]
    rw [stpF, ec2] at hK
    refine ⟨fun e => ?_, fun n1 => ⟨fun e => ?_, fun n2 => ⟨fun e => ?_, fun n3 => ⟨fun e => ?_, fun n4 => ⟨fun e => ?_, fun n5 => ⟨fun e => ?_, fun n6 => ⟨fun e => ?_, fun n7 => ⟨fun e => ?_, fun n8 => ⟨fun e => ?_, fun n9 => by omega⟩⟩⟩⟩⟩⟩⟩⟩⟩
    · rw [stp, if_pos e] at hK
      exact w_seek h hk hcc (by omega) (by omega) hK
    · rw [stp, if_neg n1, if_pos e] at hK
      exact w_await h hk hcc rfl (by omega) (by omega) (by omega) hK
    · rw [stp, if_neg n1, if_neg n2, if_pos e] at hK
      exact w_rise h hk hcc (by omega) (by omega) hK
    · rw [stp, if_neg n1, if_neg n2, if_neg n3, if_pos e] at hK
      exact w_hunt h hk hcc (q := q) (by omega) hI (by omega) (by omega) hK
    · rw [stp, if_neg n1, if_neg n2, if_neg n3, if_neg n4, if_pos e] at hK
      exact w_await h hk hcc rfl (by omega) (by omega) (by omega) hK
    · rw [stp, if_neg n1, if_neg n2, if_neg n3, if_neg n4, if_neg n5, if_pos e] at hK
      refine w_stepOn h hk hcc (by omega) (by omega) (by omega) (fun n hn => ?_) (by omega) hK
      have := hI.lin n hn
      unfold linOK at this
      exact this.1
    · rw [stp, if_neg n1, if_neg n2, if_neg n3, if_neg n4, if_neg n5, if_neg n6, if_pos e] at hK
      obtain ⟨t, ht, et, et2, -, -⟩ := hI.tgt hf (Or.inl e)
      have hne := hI.ne hf hc ht (Or.inl e) ec et
      have hlt := hI.lin t ht
      unfold linOK at hlt
      rw [et2] at hK
      exact w_ring h hk hcc (t := 6 + t) (by omega) (by omega) (by omega) (by omega) hlt.2.1 (by omega) (by omega) hK
    · rw [stp, if_neg n1, if_neg n2, if_neg n3, if_neg n4, if_neg n5, if_neg n6, if_neg n7, if_pos e] at hK
      obtain ⟨t, ht, et, et2, -, -⟩ := hI.tgt hf (Or.inr e)
      have hne := hI.ne hf hc ht (Or.inr e) ec et
      have hlt := hI.lin t ht
      unfold linOK at hlt
      rw [et2] at hK
      exact w_talk h hk hcc (t := 6 + t) (by omega) (by omega) (by omega) (by omega) hlt.2.1 (by omega) (by omega) (by omega) (by omega) hK
    · rw [stp, if_neg n1, if_neg n2, if_neg n3, if_neg n4, if_neg n5, if_neg n6, if_neg n7, if_neg n8, if_pos e] at hK
      exact w_sound h hk hcc (by omega) (by omega) hK
end WG
