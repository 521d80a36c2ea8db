-- ===== the pad: put =====
theorem l_and (x : Int64) : x.toInt32 &&& 255 = nI (x.toBitVec.toNat % 256) := by
  rw [pk_and _ 8 (by decide)]
  have e : x.toInt32.toBitVec.toNat = x.toBitVec.toNat % 2 ^ 32 := by
    show (x.toBitVec.signExtend 32).toNat = _
    rw [BitVec.signExtend_eq_setWidth_of_le _ (by decide), BitVec.toNat_setWidth]
  rw [e]
  congr 1
  omega
theorem l_and2 (x : Int64) : (x &&& 255).toBitVec.toNat = x.toBitVec.toNat % 256 := by
  rw [Int64.toBitVec_and, BitVec.toNat_and]
  exact Nat.and_two_pow_sub_one_eq_mod _ 8
theorem l_32 (x : Int64) (h : x.toBitVec.toNat < 256) : x.toInt32 = nI (x.toBitVec.toNat) := by
  apply Int32.toBitVec_inj.mp
  apply BitVec.eq_of_toNat_eq
  rw [pk_tn (by omega)]
  show (x.toBitVec.signExtend 32).toNat = _
  rw [BitVec.signExtend_eq_setWidth_of_le _ (by decide), BitVec.toNat_setWidth]
  omega
theorem l_ushr (x : Int64) (s : UInt64) (k : Nat) (hs : s.toNat % 64 = k) : (x.toUInt64 >>> s).toInt64.toBitVec.toNat = x.toBitVec.toNat / 2 ^ k := by
  show (x.toUInt64 >>> s).toNat = _
  rw [UInt64.toNat_shiftRight, hs, Nat.shiftRight_eq_div_pow]
  rfl
theorem l_shr (x t : Int64) (k : Nat) (ht : (t.toBitVec.smod 64).toNat = k) (hk : k ≤ 56) : (x >>> t).toBitVec.toNat % 256 = x.toBitVec.toNat / 2 ^ k % 256 := by
  have e : (x >>> t).toBitVec = x.toBitVec.sshiftRight k := by
    rw [← ht]; rfl
  rw [e]
  apply Nat.eq_of_testBit_eq
  intro j
  rw [show (256 : Nat) = 2 ^ 8 from rfl, Nat.testBit_mod_two_pow, Nat.testBit_mod_two_pow, Nat.testBit_div_two_pow, BitVec.testBit_toNat, BitVec.testBit_toNat, BitVec.getLsbD_sshiftRight]
  by_cases hj : j < 8
  · have h1 : ¬ 64 ≤ j := by omega
    have h2 : k + j < 64 := by omega
    simp [hj, h1, h2, Nat.add_comm]
  · simp [hj]
theorem l_0 {x : Int64} (h : x.toBitVec.toNat = 0) : x = 0 := Int64.toBitVec_inj.mp (BitVec.eq_of_toNat_eq h)
theorem l_ne {x : Int64} (h : ¬ x.toBitVec.toNat = 0) : ¬ x = 0 := fun z => h (by rw [z]; rfl)
def Vd : Nat → Nat → Prop
  | 0, m => m = 0
  | c + 1, m => (33 ≤ m % 256 ∧ m % 256 ≤ 126) ∧ Vd c (m / 256)
theorem Vd_byte : ∀ (k c m : Nat), Vd c m → k < c → 33 ≤ m / 2 ^ (8 * k) % 256 ∧ m / 2 ^ (8 * k) % 256 ≤ 126
  | 0, c + 1, m, h, _ => by simpa using h.1
  | k + 1, c + 1, m, h, hk => by
    have := Vd_byte k c (m / 256) h.2 (by omega)
    rw [Nat.div_div_eq_div_mul] at this
    have e : 256 * 2 ^ (8 * k) = 2 ^ (8 * (k + 1)) := by rw [show 8 * (k + 1) = 8 + 8 * k by omega, Nat.pow_add]
    rw [e] at this
    exact this
theorem ct_q : ∀ (j i : Nat) (y : Int64), i + j = 8 → y.toBitVec.toNat < 256 ^ j →
    (∃ c, c ≤ j ∧ Vd c y.toBitVec.toNat ∧ (∀ (K : Int32 → Prop) (Kx : Int32 → Int64 → Int32 → Prop), (∀ a b, Kx (nI (i + c)) a b) → wpl_X3_countOf_7 K Kx (j + 1) (nI i) y (nI i)) ∧ ∀ (X : ES) (K : Int32 → ES → Prop) (Kx : Int32 → Int64 → Prop), Kx (nI (i + c)) 0 → wpl_X5_put_5 X K Kx (j + 1) (nI i) y) ∨
    ((∀ (K : Int32 → Prop) (Kx : Int32 → Int64 → Int32 → Prop), K 0 → wpl_X3_countOf_7 K Kx (j + 1) (nI i) y (nI i)) ∧ ∀ (X : ES) (K : Int32 → ES → Prop) (Kx : Int32 → Int64 → Prop), K (-2) X → (∀ a b, ¬ b = 0 → Kx a b) → wpl_X5_put_5 X K Kx (j + 1) (nI i) y)
  | 0, i, y, he, hy => by
    have e : i = 8 := by omega
    subst e
    have y0 : y.toBitVec.toNat = 0 := by simpa using hy
    have y1 := l_0 y0
    subst y1
    refine Or.inl ⟨0, Nat.le_refl _, rfl, fun K Kx hK => ?_, fun X K Kx hK => ?_⟩
    · rw [wpl_X3_countOf_7]; exact ky (by decide) (hK _ _)
    · rw [wpl_X5_put_5]; exact ky (by decide) hK
  | j + 1, i, y, he, hy => by
    have c1 : ¬ (8 : Int32) ≤ nI i := nI_ge (b := 8) (by omega) (by decide)
    by_cases y0 : y.toBitVec.toNat = 0
    · have y1 := l_0 y0
      subst y1
      refine Or.inl ⟨0, Nat.zero_le _, rfl, fun K Kx hK => ?_, fun X K Kx hK => ?_⟩
      · rw [wpl_X3_countOf_7]; exact kn c1 (ky (by decide) (hK _ _))
      · rw [wpl_X5_put_5]; exact kn c1 (ky (by decide) hK)
    · have yn := l_ne y0
      have c2 : ¬ lg_cmp y 0 = 0 := fun z => yn ((lg_cmp_eq y 0).mp z)
      have b2 := l_and2 y
      have eb : (y &&& 255).toInt32 = nI (y.toBitVec.toNat % 256) := by rw [l_32 _ (by rw [b2]; exact Nat.mod_lt _ (by decide)), b2]
      by_cases hb : 33 ≤ y.toBitVec.toNat % 256 ∧ y.toBitVec.toNat % 256 ≤ 126
      · have c3 : ¬ lg_cmp (y &&& 255) 0 = 0 := fun z => by
          have := (lg_cmp_eq _ _).mp z
          rw [this] at b2
          have : y.toBitVec.toNat % 256 = 0 := b2.symm
          omega
        have hs := l_ushr y ((8 : Int32).toInt64.toUInt64 &&& Int64.toUInt64 63) 8 (by decide)
        have inb : ∀ K : Int32 → Prop, K 1 → wp_X5_in (nI (y.toBitVec.toNat % 256)) 33 126 K := fun K hK => in_yes (nI_nlt (b := 33) hb.1 (by omega)) (nI_nlt (a := 126) hb.2 (by decide)) hK
        have inbc : ∀ K : Int32 → Prop, K 1 → wp_X4_isWithin (nI (y.toBitVec.toNat % 256)) 33 126 K := inb
        have hlt : (y.toUInt64 >>> ((8 : Int32).toInt64.toUInt64 &&& Int64.toUInt64 63)).toInt64.toBitVec.toNat < 256 ^ j := by
          rw [hs]
          rw [Nat.pow_succ] at hy
          exact Nat.div_lt_of_lt_mul (by omega)
        rcases ct_q j (i + 1) _ (by omega) hlt with ⟨c, h1, h2, h3, h4⟩ | ⟨h3, h4⟩
        · refine Or.inl ⟨c + 1, by omega, ⟨hb, by rw [hs] at h2; exact h2⟩, fun K Kx hK => ?_, fun X K Kx hK => ?_⟩
          · rw [wpl_X3_countOf_7, l_and]
            refine kn c1 (kn c2 (inbc _ (k01 fun v ev v2 ev2 v3 ev3 => ?_)))
            rw [ev, ev2, ev3, nI_1]
            exact h3 K Kx (by rw [show i + 1 + c = i + (c + 1) by omega]; exact hK)
          · rw [wpl_X5_put_5, eb]
            refine kn c1 (kn c3 (inb _ (k01 fun v ev v2 ev2 => ?_)))
            rw [ev, ev2, nI_1]
            exact h4 X K Kx (by rw [show i + 1 + c = i + (c + 1) by omega]; exact hK)
        · refine Or.inr ⟨fun K Kx hK => ?_, fun X K Kx hK hx => ?_⟩
          · rw [wpl_X3_countOf_7, l_and]
            refine kn c1 (kn c2 (inbc _ (k01 fun v ev v2 ev2 v3 ev3 => ?_)))
            rw [ev, ev2, ev3, nI_1]
            exact h3 K Kx hK
          · rw [wpl_X5_put_5, eb]
            refine kn c1 (kn c3 (inb _ (k01 fun v ev v2 ev2 => ?_)))
            rw [ev, ev2, nI_1]
            exact h4 X K Kx hK hx
      · have out : ∀ K : Int32 → Prop, K 0 → wp_X5_in (nI (y.toBitVec.toNat % 256)) 33 126 K := fun K hK => by
          have hm : y.toBitVec.toNat % 256 < 256 := Nat.mod_lt _ (by decide)
          by_cases z : y.toBitVec.toNat % 256 < 33
          · exact in_no (Or.inl (nI_lt (b := 33) z (by decide))) hK
          · exact in_no (Or.inr (nI_lt (a := 126) (by omega) (by omega))) hK
        have outc : ∀ K : Int32 → Prop, K 0 → wp_X4_isWithin (nI (y.toBitVec.toNat % 256)) 33 126 K := out
        refine Or.inr ⟨fun K Kx hK => ?_, fun X K Kx hK hx => ?_⟩
        · rw [wpl_X3_countOf_7, l_and]
          exact kn c1 (kn c2 (outc _ (k00 hK)))
        · rw [wpl_X5_put_5, eb]
          refine kn c1 ?_
          by_cases z : lg_cmp (y &&& 255) 0 = 0
          · exact ky z (hx _ _ yn)
          · exact kn z (out _ (k00 hK))
theorem ap_c (p : Int64) : ∀ (r n : Nat) (X : ES), r ≤ 8 → n + r ≤ 60 → X 0 1 = nI n → ∃ X' : ES, (∀ (K : Int32 → ES → Prop) (Kx : Int32 → ES → Prop), (∀ y, Kx y X') → wpl_X3_append_31 p K Kx (r + 1) (nI r - 1) X) ∧ X' 0 1 = nI (n + r) ∧ (∀ t, t < r → X' 1 (n + t) = nI (p.toBitVec.toNat / 2 ^ (8 * (r - 1 - t)) % 256)) ∧ ∀ t, t < n → X' 1 t = X 1 t
  | 0, n, X, h8, hn, hX => by
    refine ⟨X, fun K Kx hK => ?_, hX, fun t ht => absurd ht (by omega), fun _ _ => rfl⟩
    rw [wpl_X3_append_31]
    exact ky (by decide) (hK _)
  | r + 1, n, X, h8, hn, hX => by
    obtain ⟨X', a, b, c, d⟩ := ap_c p r (n + 1) (va_up (va_up X 1 (upd (X 1) n (nI (p.toBitVec.toNat / 2 ^ (8 * r) % 256)))) 0 (upd (X 0) 1 (nI (n + 1)))) (by omega) (by omega) (by rw [vuS, updA, if_pos rfl])
    refine ⟨X', fun K Kx hK => ?_, by rw [b]; congr 1; omega, fun t ht => ?_, fun t ht => ?_⟩
    · rw [wpl_X3_append_31, nI_pred]
      refine kn (nI_pos (by omega)) ?_
      unfold wp_X3_appendCode
      rw [hX]
      refine kn (nI_pos (by omega)) (kn (nI_ge (b := 60) (by omega) (by decide)) ⟨nIn (by omega) (by decide), fun X3 e3 X4 e4 v ev => ?_⟩)
      have hs : ((8 * nI r).toInt64.toUInt64 &&& Int64.toUInt64 63).toNat % 64 = 8 * r := by
        rcases (by omega : r = 0 ∨ r = 1 ∨ r = 2 ∨ r = 3 ∨ r = 4 ∨ r = 5 ∨ r = 6 ∨ r = 7) with z | z | z | z | z | z | z | z <;> subst z <;> decide
      rw [l_and, l_ushr p _ _ hs, nI_clamp (by omega)] at e3
      rw [ev, e4, e3, vuN (by decide : (0 : Nat) ≠ 1), hX, nI_1, ← Int32.sub_eq_add_neg]
      exact a K Kx hK
    · by_cases z : t = 0
      · subst z
        have := d n (by omega)
        rw [vuN (by decide), vuS, updA, if_pos rfl] at this
        exact this
      · have := c (t - 1) (by omega)
        rw [show n + 1 + (t - 1) = n + t by omega, show r - 1 - (t - 1) = r + 1 - 1 - t by omega] at this
        exact this
    · have := d t (by omega)
      rw [vuN (by decide), vuS, updA, if_neg (by omega)] at this
      exact this
theorem ap_m (p : Int64) (c n : Nat) (hc : c ≤ 8) (hn : n + c ≤ 60) (M : ES) (hM : M 0 5 = nI n) : ∀ (j k : Nat) (A : CS), k + j = c → ∃ A' : CS, (∀ (K : Int32 → ES → Prop) (Kx : Int32 → ES → Prop), (∀ y, Kx y (va_up M 5 A')) → wpl_X5_put_86 p (nI c) K Kx (j + 1) (nI k) (va_up M 5 A)) ∧ (∀ t, k ≤ t → t < c → A' (n + t) = nI (p.toBitVec.toNat / 2 ^ (8 * (c - 1 - t)) % 256)) ∧ ∀ t, t < n + k → A' t = A t
  | 0, k, A, he => by
    have e : k = c := by omega
    subst e
    refine ⟨A, fun K Kx hK => ?_, fun t h1 h2 => absurd h1 (by omega), fun _ _ => rfl⟩
    rw [wpl_X5_put_86]
    exact ky (nI_le (Nat.le_refl _) (by omega)) (hK _)
  | j + 1, k, A, he => by
    obtain ⟨A', a, b, d⟩ := ap_m p c n hc hn M hM j (k + 1) (upd A (n + k) (nI (p.toBitVec.toNat / 2 ^ (8 * (c - 1 - k)) % 256))) (by omega)
    refine ⟨A', fun K Kx hK => ?_, fun t h1 h2 => ?_, fun t ht => ?_⟩
    · rw [wpl_X5_put_86]
      refine kn (nI_ge (by omega) (by omega)) ?_
      obtain ⟨s, rfl⟩ : ∃ s, c = s + 1 := ⟨c - 1, by omega⟩
      have es : nI (s + 1) - 1 - nI k = nI (s - k) := by rw [nI_pred, pk_sub (by omega)]
      rw [vuN (by decide : (0 : Nat) ≠ 5), hM, vuS, vuU, nI_add, nI_clamp (by omega), es]
      have ht : (((8 * nI (s - k)).toInt64 &&& 63).toBitVec.smod 64).toNat = 8 * (s - k) := by
        rcases (by omega : s - k = 0 ∨ s - k = 1 ∨ s - k = 2 ∨ s - k = 3 ∨ s - k = 4 ∨ s - k = 5 ∨ s - k = 6 ∨ s - k = 7) with z | z | z | z | z | z | z | z <;> rw [z] <;> decide
      have ev8 : ((p >>> ((8 * nI (s - k)).toInt64 &&& 63)) &&& 255).toBitVec.toNat = p.toBitVec.toNat / 2 ^ (8 * (s - k)) % 256 := by
        rw [l_and2, l_shr p _ _ ht (by omega)]
      rw [l_32 _ (by rw [ev8]; exact Nat.mod_lt _ (by decide)), ev8]
      refine ⟨nIn (by omega) (by decide), fun X18 e18 v ev => ?_⟩
      rw [e18, ev, nI_1]
      rw [show s + 1 - 1 - k = s - k by omega] at a
      exact a K Kx hK
    · by_cases z : t = k
      · subst z
        rw [d (n + t) (by omega), updA, if_pos rfl]
      · exact b t (by omega) h2
    · rw [d t (by omega), updA, if_neg (by omega)]
/-- the pad on both sides -/
def PD (P M : ES) : Prop := ∃ n : Nat, n ≤ 60 ∧ P 0 1 = nI n ∧ M 0 5 = nI n ∧ ∀ k, k < n → ∃ v : Nat, 33 ≤ v ∧ v ≤ 126 ∧ P 1 k = nI v ∧ M 5 k = nI v
theorem x_put {P M : ES} (hP : PD P M) (p : Int64) : ∃ (r : Int32) (P' M' : ES), (∀ K : Int32 → ES → Prop, K r P' → wp_X3_append P p K) ∧ (∀ K : Int32 → ES → Prop, K r M' → wp_X5_put M p K) ∧ PD P' M' ∧ ∀ k, ¬ k = 0 → ¬ k = 5 → M' k = M k := by
  have h0 := hP
  obtain ⟨n, n60, hp, hm, hv⟩ := hP
  have p8 : p.toBitVec.toNat < 256 ^ 8 := p.toBitVec.isLt
  rcases ct_q 8 0 p rfl p8 with ⟨c, c8, hV, hC, hMo⟩ | ⟨hC, hMo⟩
  · rw [Nat.zero_add] at hC hMo
    by_cases c0 : c = 0
    · subst c0
      refine ⟨-2, P, M, fun K hK => ⟨9, hC _ _ fun a b => k00 hK⟩, fun K hK => ⟨9, hMo M _ _ (k00 hK)⟩, h0, fun _ _ _ => rfl⟩
    · have cn : ¬ nI c = 0 := nI_ne0 (by omega) (by omega)
      by_cases hf : n + c ≤ 60
      · obtain ⟨P', a1, a2, a3, a4⟩ := ap_c p c n P c8 hf hp
        obtain ⟨A', b1, b2, b3⟩ := ap_m p c n c8 hf M hm c 0 (M 5) (by omega)
        rw [vuSelf] at b1
        have le : nI n + nI c ≤ 60 := by rw [nI_add]; exact nI_le (b := 60) hf (by decide)
        refine ⟨nI (n + c), P', va_up (va_up M 5 A') 0 (upd (M 0) 5 (nI (n + c))), fun K hK => ⟨9, hC _ _ fun a b => kn cn ?_⟩, fun K hK => ⟨9, hMo M _ _ (kn cn (ky (by decide) ?_))⟩, ⟨n + c, hf, a2, by rw [vuS, updA, if_pos rfl], fun k hk => ?_⟩, fun k k1 k2 => by rw [vuN k1, vuN k2]⟩
        · rw [hp]
          refine ky le fun v ev => ⟨c + 1, ?_⟩
          rw [ev]
          refine a1 _ _ fun y => ?_
          rw [a2]; exact hK
        · rw [hm]
          refine ky le ⟨c + 1, b1 _ _ fun y X12 e12 => ?_⟩
          rw [e12, vuS, vuN (by decide : (0 : Nat) ≠ 5), hm, nI_add, updA, if_pos rfl]
          exact hK
        · by_cases z : k < n
          · obtain ⟨v, v1, v2, v3, v4⟩ := hv k z
            exact ⟨v, v1, v2, by rw [a4 k z]; exact v3, by rw [vuN (by decide), vuS, b3 k (by omega)]; exact v4⟩
          · obtain ⟨u1, u2⟩ := Vd_byte (c - 1 - (k - n)) c _ hV (by omega)
            refine ⟨_, u1, u2, ?_, ?_⟩
            · have := a3 (k - n) (by omega)
              rw [show n + (k - n) = k by omega] at this
              exact this
            · rw [vuN (by decide), vuS]
              have := b2 (k - n) (Nat.zero_le _) (by omega)
              rw [show n + (k - n) = k by omega] at this
              exact this
      · have le : ¬ nI n + nI c ≤ 60 := by rw [nI_add]; exact nI_ge (a := 60) (by omega) (by omega)
        refine ⟨-4, P, M, fun K hK => ⟨9, hC _ _ fun a b => kn cn ?_⟩, fun K hK => ⟨9, hMo M _ _ (kn cn (ky (by decide) ?_))⟩, h0, fun _ _ _ => rfl⟩
        · rw [hp]; exact kn le hK
        · rw [hm]; exact kn le hK
  · refine ⟨-2, P, M, fun K hK => ⟨9, hC _ _ (k00 hK)⟩, fun K hK => ⟨9, hMo M _ _ hK fun a b hb => ?_⟩, h0, fun _ _ _ => rfl⟩
    by_cases a0 : a = 0
    · exact ky a0 hK
    · exact kn a0 (kn (fun z => hb ((lg_cmp_eq _ _).mp z)) hK)
