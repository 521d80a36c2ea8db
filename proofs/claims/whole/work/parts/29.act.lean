-- ===== reading an act =====
theorem rl_y {Z : ES} {n s a l : Nat} {T : CS} (hZ : Z 0 5 = nI n) (hn : n ≤ 60) (hs : s < 2 ^ 20) (hl : ln (TX n (Z 5) s) l) {K : Int32 → ES → Prop} (hK : K (nI l) (sm Z (s + 1) 0 a T)) : wp_X5_readLine (sm Z s 0 a T) K := by
  refine nx_q hZ hn hs (ln_y hl (ky (sm07 _ _ _ _ _) (ky (nI_pos' (by have := ln_lt hl; omega)) fun X9 e9 => ?_)))
  rw [e9, sm_w]
  refine ky (sm07 _ _ _ _ _) fun X11 e11 => ?_
  rw [e11, sm06, nI_1, sm_s]
  exact hK
theorem rl_n {Z : ES} {n s a : Nat} {T : CS} (hZ : Z 0 5 = nI n) (hn : n ≤ 60) (hs : s < 2 ^ 20) (hl : ∀ l, ¬ ln (TX n (Z 5) s) l) {K : Int32 → ES → Prop} (hK : K (-6) (sm Z s 1 a T)) : wp_X5_readLine (sm Z s 0 a T) K := by
  refine nx_q hZ hn hs (ln_n hl (ky (sm07 _ _ _ _ _) (kn (by decide) fun X9 e9 => ?_)))
  rw [e9, sm_w]
  refine kn (by rw [sm07]; decide) fun X11 e11 => ?_
  rw [e11, sm06, i_p0, sm_s]
  exact hK
theorem tx_n {n : Nat} {D : CS} {k : Nat} (h : n ≤ k) : TX n D k = 0 := by rw [TX, if_neg (by omega)]
theorem rd_loop {P Z : ES} {n : Nat} (hP : P 0 1 = nI n) (hZ : Z 0 5 = nI n) (hn : n ≤ 60) (hX : TX n (P 1) = TX n (Z 5)) : ∀ j s : Nat, s + j = n → ∃ e : Nat, s ≤ e ∧ e ≤ n ∧ (∀ t, s ≤ t → t < e → dg (TX n (Z 5) t)) ∧ ¬ dg (TX n (Z 5) e) ∧ (∀ (a : Nat) (T : CS) (K : ES → Prop) (Kx : ES → Prop), Kx (sm Z e 0 a T) → wpl_X5_readDigits_12 K Kx (j + 1) (sm Z s 0 a T)) ∧ ∀ (num r : Int32), (∀ num', CF P n 4 num' e r) → CF P n 4 num s r
  | 0, s, he => by
    have e : s = n := by omega
    subst e
    have nd : ¬ dg (TX s (Z 5) s) := by rw [tx_n (Nat.le_refl _)]; exact dg_0
    refine ⟨s, Nat.le_refl _, Nat.le_refl _, fun t h1 h2 => absurd h1 (by omega), nd, fun a T K Kx hK => ?_, fun num r h => h num⟩
    rw [wpl_X5_readDigits_12]
    exact ky (sm07 _ _ _ _ _) (nx_q hZ hn (by omega) (dg_n nd (k00 hK)))
  | j + 1, s, he => by
    by_cases hd : dg (TX n (Z 5) s)
    · obtain ⟨e, e1, e2, e3, e4, e5, e6⟩ := rd_loop hP hZ hn hX j (s + 1) (by omega)
      refine ⟨e, by omega, e2, fun t h1 h2 => ?_, e4, fun a T K Kx hK => ?_, fun num r h => ?_⟩
      · by_cases z : t = s
        · subst z; exact hd
        · exact e3 t (by omega) h2
      · rw [wpl_X5_readDigits_12]
        refine ky (sm07 _ _ _ _ _) (nx_q hZ hn (by omega) (dg_y hd (k01 fun X28 e28 => ?_)))
        rw [e28, sm06, nI_1, sm_s]
        exact e5 a T K Kx hK
      · have hd' : dg (TX n (P 1) s) := by rw [hX]; exact hd
        exact CF_d hP hn (by omega) hd' (by decide : ¬ (4 : Int32) = 8) (fun K hK => kn (by decide) (kn (by decide) (kn (by decide) (kn (by decide) (ky rfl (dgc_y hd' (k01 hK))))))) (e6 _ r h)
    · refine ⟨s, Nat.le_refl _, by omega, fun t h1 h2 => absurd h1 (by omega), hd, fun a T K Kx hK => ?_, fun num r h => h num⟩
      rw [wpl_X5_readDigits_12]
      exact ky (sm07 _ _ _ _ _) (nx_q hZ hn (by omega) (dg_n hd (k00 hK)))
theorem aw6 {v : Nat} {x : Int32} (h1 : 1 ≤ v) (h2 : v ≤ 200) {K : Int32 → Prop} (hK : K 6) : wp_X3_awaitedBehind 6 x (nI v) K :=
  kn (by decide) (kn (by decide) (kn (by decide) (kn (by decide) (kn (by decide) (kn (by decide) (ky rfl (inc_yes (nI_nlt (b := 1) h1 (by omega)) (nI_nlt (a := 200) h2 (by decide)) (k01 hK))))))))
theorem aw5 {v : Nat} {x : Int32} (h1 : 1 ≤ v) (h2 : v ≤ 200) {K : Int32 → Prop} (hK : K 6) : wp_X3_awaitedBehind 5 x (nI v) K :=
  kn (by decide) (kn (by decide) (kn (by decide) (kn (by decide) (kn (by decide) (ky rfl (inc_yes (nI_nlt (b := 1) h1 (by omega)) (nI_nlt (a := 200) h2 (by decide)) (k01 hK)))))))
theorem aw5n {x : Int32} {K : Int32 → Prop} (hK : K 8) : wp_X3_awaitedBehind 5 x 0 K :=
  kn (by decide) (kn (by decide) (kn (by decide) (kn (by decide) (kn (by decide) (ky rfl ⟨fun _ => k00 hK, fun z => absurd (by decide) z⟩)))))
theorem na_step {P : ES} {n s v d : Nat} (hP : P 0 1 = nI n) (hn : n ≤ 60) (hs : s < n) (hv : v < 2 ^ 20) (hd : d ≤ 9) (hx : TX n (P 1) s = nI (48 + d)) {K : Int32 → Prop} {Kx : Int32 → Int32 → Prop} {m : Nat} (h : wpl_X3_numberAt_4 P K Kx m (nI (10 * v + d)) (nI (s + 1))) : wpl_X3_numberAt_4 P K Kx (m + 1) (nI v) (nI s) := by
  rw [wpl_X3_numberAt_4, hP]
  refine kn (nI_ge (by omega) (by omega)) (code_q hP hn (by omega) (dgc_y ⟨d, hd, hx⟩ (k01 (code_q hP hn (by omega) fun v1 ev1 v2 ev2 => ?_))))
  rw [ev1, ev2, hx, num_d hv hd, nI_1]
  exact h
theorem na_end {P : ES} {n s : Nat} {v : Int32} (hP : P 0 1 = nI n) (hn : n ≤ 60) (hs : s ≤ n) (hd : ¬ dg (TX n (P 1) s)) {K : Int32 → Prop} {Kx : Int32 → Int32 → Prop} (h : Kx v (nI s)) : wpl_X3_numberAt_4 P K Kx 1 v (nI s) := by
  rw [wpl_X3_numberAt_4, hP]
  by_cases z : s = n
  · subst z; exact ky (nI_le (Nat.le_refl _) (by omega)) h
  · exact kn (nI_ge (by omega) (by omega)) (code_q hP hn (by omega) (dgc_n hd (k00 h)))
theorem rn_loop {P Z : ES} {n : Nat} (hP : P 0 1 = nI n) (hZ : Z 0 5 = nI n) (hn : n ≤ 60) (hX : TX n (P 1) = TX n (Z 5)) : ∀ j s v : Nat, s + j = n → 1 ≤ v → v ≤ 200 → ∃ e v' : Nat, s ≤ e ∧ e ≤ n ∧ 1 ≤ v' ∧ v' ≤ 200 ∧ (∀ t, s ≤ t → t < e → dg (TX n (Z 5) t)) ∧ (∀ d, d ≤ 9 → TX n (Z 5) e = nI (48 + d) → 200 < 10 * v' + d) ∧ (∀ (a : Nat) (T : CS) (K Kx : Int32 → ES → Prop), Kx (nI v') (sm Z e 0 a T) → wpl_X5_readNumber_39 K Kx (j + 1) (nI v) (sm Z s 0 a T)) ∧ (∀ r, CF P n 6 (nI v') e r → CF P n 6 (nI v) s r) ∧ (¬ dg (TX n (Z 5) e) → ∀ (K : Int32 → Prop) (Kx : Int32 → Int32 → Prop), (∀ y, Kx (nI v') y) → ∃ m, wpl_X3_numberAt_4 P K Kx m (nI v) (nI s))
  | 0, s, v, he, h1, h2 => by
    have e : s = n := by omega
    subst e
    have nd : ¬ dg (TX s (Z 5) s) := by rw [tx_n (Nat.le_refl _)]; exact dg_0
    refine ⟨s, v, Nat.le_refl _, Nat.le_refl _, h1, h2, fun t a b => absurd a (by omega), fun d d1 d2 => absurd ⟨d, d1, d2⟩ nd, fun a T K Kx hK => ?_, fun r h => h, fun _ K Kx hK => ⟨1, na_end hP hn (Nat.le_refl _) (by rw [hX]; exact nd) (hK _)⟩⟩
    rw [wpl_X5_readNumber_39]
    exact nx_q hZ hn (by omega) (dg_n nd (k00 hK))
  | j + 1, s, v, he, h1, h2 => by
    by_cases hd : dg (TX n (Z 5) s)
    · have hd0 := hd
      obtain ⟨d, d1, d2⟩ := hd
      have hd' : dg (TX n (P 1) s) := by rw [hX]; exact hd0
      have en : (10 : Int32) * nI v + TX n (Z 5) s - 48 = nI (10 * v + d) := by rw [d2]; exact num_d (by omega) d1
      have en' : (10 : Int32) * nI v + TX n (P 1) s - 48 = nI (10 * v + d) := by rw [hX]; exact en
      by_cases hb : 10 * v + d ≤ 200
      · obtain ⟨e, v', f1, f2, f3, f4, f5, f6, f7, f8, f9⟩ := rn_loop hP hZ hn hX j (s + 1) (10 * v + d) (by omega) (by omega) hb
        refine ⟨e, v', by omega, f2, f3, f4, fun t a b => ?_, f6, fun a T K Kx hK => ?_, fun r h => ?_, fun nd K Kx hK => ?_⟩
        · by_cases z : t = s
          · subst z; exact hd0
          · exact f5 t (by omega) b
        · rw [wpl_X5_readNumber_39]
          refine nx_q hZ hn (by omega) (dg_y hd0 (k01 (nx_q hZ hn (by omega) ?_)))
          rw [en]
          refine kn (nI_nlt (a := 200) hb (by decide)) (nx_q hZ hn (by omega) fun v1 ev1 X20 e20 => ?_)
          rw [ev1, en, e20, sm06, nI_1, sm_s]
          exact f7 a T K Kx hK
        · exact CF_d hP hn (by omega) hd' (by decide : ¬ (6 : Int32) = 8) (fun K hK => by rw [en']; exact aw6 (by omega) hb hK) (by rw [en']; exact f8 r h)
        · obtain ⟨m, hm⟩ := f9 nd K Kx hK
          exact ⟨m + 1, na_step hP hn (by omega) (by omega) d1 (by rw [hX]; exact d2) hm⟩
      · refine ⟨s, v, Nat.le_refl _, by omega, h1, h2, fun t a b => absurd a (by omega), fun d' e1 e2 => ?_, fun a T K Kx hK => ?_, fun r h => h, fun nd => absurd hd0 nd⟩
        · have := nI_inj (by omega) (by omega) (d2.symm.trans e2)
          omega
        · rw [wpl_X5_readNumber_39]
          refine nx_q hZ hn (by omega) (dg_y hd0 (k01 (nx_q hZ hn (by omega) ?_)))
          rw [en]
          exact ky (nI_lt (a := 200) (by omega) (by omega)) hK
    · refine ⟨s, v, Nat.le_refl _, by omega, h1, h2, fun t a b => absurd a (by omega), fun d d1 d2 => absurd ⟨d, d1, d2⟩ hd, fun a T K Kx hK => ?_, fun r h => h, fun _ K Kx hK => ⟨1, na_end hP hn (by omega) (by rw [hX]; exact hd) (hK _)⟩⟩
      rw [wpl_X5_readNumber_39]
      exact nx_q hZ hn (by omega) (dg_n hd (k00 hK))
/-- an act of the text: it begins at p, its letter is k, its line or number v, it ends before e -/
def Act (P : ES) (tx : Nat → Int32) (n p k v e : Nat) : Prop :=
  ((k = 108 ∨ k = 104) ∧ tx p = nI k ∧ ln (tx (p + 1)) v ∧ e = p + 2 ∧ e ≤ n) ∨
  (k = 100 ∧ tx p = nI 100 ∧ ln (tx (p + 1)) v ∧ p + 3 ≤ e ∧ e ≤ n ∧ (∀ t, p + 2 ≤ t → t < e → dg (tx t)) ∧ ¬ dg (tx e)) ∨
  (k = 116 ∧ tx p = nI 116 ∧ 1 ≤ v ∧ v ≤ 200 ∧ p + 2 ≤ e ∧ e ≤ n ∧ (∀ t, p + 1 ≤ t → t < e → dg (tx t)) ∧ (¬ dg (tx e) → ∀ K : Int32 → Prop, K (nI v) → wp_X3_numberAt P (nI (p + 1)) K))
def Row (T : CS) (a k v p e : Nat) : Prop := T (4 * a) = nI k ∧ T (4 * a + 1) = nI v ∧ (k = 100 → T (4 * a + 2) = nI (p + 2) ∧ T (4 * a + 3) = nI (e - (p + 2)))
def Stop (tx : Nat → Int32) (st num : Int32) (e : Nat) : Prop := st = 7 ∨ (st = 4 ∧ ¬ dg (tx e)) ∨ (st = 6 ∧ ∃ v : Nat, 1 ≤ v ∧ v ≤ 200 ∧ num = nI v ∧ ∀ d, d ≤ 9 → tx e = nI (48 + d) → 200 < 10 * v + d)
def RaOk (P Z : ES) (n a p : Nat) (T : CS) : Prop := ∃ (k v e : Nat) (T' : CS), Act P (TX n (Z 5)) n p k v e ∧ Row T' a k v p e ∧ (∀ t, t < 4 * a → T' t = T t) ∧ (∀ K : ES → Prop, K (sm Z e 0 (a + 1) T') → wp_X5_readAct (sm Z p 0 a T) K) ∧ ∀ r, (∀ st num, Stop (TX n (Z 5)) st num e → CF P n st num e r) → ∀ num, CF P n 0 num p r
def RaNo (P Z : ES) (n a p : Nat) (T : CS) : Prop := ∃ (s a' : Nat) (T' : CS), s ≤ n ∧ (∀ K : ES → Prop, K (sm Z s 1 a' T') → wp_X5_readAct (sm Z p 0 a T) K) ∧ ∀ num, CF P n 0 num p (nI s)
theorem upS (T : CS) (k : Nat) (v : Int32) : upd T k v k = v := if_pos rfl
theorem upN {T : CS} {k j : Nat} {v : Int32} (h : ¬ j = k) : upd T k v j = T j := if_neg h
theorem ra_q {P Z : ES} {n a p : Nat} {T : CS} (hP : P 0 1 = nI n) (hZ : Z 0 5 = nI n) (hn : n ≤ 60) (hX : TX n (P 1) = TX n (Z 5)) (hp : p ≤ n) (ha : 3 * a ≤ p) : RaOk P Z n a p T ∨ RaNo P Z n a p T := by
  have bad : (¬ TX n (Z 5) p = 108 ∧ ¬ TX n (Z 5) p = 104 ∧ ¬ TX n (Z 5) p = 100 ∧ ¬ TX n (Z 5) p = 116) → RaNo P Z n a p T := by
    intro h
    refine ⟨p, a, T, hp, fun K hK => nx_q hZ hn (by omega) (kn h.1 (kn h.2.1 (kn h.2.2.1 (kn h.2.2.2 fun X e => by rw [e, sm_w]; exact hK)))), fun num => ?_⟩
    by_cases z : p = n
    · subst z; exact CF_endf hP hn (by decide)
    · exact CF_anyf hP hn (by omega) fun w K hK => by
        rw [hX]
        exact ky rfl (kn h.2.2.1 (kn h.2.1 (kn h.1 (kn h.2.2.2 hK))))
  have a0 : 4 * nI a = nI (4 * a) := by rw [show (4 : Int32) = nI 4 from rfl, pk_mul]
  have i0 : p < n → vp_in (nI (4 * a)) 128 := fun z => nIn (by omega) (by decide)
  have i1 : p < n → vp_in (nI (4 * a) + 1) 128 := fun z => by rw [nI_1]; exact nIn (by omega) (by decide)
  have i2 : p < n → vp_in (nI (4 * a) + 2) 128 := fun z => by rw [show (2 : Int32) = nI 2 from rfl, nI_add]; exact nIn (by omega) (by decide)
  have i3 : p < n → vp_in (nI (4 * a) + 3) 128 := fun z => by rw [show (3 : Int32) = nI 3 from rfl, nI_add]; exact nIn (by omega) (by decide)
  have j0 : p ≤ n → (nI (4 * a)).toNatClampNeg = 4 * a := fun z => nI_clamp (by omega)
  have j1 : p ≤ n → (nI (4 * a) + 1).toNatClampNeg = 4 * a + 1 := fun z => by rw [nI_1]; exact nI_clamp (by omega)
  have j2 : p ≤ n → (nI (4 * a) + 2).toNatClampNeg = 4 * a + 2 := fun z => by rw [show (2 : Int32) = nI 2 from rfl, nI_add]; exact nI_clamp (by omega)
  have j3 : p ≤ n → (nI (4 * a) + 3).toNatClampNeg = 4 * a + 3 := fun z => by rw [show (3 : Int32) = nI 3 from rfl, nI_add]; exact nI_clamp (by omega)
  have lt_of : ∀ x : Int32, ¬ x = 0 → TX n (Z 5) p = x → p < n := fun x h0 hx => Nat.lt_of_not_le fun z => h0 (hx.symm.trans (tx_n z))
  have ndl : ∀ k : Nat, 57 < k → k < 200 → TX n (Z 5) p = nI k → ¬ dg (TX n (P 1) p) := fun k k1 k2 hx => by rw [hX]; exact dg_of k hx (Or.inr k1) (by omega)
  by_cases c108 : TX n (Z 5) p = 108
  · have hlt := lt_of 108 (by decide) c108
    by_cases hl : ∃ l, ln (TX n (Z 5) (p + 1)) l
    · obtain ⟨l, hl⟩ := hl
      have hp1 : p + 1 < n := Nat.lt_of_not_le fun z => by
        rw [tx_n z] at hl
        rcases hl with ⟨_, y⟩ | ⟨_, _, y⟩
        · exact absurd (nI_inj (a := 0) (by decide) (by omega) y) (by omega)
        · exact absurd (nI_inj (a := 0) (by decide) (by omega) y) (by omega)
      refine Or.inl ⟨108, l, p + 2, upd (upd T (4 * a) 108) (4 * a + 1) (nI l), Or.inl ⟨by decide, c108, hl, rfl, by omega⟩, ⟨?_, upS _ _ _, fun z => absurd z (by decide)⟩, fun t ht => ?_, fun K hK => ?_, fun r h num => ?_⟩
      · rw [upN (by omega), upS]; rfl
      · rw [upN (by omega), upN (by omega)]
      · refine nx_q hZ hn (by omega) (ky c108 fun X3 e3 v4 e4 => ?_)
        rw [sm06, nI_1, sm_s] at e3
        subst e3
        rw [sm09, a0] at e4
        rw [e4, c108, j0 hp]
        refine ⟨i0 hlt, fun X5 e5 => ?_⟩
        rw [e5, sm_6, sm_T]
        refine kn (by decide) (rl_y hZ hn (by omega) hl ⟨i1 hlt, fun X9 e9 => ?_⟩)
        rw [e9, sm_6, sm_T, j1 hp]
        refine kn (by decide) fun X11 e11 => ?_
        rw [e11, sm09, nI_1, sm_a]
        exact hK
      · refine CF_n hP hn hlt (ndl 108 (by decide) (by decide) c108) (by decide : ¬ (1 : Int32) = 8) (fun K hK => by rw [hX]; exact ky rfl (kn (by rw [c108]; decide) (kn (by rw [c108]; decide) (ky c108 hK)))) ?_
        refine CF_any hP hn hp1 (by decide : ¬ (7 : Int32) = 8) (fun w K hK => by rw [hX]; exact kn (by decide) (ky rfl (lnc_y hl (kn (nI_neg (by have := ln_lt hl; omega)) hK)))) fun w => h 7 w (Or.inl rfl)
    · have hl' : ∀ l, ¬ ln (TX n (Z 5) (p + 1)) l := fun l z => hl ⟨l, z⟩
      refine Or.inr ⟨p + 1, a + 1, upd (upd T (4 * a) 108) (4 * a + 1) (-6), by omega, fun K hK => ?_, fun num => ?_⟩
      · refine nx_q hZ hn (by omega) (ky c108 fun X3 e3 v4 e4 => ?_)
        rw [sm06, nI_1, sm_s] at e3
        subst e3
        rw [sm09, a0] at e4
        rw [e4, c108, j0 hp]
        refine ⟨i0 hlt, fun X5 e5 => ?_⟩
        rw [e5, sm_6, sm_T]
        refine kn (by decide) (rl_n hZ hn (by omega) hl' ⟨i1 hlt, fun X9 e9 => ?_⟩)
        rw [e9, sm_6, sm_T, j1 hp]
        refine kn (by decide) fun X11 e11 => ?_
        rw [e11, sm09, nI_1, sm_a]
        exact hK
      · refine CF_n hP hn hlt (ndl 108 (by decide) (by decide) c108) (by decide : ¬ (1 : Int32) = 8) (fun K hK => by rw [hX]; exact ky rfl (kn (by rw [c108]; decide) (kn (by rw [c108]; decide) (ky c108 hK)))) ?_
        by_cases z : p + 1 = n
        · rw [z]; exact CF_endf hP hn (by decide)
        · exact CF_anyf hP hn (by omega) fun w K hK => by rw [hX]; exact kn (by decide) (ky rfl (lnc_n hl' (ky rfl hK)))
  by_cases c104 : TX n (Z 5) p = 104
  · have hlt := lt_of 104 (by decide) c104
    by_cases hl : ∃ l, ln (TX n (Z 5) (p + 1)) l
    · obtain ⟨l, hl⟩ := hl
      have hp1 : p + 1 < n := Nat.lt_of_not_le fun z => by
        rw [tx_n z] at hl
        rcases hl with ⟨_, y⟩ | ⟨_, _, y⟩
        · exact absurd (nI_inj (a := 0) (by decide) (by omega) y) (by omega)
        · exact absurd (nI_inj (a := 0) (by decide) (by omega) y) (by omega)
      refine Or.inl ⟨104, l, p + 2, upd (upd T (4 * a) 104) (4 * a + 1) (nI l), Or.inl ⟨by decide, c104, hl, rfl, by omega⟩, ⟨?_, upS _ _ _, fun z => absurd z (by decide)⟩, fun t ht => ?_, fun K hK => ?_, fun r h num => ?_⟩
      · rw [upN (by omega), upS]; rfl
      · rw [upN (by omega), upN (by omega)]
      · refine nx_q hZ hn (by omega) (kn c108 (ky c104 fun X3 e3 v4 e4 => ?_))
        rw [sm06, nI_1, sm_s] at e3
        subst e3
        rw [sm09, a0] at e4
        rw [e4, c104, j0 hp]
        refine ⟨i0 hlt, fun X5 e5 => ?_⟩
        rw [e5, sm_6, sm_T]
        refine kn (by decide) (rl_y hZ hn (by omega) hl ⟨i1 hlt, fun X9 e9 => ?_⟩)
        rw [e9, sm_6, sm_T, j1 hp]
        refine kn (by decide) fun X11 e11 => ?_
        rw [e11, sm09, nI_1, sm_a]
        exact hK
      · refine CF_n hP hn hlt (ndl 104 (by decide) (by decide) c104) (by decide : ¬ (1 : Int32) = 8) (fun K hK => by rw [hX]; exact ky rfl (kn (by rw [c104]; decide) (ky c104 hK))) ?_
        refine CF_any hP hn hp1 (by decide : ¬ (7 : Int32) = 8) (fun w K hK => by rw [hX]; exact kn (by decide) (ky rfl (lnc_y hl (kn (nI_neg (by have := ln_lt hl; omega)) hK)))) fun w => h 7 w (Or.inl rfl)
    · have hl' : ∀ l, ¬ ln (TX n (Z 5) (p + 1)) l := fun l z => hl ⟨l, z⟩
      refine Or.inr ⟨p + 1, a + 1, upd (upd T (4 * a) 104) (4 * a + 1) (-6), by omega, fun K hK => ?_, fun num => ?_⟩
      · refine nx_q hZ hn (by omega) (kn c108 (ky c104 fun X3 e3 v4 e4 => ?_))
        rw [sm06, nI_1, sm_s] at e3
        subst e3
        rw [sm09, a0] at e4
        rw [e4, c104, j0 hp]
        refine ⟨i0 hlt, fun X5 e5 => ?_⟩
        rw [e5, sm_6, sm_T]
        refine kn (by decide) (rl_n hZ hn (by omega) hl' ⟨i1 hlt, fun X9 e9 => ?_⟩)
        rw [e9, sm_6, sm_T, j1 hp]
        refine kn (by decide) fun X11 e11 => ?_
        rw [e11, sm09, nI_1, sm_a]
        exact hK
      · refine CF_n hP hn hlt (ndl 104 (by decide) (by decide) c104) (by decide : ¬ (1 : Int32) = 8) (fun K hK => by rw [hX]; exact ky rfl (kn (by rw [c104]; decide) (ky c104 hK))) ?_
        by_cases z : p + 1 = n
        · rw [z]; exact CF_endf hP hn (by decide)
        · exact CF_anyf hP hn (by omega) fun w K hK => by rw [hX]; exact kn (by decide) (ky rfl (lnc_n hl' (ky rfl hK)))
  by_cases c100 : TX n (Z 5) p = 100
  · have hlt := lt_of 100 (by decide) c100
    have go1 : ∀ r, CF P n 2 0 (p + 1) r → ∀ num, CF P n 0 num p r := fun r h num => CF_n hP hn hlt (ndl 100 (by decide) (by decide) c100) (by decide : ¬ (2 : Int32) = 8) (fun K hK => by rw [hX]; exact ky rfl (ky c100 hK)) h
    by_cases hl : ∃ l, ln (TX n (Z 5) (p + 1)) l
    · obtain ⟨l, hl⟩ := hl
      have hp1 : p + 1 < n := Nat.lt_of_not_le fun z => by
        rw [tx_n z] at hl
        rcases hl with ⟨_, y⟩ | ⟨_, _, y⟩
        · exact absurd (nI_inj (a := 0) (by decide) (by omega) y) (by omega)
        · exact absurd (nI_inj (a := 0) (by decide) (by omega) y) (by omega)
      have go2 : ∀ r, (∀ w, CF P n 3 w (p + 2) r) → ∀ num, CF P n 0 num p r := fun r h => go1 r (CF_any hP hn hp1 (by decide : ¬ (3 : Int32) = 8) (fun w K hK => by rw [hX]; exact kn (by decide) (kn (by decide) (ky rfl (lnc_y hl (kn (nI_neg (by have := ln_lt hl; omega)) hK))))) h)
      obtain ⟨e, f1, f2, f3, f4, f5, f6⟩ := rd_loop hP hZ hn hX (n - (p + 2)) (p + 2) (by omega)
      have mrun : ∀ K : ES → Prop, ((nI (e - (p + 2)) = 0 → K (sm Z e 1 (a + 1) (upd (upd (upd (upd T (4 * a) 100) (4 * a + 1) (nI l)) (4 * a + 2) (nI (p + 2))) (4 * a + 3) (nI (e - (p + 2)))))) ∧ (¬ nI (e - (p + 2)) = 0 → K (sm Z e 0 (a + 1) (upd (upd (upd (upd T (4 * a) 100) (4 * a + 1) (nI l)) (4 * a + 2) (nI (p + 2))) (4 * a + 3) (nI (e - (p + 2))))))) → wp_X5_readAct (sm Z p 0 a T) K := by
        intro K hK
        refine nx_q hZ hn (by omega) (kn c108 (kn c104 (ky c100 fun X3 e3 v4 e4 => ?_)))
        rw [sm06, nI_1, sm_s] at e3
        subst e3
        rw [sm09, a0] at e4
        rw [e4, c100, j0 hp]
        refine ⟨i0 hlt, fun X5 e5 => ?_⟩
        rw [e5, sm_6, sm_T]
        refine kn (by decide) (rl_y hZ hn (by omega) hl ⟨i1 hlt, fun X9 e9 => ?_⟩)
        rw [e9, sm_6, sm_T, j1 hp]
        refine ky rfl ⟨i2 hlt, fun X1 e1 => ⟨n - (p + 2) + 1, ?_⟩⟩
        rw [e1, sm_6, sm06, sm_T, j2 hp]
        refine f5 _ _ _ _ ⟨i2 hlt, i3 hlt, fun X4 e4 => ?_⟩
        rw [e4, sm06, sm_6, upS, sm_T, j3 hp, pk_sub f1]
        have fin : ∀ w : Int32, K (sm Z e w (a + 1) (upd (upd (upd (upd T (4 * a) 100) (4 * a + 1) (nI l)) (4 * a + 2) (nI (p + 2))) (4 * a + 3) (nI (e - (p + 2))))) → ∀ X13 : ES, X13 = va_up (sm Z e w a (upd (upd (upd (upd T (4 * a) 100) (4 * a + 1) (nI l)) (4 * a + 2) (nI (p + 2))) (4 * a + 3) (nI (e - (p + 2))))) 0 (upd (sm Z e w a (upd (upd (upd (upd T (4 * a) 100) (4 * a + 1) (nI l)) (4 * a + 2) (nI (p + 2))) (4 * a + 3) (nI (e - (p + 2)))) 0) 9 (sm Z e w a (upd (upd (upd (upd T (4 * a) 100) (4 * a + 1) (nI l)) (4 * a + 2) (nI (p + 2))) (4 * a + 3) (nI (e - (p + 2)))) 0 9 + 1)) → K X13 := fun w h X13 e13 => by
          rw [e13, sm09, nI_1, sm_a]; exact h
        refine ky (sm07 _ _ _ _ _) ⟨i3 hlt, ?_⟩
        rw [sm_6, upS]
        by_cases z : nI (e - (p + 2)) = 0
        · refine ky z fun X9 e9 => ?_
          rw [e9, sm_w]
          exact fin 1 (hK.1 z)
        · refine kn z fun X9 e9 => ?_
          rw [e9, sm_w]
          exact fin 0 (hK.2 z)
      by_cases ez : e = p + 2
      · have z0 : nI (e - (p + 2)) = 0 := by rw [ez, Nat.sub_self]; rfl
        refine Or.inr ⟨e, a + 1, _, f2, fun K hK => mrun K (ky z0 hK), go2 _ fun w => ?_⟩
        subst ez
        by_cases z : p + 2 = n
        · rw [z]; exact CF_endf hP hn (by decide)
        · exact CF_anyf hP hn (by omega) fun w K hK => by rw [hX]; exact kn (by decide) (kn (by decide) (kn (by decide) (ky rfl (dgc_n f4 (k00 hK)))))
      · have z0 : ¬ nI (e - (p + 2)) = 0 := nI_ne0 (by omega) (by omega)
        have d2 : dg (TX n (Z 5) (p + 2)) := f3 (p + 2) (Nat.le_refl _) (by omega)
        refine Or.inl ⟨100, l, e, _, Or.inr (Or.inl ⟨rfl, c100, hl, by omega, f2, f3, f4⟩), ⟨?_, ?_, fun _ => ⟨?_, upS _ _ _⟩⟩, fun t ht => ?_, fun K hK => mrun K (kn z0 hK), fun r h => go2 r fun w => ?_⟩
        · rw [upN (by omega), upN (by omega), upN (by omega), upS]; rfl
        · rw [upN (by omega), upN (by omega), upS]
        · rw [upN (by omega), upS]
        · rw [upN (by omega), upN (by omega), upN (by omega), upN (by omega)]
        · obtain ⟨e', g1, g2, g3, g4, g5, g6⟩ := rd_loop hP hZ hn hX (n - (p + 3)) (p + 3) (by omega)
          have ee : e' = e := by
            rcases Nat.lt_trichotomy e' e with y | y | y
            · exact absurd (f3 e' (by omega) y) g4
            · exact y
            · exact absurd (g3 e (by omega) y) f4
          subst ee
          have d2' : dg (TX n (P 1) (p + 2)) := by rw [hX]; exact d2
          exact CF_d hP hn (by omega) d2' (by decide : ¬ (4 : Int32) = 8) (fun K hK => kn (by decide) (kn (by decide) (kn (by decide) (ky rfl (dgc_y d2' (k01 hK)))))) (g6 _ r fun num' => h 4 num' (Or.inr (Or.inl ⟨rfl, f4⟩)))
    · have hl' : ∀ l, ¬ ln (TX n (Z 5) (p + 1)) l := fun l z => hl ⟨l, z⟩
      refine Or.inr ⟨p + 1, a + 1, upd (upd (upd (upd T (4 * a) 100) (4 * a + 1) (-6)) (4 * a + 2) (nI (p + 1))) (4 * a + 3) 0, by omega, fun K hK => ?_, go1 _ ?_⟩
      · refine nx_q hZ hn (by omega) (kn c108 (kn c104 (ky c100 fun X3 e3 v4 e4 => ?_)))
        rw [sm06, nI_1, sm_s] at e3
        subst e3
        rw [sm09, a0] at e4
        rw [e4, c100, j0 hp]
        refine ⟨i0 hlt, fun X5 e5 => ?_⟩
        rw [e5, sm_6, sm_T]
        refine kn (by decide) (rl_n hZ hn (by omega) hl' ⟨i1 hlt, fun X9 e9 => ?_⟩)
        rw [e9, sm_6, sm_T, j1 hp]
        refine ky rfl ⟨i2 hlt, fun X1 e1 => ⟨1, ?_⟩⟩
        rw [e1, sm_6, sm06, sm_T, j2 hp, wpl_X5_readDigits_12]
        refine kn (by rw [sm07]; decide) ⟨i2 hlt, i3 hlt, fun X4 e4 => ?_⟩
        rw [e4, sm06, sm_6, upS, sm_T, j3 hp, pk_sub (Nat.le_refl _), Nat.sub_self]
        refine kn (by rw [sm07]; decide) fun X6 e6 => ?_
        rw [e6, sm_w]
        intro X13 e13
        rw [e13, sm09, nI_1, sm_a]; exact hK
      · by_cases z : p + 1 = n
        · rw [z]; exact CF_endf hP hn (by decide)
        · exact CF_anyf hP hn (by omega) fun w K hK => by rw [hX]; exact kn (by decide) (kn (by decide) (ky rfl (lnc_n hl' (ky rfl hK))))
  by_cases c116 : TX n (Z 5) p = 116
  · have hlt := lt_of 116 (by decide) c116
    have go1 : ∀ r, CF P n 5 0 (p + 1) r → ∀ num, CF P n 0 num p r := fun r h num => CF_n hP hn hlt (ndl 116 (by decide) (by decide) c116) (by decide : ¬ (5 : Int32) = 8) (fun K hK => by rw [hX]; exact ky rfl (kn c100 (kn c104 (kn c108 (ky c116 hK))))) h
    by_cases hf : ∃ d, 1 ≤ d ∧ d ≤ 9 ∧ TX n (Z 5) (p + 1) = nI (48 + d)
    · obtain ⟨d, d1, d2, d3⟩ := hf
      have hp1 : p + 1 < n := Nat.lt_of_not_le fun z => by
        rw [tx_n z] at d3
        exact absurd (nI_inj (a := 0) (by decide) (by omega) d3) (by omega)
      obtain ⟨e, v', f1, f2, f3, f4, f5, f6, f7, f8, f9⟩ := rn_loop hP hZ hn hX (n - (p + 2)) (p + 2) d (by omega) d1 (by omega)
      have dd : dg (TX n (Z 5) (p + 1)) := ⟨d, d2, d3⟩
      have dd' : dg (TX n (P 1) (p + 1)) := by rw [hX]; exact dd
      have en : (10 : Int32) * 0 + TX n (P 1) (p + 1) - 48 = nI d := by
        rw [hX, d3]
        have := num_d (v := 0) (d := d) (by decide) d2
        rw [Nat.mul_zero, Nat.zero_add] at this
        exact this
      refine Or.inl ⟨116, v', e, upd (upd T (4 * a) 116) (4 * a + 1) (nI v'), Or.inr (Or.inr ⟨rfl, c116, f3, f4, f1, f2, fun t t1 t2 => ?_, fun nd K hK => ?_⟩), ⟨?_, upS _ _ _, fun z => absurd z (by decide)⟩, fun t ht => ?_, fun K hK => ?_, fun r h => go1 r ?_⟩
      · by_cases z : t = p + 1
        · subst z; exact dd
        · exact f5 t (by omega) t2
      · obtain ⟨m, hm⟩ := f9 nd K (fun j _ => K j) (fun _ => hK)
        refine ⟨m + 1, ?_⟩
        have := na_step (P := P) (v := 0) (K := K) (Kx := fun j _ => K j) (m := m) hP hn hp1 (by decide) d2 (by rw [hX]; exact d3) (by rw [Nat.mul_zero, Nat.zero_add]; exact hm)
        exact this
      · rw [upN (by omega), upS]; rfl
      · rw [upN (by omega), upN (by omega)]
      · refine nx_q hZ hn (by omega) (kn c108 (kn c104 (kn c100 (ky c116 fun X3 e3 v4 e4 => ?_))))
        rw [sm06, nI_1, sm_s] at e3
        subst e3
        rw [sm09, a0] at e4
        rw [e4, c116, j0 hp]
        refine ⟨i0 hlt, fun X5 e5 => ?_⟩
        rw [e5, sm_6, sm_T]
        refine ky rfl (nx_q hZ hn (by omega) (in_yes (by rw [d3]; exact nI_nlt (b := 49) (by omega) (by omega)) (by rw [d3]; exact nI_nlt (a := 57) (by omega) (by decide)) (k01 (nx_q hZ hn (by omega) fun v6 e6 X7 e7 => ⟨n - (p + 2) + 1, ?_⟩))))
        rw [d3, show (48 : Int32) = nI 48 from rfl, pk_sub (by omega), Nat.add_sub_cancel_left] at e6
        rw [e6, e7, sm06, nI_1 (p + 1), sm_s]
        refine f7 _ _ _ _ ⟨i1 hlt, fun X16 e16 => ?_⟩
        rw [e16, sm_6, sm_T, j1 hp]
        refine kn (by decide) fun X18 e18 => ?_
        rw [e18, sm09, nI_1, sm_a]
        exact hK
      · refine CF_d hP hn hp1 dd' (by decide : ¬ (6 : Int32) = 8) (fun K hK => by rw [en]; exact aw5 d1 (by omega) hK) ?_
        rw [en]
        exact f8 r (h 6 _ (Or.inr (Or.inr ⟨rfl, v', f3, f4, rfl, f6⟩)))
    · refine Or.inr ⟨p + 1, a + 1, upd (upd T (4 * a) 116) (4 * a + 1) 0, by omega, fun K hK => ?_, go1 _ ?_⟩
      · refine nx_q hZ hn (by omega) (kn c108 (kn c104 (kn c100 (ky c116 fun X3 e3 v4 e4 => ?_))))
        rw [sm06, nI_1, sm_s] at e3
        subst e3
        rw [sm09, a0] at e4
        rw [e4, c116, j0 hp]
        refine ⟨i0 hlt, fun X5 e5 => ?_⟩
        rw [e5, sm_6, sm_T]
        refine ky rfl (nx_q hZ hn (by omega) (in_out (lo := 49) (n := 8) 49 57 (by decide) (by decide) (by decide) (fun j hj e => hf ⟨j + 1, by omega, by omega, by rw [e]; congr 1; omega⟩) _ (k00 fun X31 e31 => ?_)))
        rw [e31, sm_w]
        refine ⟨i1 hlt, fun X16 e16 => ?_⟩
        rw [e16, sm_6, sm_T, j1 hp]
        refine kn (by decide) fun X18 e18 => ?_
        rw [e18, sm09, nI_1, sm_a]
        exact hK
      · by_cases z : p + 1 = n
        · rw [z]; exact CF_endf hP hn (by decide)
        · by_cases dd : dg (TX n (P 1) (p + 1))
          · refine CF_df hP hn (by omega) dd fun K hK => ?_
            obtain ⟨d, d1, d2⟩ := dd
            have d0 : d = 0 := Nat.eq_zero_of_not_pos fun y => hf ⟨d, y, d1, by rw [← hX]; exact d2⟩
            subst d0
            rw [d2]
            exact aw5n hK
          · exact CF_nf hP hn (by omega) dd fun K hK => aw5n hK
  exact Or.inr (bad ⟨c108, c104, c100, c116⟩)
