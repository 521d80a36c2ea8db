-- ===== carrying out: the loop =====
theorem begins_y {P : ES} {n p : Nat} (hP : P 0 1 = nI n) (hn : n ≤ 60) (hp : p ≤ n) (hb : p = 0 ∨ TX n (P 1) (p - 1) = 44) {K : Int32 → Prop} (hK : K 1) : wp_X3_beginsAnAct P (nI p) K := by
  by_cases z : p = 0
  · subst z; exact ky rfl hK
  · refine kn (nI_ne0 (by omega) (by omega)) ?_
    obtain ⟨p', rfl⟩ : ∃ p', p = p' + 1 := ⟨p - 1, by omega⟩
    rw [nI_pred]
    have h : TX n (P 1) p' = 44 := by
      rcases hb with y | y
      · exact absurd y z
      · exact y
    exact code_q hP hn (by omega) (ky h hK)
theorem begins_n {P : ES} {n p : Nat} (hP : P 0 1 = nI n) (hn : n ≤ 60) (hp : p ≤ n) (h0 : 0 < p) (hb : ¬ TX n (P 1) (p - 1) = 44) {K : Int32 → Prop} (hK : K 0) : wp_X3_beginsAnAct P (nI p) K := by
  refine kn (nI_ne0 h0 (by omega)) ?_
  obtain ⟨p', rfl⟩ : ∃ p', p = p' + 1 := ⟨p - 1, by omega⟩
  rw [nI_pred]
  exact code_q hP hn (by omega) (kn hb hK)
theorem skip_q {o n : Nat} {P E : ES} (hE : vw (o + 54) E = P) (hP : P 0 1 = nI n) (hn : n ≤ 60) {K : Int32 → ES → Prop} {Kx : Int32 → Int32 → ES → Prop} {c : Int32} (e : Nat) (he : e ≤ n) : ∀ t i : Nat, i + t = e → 0 < i → (∀ u, i ≤ u → u < e → ¬ TX n (P 1) (u - 1) = 44) → wpl_X4_carryOut_19 o K Kx (n - e + 1) c (nI e) E → wpl_X4_carryOut_19 o K Kx (n - i + 1) c (nI i) E
  | 0, i, h1, _, _, h => by
    have : i = e := by omega
    subst this
    exact h
  | t + 1, i, h1, h0, hu, h => by
    have hE0 : E (o + 54) = P 0 := congrFun hE 0
    have nxt := skip_q hE hP hn e he t (i + 1) (by omega) (by omega) (fun u a b => hu u (by omega) b) h
    rw [show n - i + 1 = (n - (i + 1) + 1) + 1 by omega, wpl_X4_carryOut_19, hE0, hP, hE]
    refine kn (nI_ge (by omega) (by omega)) (begins_n hP hn (by omega) h0 (hu i (Nat.le_refl _) (by omega)) (k00 fun v ev => ?_))
    rw [ev, nI_1]
    exact nxt
theorem Act_no44 {P : ES} {tx : Nat → Int32} {n p k v e : Nat} (h : Act P tx n p k v e) : ∀ u, p + 1 ≤ u → u ≤ e → ¬ tx (u - 1) = 44 := by
  intro u h1 h2 z
  rcases h with ⟨hk, hp, hl, he, -⟩ | ⟨hk, hp, hl, e3, -, hd, -⟩ | ⟨hk, hp, -, -, -, -, hd, -⟩
  · rcases (by omega : u = p + 1 ∨ u = p + 2) with y | y
    · subst y
      have : nI 44 = nI k := z.symm.trans hp
      have := nI_inj (by decide) (by rcases hk with y | y <;> subst y <;> decide) this
      rcases hk with y | y <;> omega
    · subst y
      exact ln_44 hl z
  · by_cases y : u = p + 1
    · subst y
      have : nI 44 = nI 100 := z.symm.trans hp
      exact absurd (nI_inj (by decide) (by decide) this) (by decide)
    · by_cases y2 : u = p + 2
      · subst y2; exact ln_44 hl z
      · exact dg_44' (hd (u - 1) (by omega) (by omega)) z
  · by_cases y : u = p + 1
    · subst y
      have : nI 44 = nI 116 := z.symm.trans hp
      exact absurd (nI_inj (by decide) (by decide) this) (by decide)
    · exact dg_44' (hd (u - 1) (by omega) (by omega)) z
theorem AL_end {P : ES} {D : CS} {n p : Nat} {x : Nat × Nat × Nat} {l : List (Nat × Nat × Nat)} (h : AL P (TX n D) n p (x :: l)) : ¬ dg (TX n D x.2.2) := by
  rcases h.2 with ⟨-, z⟩ | ⟨-, z, -⟩
  · rw [tx_n (by omega)]; exact dg_0
  · rw [z]; exact dg_44
theorem co_loop {nf o n tot : Nat} {P Z : ES} (hP : P 0 1 = nI n) (hn : n ≤ 60) (hX : TX n (P 1) = TX n (Z 5)) (h09 : Z 0 9 = nI tot) (htot : tot ≤ 20) : ∀ (l : List (Nat × Nat × Nat)) (p b q : Nat) {E : ES} {h : CS} {N G : ES}, XR q nf (vw (o + 1) E) h N G → tmO h → q + l.length < 2 ^ 30 → vw (o + 54) E = P → AL P (TX n (Z 5)) n p l → TB (Z 6) b p l → b + l.length = tot → (p = 0 ∨ TX n (P 1) (p - 1) = 44) → ∃ (r : Int32) (X' : ES) (h' : CS) (N' G' : ES), XR (q + l.length) nf X' h' N' G' ∧ tmO h' ∧ (∀ (K : Int32 → ES → Prop) (Kx : Int32 → Int32 → ES → Prop), (∀ y, Kx r y (put 26 (o + 1) X' E)) → wpl_X4_carryOut_19 o K Kx (n - p + 1) (nI b) (nI p) E) ∧ ∀ (K : Int32 → ES → Prop) (Kx : Int32 → ES → Prop), Kx r (ms Z h' N' G') → wpl_X5_carryOut_14 K Kx (l.length + 1) (nI b) (ms Z h N G)
  | [], p, b, q, E, h, N, G, hR, htm, hq, hE, hA, hT, hb, hp => absurd hA (by simp [AL])
  | (k, v, e) :: l, p, b, q, E, h, N, G, hR, htm, hq, hE, hA, hT, hb, hp => by
    have hE0 : E (o + 54) = P 0 := congrFun hE 0
    have hend := AL_end hA
    obtain ⟨hAct, hrest⟩ := hA
    obtain ⟨hRow, hTB⟩ := hT
    have e1 : p + 2 ≤ e := (Act_e hAct).1
    have e2 : e ≤ n := (Act_e hAct).2
    have hno : ∀ u, p + 1 ≤ u → u ≤ e → ¬ TX n (Z 5) (u - 1) = 44 := Act_no44 hAct
    rw [← hX] at hno
    simp only [List.length_cons] at hq hb ⊢
    obtain ⟨ok, X1, h1, N1, G1, o1, R1, tm1, ca, ma⟩ := act_sim (a := b) hR htm (by omega) hE hP hn hX hAct hRow (by omega) hend
    have cstart : ∀ (K : Int32 → ES → Prop) (Kx : Int32 → Int32 → ES → Prop), ((ok = 0 → Kx (nI b) (nI p) (put 26 (o + 1) X1 E)) ∧ (¬ ok = 0 → wpl_X4_carryOut_19 o K Kx (n - (p + 1) + 1) (nI (b + 1)) (nI (p + 1)) (put 26 (o + 1) X1 E))) → wpl_X4_carryOut_19 o K Kx (n - p + 1) (nI b) (nI p) E := by
      intro K Kx hK
      rw [show n - p + 1 = (n - (p + 1) + 1) + 1 by omega, wpl_X4_carryOut_19, hE0, hP, hE]
      refine kn (nI_ge (by omega) (by omega)) (begins_y hP hn (by omega) hp (k01 (ca _ ⟨hK.1, fun z v1 ev1 v2 ev2 => ?_⟩)))
      rw [ev1, ev2, nI_1, nI_1]
      exact hK.2 z
    have mstart : ∀ (K : Int32 → ES → Prop) (Kx : Int32 → ES → Prop), ((ok = 0 → Kx (nI b) (ms Z h1 N1 G1)) ∧ (¬ ok = 0 → wpl_X5_carryOut_14 K Kx (l.length + 1) (nI (b + 1)) (ms Z h1 N1 G1))) → wpl_X5_carryOut_14 K Kx (l.length + 1 + 1) (nI b) (ms Z h N G) := by
      intro K Kx hK
      rw [wpl_X5_carryOut_14, ms_k (by decide), h09, show (4 : Int32) * nI b = nI (4 * b) from pk_mul 4 b]
      refine kn (nI_ge (by omega) (by omega)) (ma _ ⟨hK.1, fun z v1 ev1 => ?_⟩)
      rw [ev1, nI_1]
      exact hK.2 z
    have hE1 : vw (o + 54) (put 26 (o + 1) X1 E) = P := vp54.trans hE
    rcases o1 with rfl | rfl
    · exact ⟨nI b, X1, h1, N1, G1, XR_q (by omega) R1, tm1, fun K Kx hK => cstart K Kx (k00 (hK _)), fun K Kx hK => mstart K Kx (k00 hK)⟩
    · rcases hrest with ⟨rfl, en⟩ | ⟨el, ec, hA2⟩
      · have en' : e = n := en
        refine ⟨nI (b + 1), X1, h1, N1, G1, XR_q (by omega) R1, tm1, fun K Kx hK => cstart K Kx (k01 ?_), fun K Kx hK => mstart K Kx (k01 ?_)⟩
        · refine skip_q hE1 hP hn n (Nat.le_refl n) (n - (p + 1)) (p + 1) (by omega) (by omega) (fun u u1 u2 => hno u u1 (by omega)) ?_
          rw [Nat.sub_self, wpl_X4_carryOut_19, show (put 26 (o + 1) X1 E) (o + 54) = P 0 from congrFun hE1 0, hP]
          exact ky (nI_le (Nat.le_refl _) (by omega)) (hK _)
        · rw [wpl_X5_carryOut_14, ms_k (by decide), h09]
          exact ky (nI_le (by simp at hb; omega) (by omega)) hK
      · have el' : e < n := el
        have ec' : TX n (P 1) (e + 1 - 1) = 44 := by rw [hX]; exact ec
        obtain ⟨r, X', h', N', G', c1, c2, c3, c4⟩ := co_loop hP hn hX h09 htot l (e + 1) (b + 1) (q + 1) (xr_put (E := E) R1) tm1 (by omega) hE1 hA2 hTB (by omega) (Or.inr ec')
        refine ⟨r, X', h', N', G', by rw [show q + (l.length + 1) = q + 1 + l.length by omega]; exact c1, c2, fun K Kx hK => cstart K Kx (k01 ?_), fun K Kx hK => mstart K Kx (k01 (c4 K Kx hK))⟩
        exact skip_q hE1 hP hn (e + 1) (by omega) (e + 1 - (p + 1)) (p + 1) (by omega) (by omega) (fun u u1 u2 => hno u u1 (by omega)) (c3 K Kx fun y => by rw [putPut]; exact hK y)
theorem AL_len {P : ES} {tx : Nat → Int32} {n : Nat} : ∀ (l : List (Nat × Nat × Nat)) (p : Nat), AL P tx n p l → 3 * l.length ≤ n - p + 1
  | [], p, h => absurd h (by simp [AL])
  | (k, v, e) :: l, p, h => by
    obtain ⟨hA, hr⟩ := h
    have e1 : p + 2 ≤ e := (Act_e hA).1
    have e2 : e ≤ n := (Act_e hA).2
    rcases hr with ⟨rfl, z⟩ | ⟨z, -, hl⟩
    · have z' : e = n := z
      simp only [List.length_cons, List.length_nil]
      omega
    · have z' : e < n := z
      have := AL_len l (e + 1) hl
      simp only [List.length_cons]
      omega
theorem x_carry {q nf o : Nat} {E M : ES} {h : CS} {N G : ES} (hR : XR q nf (vw (o + 1) E) h N G) (htm : tmO h) (hq : q + 30 < 2 ^ 30) (hM : M 1 = flat h N G) (hPD : PD (vw (o + 54) E) M) : ∃ (r : Int32) (X' F : ES) (h' : CS) (N' G' M2 : ES), XR (q + 30) nf X' h' N' G' ∧ tmO h' ∧ M2 1 = flat h' N' G' ∧ (∀ k, ¬ k = 0 → ¬ k = 1 → ¬ k = 6 → M2 k = M k) ∧ ((F = put 26 (o + 1) X' E ∧ M2 0 5 = M 0 5) ∨ (F = va_up (put 26 (o + 1) X' E) (o + 54) (upd (put 26 (o + 1) X' E (o + 54)) 1 0) ∧ M2 0 5 = 0)) ∧ (∀ K : Int32 → ES → Prop, K r F → wp_X4_carryOut o E K) ∧ ∀ K : Int32 → ES → Prop, K r M2 → wp_X5_carryOut M K := by
  obtain ⟨rf, n, s, w, a, T, n60, hp, hm, hX, fc, fm, fok⟩ := x_fault hPD
  by_cases hr : rf = -6
  · obtain ⟨l, rfl, hA, hT⟩ := fok hr
    have hlen := AL_len l 0 hA
    have z5 : sm M s w l.length T 5 = M 5 := sm_k _ _ _ _ _ (by decide) (by decide)
    have z6 : sm M s w l.length T 6 = T := sm_6 _ _ _ _ _
    have z1 : sm M s w l.length T 1 = flat h N G := (sm_k _ _ _ _ _ (by decide) (by decide)).trans hM
    obtain ⟨r, X', h', N', G', c1, c2, c3, c4⟩ := co_loop (Z := sm M s w l.length T) (o := o) (tot := l.length) hp n60 (by rw [z5]; exact hX) (sm09 _ _ _ _ _) (by omega) l 0 0 q hR htm (by omega) rfl (by rw [z5]; exact hA) (by rw [z6]; exact hT) (by omega) (Or.inl rfl)
    refine ⟨r, X', _, h', N', G', va_up (ms (sm M s w l.length T) h' N' G') 0 (upd (ms (sm M s w l.length T) h' N' G' 0) 5 0), XR_q (by omega) c1, c2, ?_, fun k k0 k1 k6 => ?_, Or.inr ⟨rfl, by rw [vuS]; simp [updA]⟩, fun K hK => fc _ (ky hr ⟨_, c3 K _ fun y X9 e9 => ?_⟩), fun K hK => fm _ (ky hr ⟨l.length + 1, ?_⟩)⟩
    · rw [vuN (by decide), ms_1]
    · rw [vuN k0, ms_k k1, sm_k _ _ _ _ _ k0 k6]
    · rw [e9]; exact hK
    · have := c4 K (fun j_6 X_7 => ∀ X_8 : ES, X_8 = va_up X_7 0 (upd (X_7 0) 5 0) → K j_6 X_8) (fun X8 e8 => by rw [e8]; exact hK)
      rw [ms_self z1] at this
      exact this
  · refine ⟨-3, vw (o + 1) E, E, h, N, G, sm M s w a T, XR_q (by omega) hR, htm, (sm_k _ _ _ _ _ (by decide) (by decide)).trans hM, fun k k0 k1 k6 => sm_k _ _ _ _ _ k0 k6, Or.inl ⟨(putVw _ _ _).symm, sm05 _ _ _ _ _⟩, fun K hK => fc _ (kn hr hK), fun K hK => fm _ (kn hr hK)⟩
