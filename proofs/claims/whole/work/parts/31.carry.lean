-- ===== carrying out =====
theorem vp54 {o : Nat} {Y E : ES} : vw (o + 54) (put 26 (o + 1) Y E) = vw (o + 54) E := by
  funext k
  exact putOff (Or.inr (by omega))
theorem xr_put {q nf o : Nat} {X' E : ES} {h : CS} {N G : ES} (hR : XR q nf X' h N G) : XR q nf (vw (o + 1) (put 26 (o + 1) X' E)) h N G := XR_congr (sameX_of fun k hk => vwPut hk) (sameM_refl h N G) hR
theorem ms_k {Z : ES} {h : CS} {N G : ES} {k : Nat} (hk : ¬ k = 1) : ms Z h N G k = Z k := vuN hk
theorem lnc_any (x : Int32) : ∃ r : Int32, ∀ K : Int32 → Prop, K r → wp_X3_lineOf x K := by
  by_cases h : ∃ l, ln x l
  · obtain ⟨l, h⟩ := h
    exact ⟨nI l, fun K hK => lnc_y h hK⟩
  · exact ⟨-6, fun K hK => lnc_n (fun l z => h ⟨l, z⟩) hK⟩
theorem dl_loop {q nf o v cnt p a n : Nat} {P Z : ES} (hv : v < 16) (hP : P 0 1 = nI n) (hn : n ≤ 60) (hX : TX n (P 1) = TX n (Z 5)) (hdg : ∀ t, t < cnt → dg (TX n (Z 5) (p + 2 + t))) (hnd : ¬ dg (TX n (Z 5) (p + 2 + cnt))) (r1 : Z 6 (4 * a + 1) = nI v) (r2 : Z 6 (4 * a + 2) = nI (p + 2)) (r3 : Z 6 (4 * a + 3) = nI cnt) (ha : a ≤ 20) (hcn : p + 2 + cnt ≤ n) : ∀ (j t : Nat) {E : ES} {h : CS} {N G : ES}, t + j = cnt → vw (o + 54) E = P → XR q nf (vw (o + 1) E) h N G → ∃ (ok : Int32) (X' : ES) (h' : CS) (N' G' : ES), (ok = 0 ∨ ok = 1) ∧ XR q nf X' h' N' G' ∧ h' 0 = h 0 ∧ (∀ K : Int32 → ES → Prop, K ok (put 26 (o + 1) X' E) → wpl_X4_dialsAll_2 o (nI v) K (fun _ X4 => K 1 X4) (j + 1) (nI (p + 2 + t)) E) ∧ ∀ (K : Int32 → ES → Prop) (Kx : Int32 → Int32 → ES → Prop), (∀ y, Kx ok y (ms Z h' N' G')) → wpl_X5_dials_4 (nI (4 * a)) K Kx (j + 2) 1 (nI t) (ms Z h N G)
  | 0, t, E, h, N, G, he, hE, hR => by
    have e : t = cnt := by omega
    subst e
    have hE0 : E (o + 54) = P 0 := congrFun hE 0
    refine ⟨1, vw (o + 1) E, h, N, G, Or.inr rfl, hR, rfl, fun K hK => ?_, fun K Kx hK => ?_⟩
    · rw [putVw] at hK
      rw [wpl_X4_dialsAll_2, hE0, hP]
      by_cases z : n ≤ p + 2 + t
      · exact ky (nI_le z (by omega)) hK
      · refine kn (nI_ge (by omega) (by omega)) ?_
        rw [hE]
        exact code_q hP hn (by omega) (dgc_n (by rw [hX]; exact hnd) (k00 hK))
    · rw [wpl_X5_dials_4, ms_k (by decide)]
      rw [show (nI (4 * a) + 3) = nI (4 * a + 3) from nI_add _ 3, nI_clamp (by omega), r3]
      exact ⟨nIn (by omega) (by decide), ky (nI_le (Nat.le_refl _) (by omega)) (hK _)⟩
  | j + 1, t, E, h, N, G, he, hE, hR => by
    have hE0 : E (o + 54) = P 0 := congrFun hE 0
    have hd := hdg t (by omega)
    have hd0 := hd
    obtain ⟨d, d1, d2⟩ := hd
    have hdP : TX n (P 1) (p + 2 + t) = nI (48 + d) := by rw [hX]; exact d2
    have c48 : nI (48 + d) - 48 = nI d := by rw [show (48 : Int32) = nI 48 from rfl, pk_sub (by omega), Nat.add_sub_cancel_left]
    have z5 : Z 5 (p + 2 + t) = nI (48 + d) := by rw [← d2, TX, if_pos (by omega)]
    obtain ⟨r, X1, h1, N1, G1, ca, ma, R1, t1⟩ := sim_dial hR hv d1
    have hE1 : vw (o + 54) (put 26 (o + 1) X1 E) = P := vp54.trans hE
    have mrun : ∀ (K : Int32 → ES → Prop) (Kx : Int32 → Int32 → ES → Prop) (b : Int32), ((r < 0 → b = 0) ∧ (¬ r < 0 → b = 1)) → wpl_X5_dials_4 (nI (4 * a)) K Kx (j + 2) b (nI (t + 1)) (ms Z h1 N1 G1) → wpl_X5_dials_4 (nI (4 * a)) K Kx (j + 1 + 2) 1 (nI t) (ms Z h N G) := by
      intro K Kx b hb hnext
      rw [wpl_X5_dials_4, ms_k (by decide)]
      rw [show (nI (4 * a) + 3) = nI (4 * a + 3) from nI_add _ 3, show (nI (4 * a) + 2) = nI (4 * a + 2) from nI_add _ 2, show (nI (4 * a) + 1) = nI (4 * a + 1) from nI_add _ 1, nI_clamp (by omega), nI_clamp (by omega), nI_clamp (by omega), r1, r2, r3, nI_add, nI_clamp (by omega), ms_k (by decide), z5, c48]
      refine ⟨nIn (by omega) (by decide), kn (nI_ge (by omega) (by omega)) (kn (by decide) ⟨nIn (by omega) (by decide), nIn (by omega) (by decide), nIn (by omega) (by decide), ma Z _ ?_⟩)⟩
      by_cases hr : r < 0
      · refine ky hr fun v1 e1 => ?_
        rw [e1, nI_1, ← hb.1 hr]; exact hnext
      · refine kn hr fun v1 e1 => ?_
        rw [e1, nI_1, ← hb.2 hr]; exact hnext
    by_cases hr : r < 0
    · refine ⟨0, X1, h1, N1, G1, Or.inl rfl, R1, t1, fun K hK => ?_, fun K Kx hK => mrun K Kx 0 ⟨fun _ => rfl, fun z => absurd hr z⟩ ?_⟩
      · rw [wpl_X4_dialsAll_2, hE0, hP, hE]
        refine kn (nI_ge (by omega) (by omega)) (code_q hP hn (by omega) (dgc_y (by rw [hX]; exact hd0) (k01 (code_q hP hn (by omega) ?_))))
        rw [hdP, c48]
        refine ca _ fun X15 e15 => kn (Int32.not_le.mpr hr) ?_
        rw [e15]; exact hK
      · rw [wpl_X5_dials_4, ms_k (by decide)]
        rw [show (nI (4 * a) + 3) = nI (4 * a + 3) from nI_add _ 3, nI_clamp (by omega), r3]
        refine ⟨nIn (by omega) (by decide), ?_⟩
        by_cases z : nI cnt ≤ nI (t + 1)
        · exact ky z (hK _)
        · exact kn z (ky rfl (hK _))
    · obtain ⟨ok, X', h', N', G', o1, o2, o3, o4, o5⟩ := dl_loop hv hP hn hX hdg hnd r1 r2 r3 ha hcn j (t + 1) (by omega) hE1 (xr_put (E := E) R1)
      refine ⟨ok, X', h', N', G', o1, o2, o3.trans t1, fun K hK => ?_, fun K Kx hK => mrun K Kx 1 ⟨fun z => absurd z hr, fun _ => rfl⟩ (o5 K Kx hK)⟩
      rw [wpl_X4_dialsAll_2, hE0, hP, hE]
      refine kn (nI_ge (by omega) (by omega)) (code_q hP hn (by omega) (dgc_y (by rw [hX]; exact hd0) (k01 (code_q hP hn (by omega) ?_))))
      rw [hdP, c48]
      refine ca _ fun X15 e15 => ky (Int32.not_lt.mp hr) fun v1 e1 => ?_
      rw [e1, e15, nI_1]
      exact o4 K (by rw [putPut]; exact hK)
/-- an act succeeds on both sides or on none -/
theorem act_sim {q nf o k v p e a n : Nat} {P Z E : ES} {h : CS} {N G : ES} (hR : XR q nf (vw (o + 1) E) h N G) (htm : tmO h) (hq : q < 2 ^ 30) (hE : vw (o + 54) E = P) (hP : P 0 1 = nI n) (hn : n ≤ 60) (hX : TX n (P 1) = TX n (Z 5)) (hA : Act P (TX n (Z 5)) n p k v e) (hRow : Row (Z 6) a k v p e) (ha : a ≤ 20) (hend : ¬ dg (TX n (Z 5) e)) : ∃ (ok : Int32) (X' : ES) (h' : CS) (N' G' : ES), (ok = 0 ∨ ok = 1) ∧ XR (q + 1) nf X' h' N' G' ∧ tmO h' ∧ (∀ K : Int32 → ES → Prop, K ok (put 26 (o + 1) X' E) → wp_X4_succeeds o E (nI p) K) ∧ ∀ K : Int32 → ES → Prop, K ok (ms Z h' N' G') → wp_X5_does (ms Z h N G) (nI (4 * a)) K := by
  obtain ⟨e1, e2⟩ := Act_e hA
  obtain ⟨w0, w1, w2⟩ := hRow
  have i0 : vp_in (nI (4 * a)) 128 := nIn (by omega) (by decide)
  have i1 : vp_in (nI (4 * a) + 1) 128 := by rw [nI_1]; exact nIn (by omega) (by decide)
  have j0 : (nI (4 * a)).toNatClampNeg = 4 * a := nI_clamp (by omega)
  have j1 : (nI (4 * a) + 1).toNatClampNeg = 4 * a + 1 := by rw [nI_1]; exact nI_clamp (by omega)
  have p1 : nI p + 1 = nI (p + 1) := nI_1 p
  have p2 : nI p + 2 = nI (p + 2) := nI_add p 2
  have start : ∀ (r : Int32) (K : Int32 → Prop), (∀ K : Int32 → Prop, K r → wp_X3_lineOf (TX n (Z 5) (p + 1)) K) → K r → wp_X3_lineAt P (nI p + 1) K := by
    intro r K hr hK
    rw [p1]
    exact code_q hP hn (by omega) (by rw [hX]; exact hr _ hK)
  rcases hA with ⟨hk, hp, hl, -, -⟩ | ⟨hk, hp, hl, e3, -, hd, hnd⟩ | ⟨hk, hp, v1, v2, -, -, -, hna⟩
  · have hv := ln_lt hl
    rcases hk with rfl | rfl
    · obtain ⟨r, X1, h1, N1, G1, ca, ma, R1, t1⟩ := sim_lift hR hv
      have fin : ∀ (b : Int32), ((r < 0 → b = 0) ∧ (¬ r < 0 → b = 1)) → (∀ K : Int32 → ES → Prop, K b (put 26 (o + 1) X1 E) → wp_X4_succeeds o E (nI p) K) ∧ ∀ K : Int32 → ES → Prop, K b (ms Z h1 N1 G1) → wp_X5_does (ms Z h N G) (nI (4 * a)) K := by
        intro b hb
        refine ⟨fun K hK => ?_, fun K hK => ?_⟩
        · unfold wp_X4_succeeds
          rw [hE]
          refine start (nI v) _ (fun K hK => lnc_y hl hK) (code_q hP hn (by omega) ?_)
          rw [hX, hp]
          refine kn (by decide) (kn (by decide) (ky rfl (ca _ fun X15 e15 => ?_)))
          rw [e15]
          by_cases hr : r < 0
          · refine ky hr ?_
            rw [← hb.1 hr]; exact hK
          · refine kn hr ?_
            rw [← hb.2 hr]; exact hK
        · unfold wp_X5_does
          rw [ms_k (by decide), j0, w0, j1, w1]
          refine ⟨i0, kn (by decide) (kn (by decide) (ky rfl ⟨i1, ma Z _ ?_⟩))⟩
          by_cases hr : r < 0
          · refine ky hr ?_
            rw [← hb.1 hr]; exact hK
          · refine kn hr ?_
            rw [← hb.2 hr]; exact hK
      by_cases hr : r < 0
      · obtain ⟨f1, f2⟩ := fin 0 ⟨fun _ => rfl, fun z => absurd hr z⟩
        exact ⟨0, X1, h1, N1, G1, Or.inl rfl, R1, by rw [tmO, t1]; exact htm, f1, f2⟩
      · obtain ⟨f1, f2⟩ := fin 1 ⟨fun z => absurd z hr, fun _ => rfl⟩
        exact ⟨1, X1, h1, N1, G1, Or.inr rfl, R1, by rw [tmO, t1]; exact htm, f1, f2⟩
    · obtain ⟨r, X1, h1, N1, G1, ca, ma, R1, t1⟩ := sim_hang hR hv
      have fin : ∀ (b : Int32), ((r < 0 → b = 0) ∧ (¬ r < 0 → b = 1)) → (∀ K : Int32 → ES → Prop, K b (put 26 (o + 1) X1 E) → wp_X4_succeeds o E (nI p) K) ∧ ∀ K : Int32 → ES → Prop, K b (ms Z h1 N1 G1) → wp_X5_does (ms Z h N G) (nI (4 * a)) K := by
        intro b hb
        refine ⟨fun K hK => ?_, fun K hK => ?_⟩
        · unfold wp_X4_succeeds
          rw [hE]
          refine start (nI v) _ (fun K hK => lnc_y hl hK) (code_q hP hn (by omega) ?_)
          rw [hX, hp]
          refine kn (by decide) (ky rfl (ca _ fun X15 e15 => ?_))
          rw [e15]
          by_cases hr : r < 0
          · refine ky hr ?_
            rw [← hb.1 hr]; exact hK
          · refine kn hr ?_
            rw [← hb.2 hr]; exact hK
        · unfold wp_X5_does
          rw [ms_k (by decide), j0, w0, j1, w1]
          refine ⟨i0, kn (by decide) (ky rfl ⟨i1, ma Z _ ?_⟩)⟩
          by_cases hr : r < 0
          · refine ky hr ?_
            rw [← hb.1 hr]; exact hK
          · refine kn hr ?_
            rw [← hb.2 hr]; exact hK
      by_cases hr : r < 0
      · obtain ⟨f1, f2⟩ := fin 0 ⟨fun _ => rfl, fun z => absurd hr z⟩
        exact ⟨0, X1, h1, N1, G1, Or.inl rfl, XR_q (Nat.le_succ q) R1, by rw [tmO, t1]; exact htm, f1, f2⟩
      · obtain ⟨f1, f2⟩ := fin 1 ⟨fun z => absurd z hr, fun _ => rfl⟩
        exact ⟨1, X1, h1, N1, G1, Or.inr rfl, XR_q (Nat.le_succ q) R1, by rw [tmO, t1]; exact htm, f1, f2⟩
  · subst hk
    have hv := ln_lt hl
    obtain ⟨w3, w4⟩ := w2 rfl
    obtain ⟨ok, X', h', N', G', o1, o2, o3, o4, o5⟩ := dl_loop (cnt := e - (p + 2)) (p := p) (a := a) hv hP hn hX (fun t ht => hd _ (by omega) (by omega)) (by rw [show p + 2 + (e - (p + 2)) = e by omega]; exact hnd) w1 w3 w4 ha (by omega) (e - (p + 2)) 0 (by omega) hE hR
    refine ⟨ok, X', h', N', G', o1, XR_q (Nat.le_succ q) o2, by rw [tmO, o3]; exact htm, fun K hK => ?_, fun K hK => ?_⟩
    · unfold wp_X4_succeeds
      rw [hE]
      refine start (nI v) _ (fun K hK => lnc_y hl hK) (code_q hP hn (by omega) ?_)
      rw [hX, hp, p2]
      exact ky rfl ⟨_, o4 K hK⟩
    · unfold wp_X5_does
      rw [ms_k (by decide), j0, w0]
      exact ⟨i0, ky rfl ⟨_, o5 _ _ fun y => ⟨o1, hK⟩⟩⟩
  · subst hk
    obtain ⟨ra, hra⟩ := lnc_any (TX n (Z 5) (p + 1))
    have e7 : vw (o + 1) E 0 7 = h 0 := hR.1.2.2.2.1
    by_cases ht : h 0 + nI v ≤ 100000
    · obtain ⟨X', h', N', G', aa, bb, cc, dt⟩ := sim_ticks hq v 0 v (by omega) (by omega) hR
      have tm' : tmO h' := by
        obtain ⟨τ, τ1, τ2⟩ := htm
        rw [τ2, nI_add] at ht dt
        exact ⟨τ + v, (nI_leI (b := 100000) (by omega) (by decide)).mp ht, dt⟩
      have hpos : ¬ h' 0 < 0 := by
        obtain ⟨τ, τ1, τ2⟩ := tm'
        rw [τ2]; exact nI_pos (by omega)
      refine ⟨1, X', h', N', G', Or.inr rfl, XR_q (Nat.le_succ q) cc, tm', fun K hK => ?_, fun K hK => ?_⟩
      · unfold wp_X4_succeeds
        rw [hE]
        refine start ra _ hra (code_q hP hn (by omega) ?_)
        rw [hX, hp, p1]
        refine kn (by decide) (kn (by decide) (kn (by decide) (hna hend _ ⟨fun z => absurd (by rw [e7] at z; exact z) (Int32.not_lt.mpr ht), fun _ => k01 ⟨v + 1, aa _ _ fun X22 e22 => ?_⟩⟩)))
        rw [e22]; exact hK
      · unfold wp_X5_does
        rw [ms_k (by decide), j0, w0, j1, w1]
        refine ⟨i0, kn (by decide) (kn (by decide) (kn (by decide) ⟨i1, in_yes (nI_nlt (b := 1) v1 (by omega)) (nI_nlt (a := 1000) (by omega) (by decide)) (k01 ⟨vpl (n := 0) rfl (by decide), ?_⟩)⟩))⟩
        rw [hd_0]
        refine ky ht ⟨v + 1, bb Z (fun r_13 X_14 => (r_13 < 0 → K 0 X_14) ∧ (¬ r_13 < 0 → K 1 X_14)) _ ⟨vpl (n := 0) rfl (by decide), ?_⟩⟩
        rw [hd_0]
        exact kn hpos hK
    · refine ⟨0, vw (o + 1) E, h, N, G, Or.inl rfl, XR_q (Nat.le_succ q) hR, htm, fun K hK => ?_, fun K hK => ?_⟩
      · rw [putVw] at hK
        unfold wp_X4_succeeds
        rw [hE]
        refine start ra _ hra (code_q hP hn (by omega) ?_)
        rw [hX, hp, p1]
        exact kn (by decide) (kn (by decide) (kn (by decide) (hna hend _ ⟨fun _ => k00 hK, fun z => absurd (by rw [e7]; exact Int32.not_le.mp ht) z⟩)))
      · unfold wp_X5_does
        rw [ms_k (by decide), j0, w0, j1, w1]
        refine ⟨i0, kn (by decide) (kn (by decide) (kn (by decide) ⟨i1, in_yes (nI_nlt (b := 1) v1 (by omega)) (nI_nlt (a := 1000) (by omega) (by decide)) (k01 ⟨vpl (n := 0) rfl (by decide), ?_⟩)⟩))⟩
        rw [hd_0]
        exact kn ht (ky (by decide) hK)
