-- ===== what if: until, attempt =====
theorem ms_self {M : ES} {h : CS} {N G : ES} (hM : M 1 = flat h N G) : ms M h N G = M := by rw [ms, ← hM, vuSelf]
theorem pa_loop (M : ES) : ∀ (j i : Nat) (B : CS), i + j = 233 → ∃ B' : CS, (∀ (K : ES → Prop) (Kx : Int32 → ES → Prop), (∀ y, Kx y (va_up M 2 B')) → wpl_X5_putAside_2 K Kx (j + 1) (nI i) (va_up M 2 B)) ∧ (∀ k, k < i → B' k = B k) ∧ ∀ k, i ≤ k → k < 233 → B' k = M 1 k
  | 0, i, B, he => by
    have e : i = 233 := by omega
    subst e
    refine ⟨B, fun K Kx hK => ?_, fun k _ => rfl, fun k h1 h2 => absurd h1 (by omega)⟩
    rw [wpl_X5_putAside_2]
    exact ky (nI_le (a := 233) (b := 233) (Nat.le_refl _) (by decide)) (hK _)
  | j + 1, i, B, he => by
    have hi : i < 233 := by omega
    have hlt : ¬ (233 : Int32) ≤ nI i := nI_ge (b := 233) hi (by decide)
    have vi : vp_in (nI i) 233 := nIn hi (by decide)
    obtain ⟨B', a, b, c⟩ := pa_loop M j (i + 1) (upd B i (M 1 i)) (by omega)
    refine ⟨B', fun K Kx hK => ?_, fun k hk => ?_, fun k h1 h2 => ?_⟩
    · rw [wpl_X5_putAside_2]
      refine kn hlt ⟨vi, vi, fun X4 e4 v ev => ?_⟩
      rw [e4, ev, nI_1, vuS, nI_clamp (by omega), vuU, vuN (by decide)]
      exact a K Kx hK
    · rw [b k (by omega), updA, if_neg (by omega)]
    · by_cases e : k = i
      · subst e; rw [b k (by omega), updA, if_pos rfl]
      · exact c k (by omega) h2
theorem pa_q (M : ES) : ∃ B : CS, (∀ K : ES → Prop, K (va_up M 2 B) → wp_X5_putAside M K) ∧ ∀ k, k < 233 → B k = M 1 k := by
  obtain ⟨B, a, -, c⟩ := pa_loop M 233 0 (M 2) rfl
  rw [vuSelf] at a
  exact ⟨B, fun K hK => ⟨234, a K _ fun _ => hK⟩, fun k hk => c k (Nat.zero_le _) hk⟩
theorem pb_loop (M : ES) : ∀ (j i : Nat) (B : CS), i + j = 233 → ∃ B' : CS, (∀ (K : ES → Prop) (Kx : Int32 → ES → Prop), (∀ y, Kx y (va_up M 1 B')) → wpl_X5_putBack_2 K Kx (j + 1) (nI i) (va_up M 1 B)) ∧ (∀ k, k < i → B' k = B k) ∧ ∀ k, i ≤ k → k < 233 → B' k = M 2 k
  | 0, i, B, he => by
    have e : i = 233 := by omega
    subst e
    refine ⟨B, fun K Kx hK => ?_, fun k _ => rfl, fun k h1 h2 => absurd h1 (by omega)⟩
    rw [wpl_X5_putBack_2]
    exact ky (nI_le (a := 233) (b := 233) (Nat.le_refl _) (by decide)) (hK _)
  | j + 1, i, B, he => by
    have hi : i < 233 := by omega
    have hlt : ¬ (233 : Int32) ≤ nI i := nI_ge (b := 233) hi (by decide)
    have vi : vp_in (nI i) 233 := nIn hi (by decide)
    obtain ⟨B', a, b, c⟩ := pb_loop M j (i + 1) (upd B i (M 2 i)) (by omega)
    refine ⟨B', fun K Kx hK => ?_, fun k hk => ?_, fun k h1 h2 => ?_⟩
    · rw [wpl_X5_putBack_2]
      refine kn hlt ⟨vi, vi, fun X4 e4 v ev => ?_⟩
      rw [e4, ev, nI_1, vuS, nI_clamp (by omega), vuU, vuN (by decide)]
      exact a K Kx hK
    · rw [b k (by omega), updA, if_neg (by omega)]
    · by_cases e : k = i
      · subst e; rw [b k (by omega), updA, if_pos rfl]
      · exact c k (by omega) h2
theorem pb_q (M : ES) : ∃ B : CS, (∀ K : ES → Prop, K (va_up M 1 B) → wp_X5_putBack M K) ∧ ∀ k, k < 233 → B k = M 2 k := by
  obtain ⟨B, a, -, c⟩ := pb_loop M 233 0 (M 1) rfl
  rw [vuSelf] at a
  exact ⟨B, fun K hK => ⟨234, a K _ fun _ => hK⟩, fun k hk => c k (Nat.zero_le _) hk⟩
/-- a question that is played through in the trial's exchange and in the model's own row -/
def SimU (o : Nat) (E M : ES) (wc wm : (Int32 → ES → Prop) → Prop) : Prop := ∃ (r : Int32) (Y M2 : ES), (∀ K : Int32 → ES → Prop, K r (put 26 (o + 27) Y E) → wc K) ∧ (∀ K : Int32 → ES → Prop, K r M2 → wm K) ∧ Y 3 0 = 0 ∧ (∀ k, ¬ k = 1 → ¬ k = 2 → M2 k = M k) ∧ ∀ k, k < 233 → M2 1 k = M 1 k
theorem simU0 {o : Nat} {E M : ES} {wc wm : (Int32 → ES → Prop) → Prop} (hT : vw (o + 27) E 3 0 = 0) (r : Int32) (a : ∀ K : Int32 → ES → Prop, K r E → wc K) (b : ∀ K : Int32 → ES → Prop, K r M → wm K) : SimU o E M wc wm := ⟨r, vw (o + 27) E, M, fun K hK => a K (by rw [putVw] at hK; exact hK), b, hT, fun _ _ _ => rfl, fun _ _ => rfl⟩
/-- the trial's exchange after the copy -/
theorem trial_q {q nf o : Nat} {E : ES} {h : CS} {N G : ES} (hR : XR q nf (vw (o + 1) E) h N G) (hT : vw (o + 27) E 3 0 = 0) : ∃ Y : ES, (∀ K : ES → Prop, K Y → wp_X0_copyFrom (vw (o + 27) E) (vw (o + 1) E) K) ∧ XR q nf (vw (o + 27) (put 26 (o + 27) Y E)) h N G := by
  obtain ⟨X', a, s⟩ := copy_q (X := vw (o + 27) E) (XR_lift01 hR) (hT.trans hR.1.1.symm)
  exact ⟨X', a, XR_congr (sameX_of fun k hk => vwPut hk) (sameM_refl h N G) (XR_congr s (sameM_refl h N G) hR)⟩
/-- the model's row comes back -/
theorem back_q {M M' : ES} {h' : CS} {N' G' : ES} (hB : ∀ k, k < 233 → M' 2 k = M 1 k) (hO : ∀ k, ¬ k = 1 → ¬ k = 2 → M' k = M k) : ∃ M2 : ES, (∀ K : ES → Prop, K M2 → wp_X5_putBack (ms M' h' N' G') K) ∧ (∀ k, ¬ k = 1 → ¬ k = 2 → M2 k = M k) ∧ ∀ k, k < 233 → M2 1 k = M 1 k := by
  obtain ⟨B, a, b⟩ := pb_q (ms M' h' N' G')
  refine ⟨_, a, fun k h1 h2 => ?_, fun k hk => ?_⟩
  · rw [vuN h1, ms, vuN h1]; exact hO k h1 h2
  · rw [vuS, b k hk, ms, vuN (by decide)]; exact hB k hk
theorem uu_loop {q nf l n : Nat} {st : Int32} (hq : q < 2 ^ 30) (hl : l < 16) (hn : n < 2 ^ 30) : ∀ (j i : Nat) {X : ES} {h : CS} {N G : ES}, i + j = n → XR q nf X h N G → ∃ (r e : Int32) (X' : ES) (h' : CS) (N' G' : ES), XR q nf X' h' N' G' ∧ (X' (6 + l) 0 = st → r = e) ∧ (¬ X' (6 + l) 0 = st → r = -6) ∧ (∀ K : Int32 → ES → Prop, K r X' → wpl_X0_ticksUntil_3 (nI l) st (nI n) K (fun _ X4 => (X4 (lix (nI l)) 0 = st → K (nI n) X4) ∧ (¬ X4 (lix (nI l)) 0 = st → K (-6) X4)) (j + 1) (nI i) X) ∧ ∀ (Z : ES) (K Kx : Int32 → ES → Prop), Kx e (ms Z h' N' G') → wpl_X5_until_40 (nI l) st (nI n) K Kx (j + 1) (nI i) (ms Z h N G)
  | 0, i, X, h, N, G, he, hR => by
    have e : i = n := by omega
    subst e
    have hle : nI i ≤ nI i := nI_le (Nat.le_refl _) (by omega)
    by_cases hs : X (6 + l) 0 = st
    · refine ⟨nI i, nI i, X, h, N, G, hR, fun _ => rfl, fun z => absurd hs z, fun K hK => ?_, fun Z K Kx hK => ?_⟩
      · rw [wpl_X0_ticksUntil_3, lix_nI hl]
        exact ky hle (ky hs hK)
      · rw [wpl_X5_until_40]
        exact ky hle hK
    · refine ⟨-6, nI i, X, h, N, G, hR, fun z => absurd z hs, fun _ => rfl, fun K hK => ?_, fun Z K Kx hK => ?_⟩
      · rw [wpl_X0_ticksUntil_3, lix_nI hl]
        exact ky hle (kn hs hK)
      · rw [wpl_X5_until_40]
        exact ky hle hK
  | j + 1, i, X, h, N, G, he, hR => by
    have hlt : ¬ nI n ≤ nI i := nI_ge (by omega) (by omega)
    have l0 := (hR.2.1 l hl).1.1
    by_cases hs : X (6 + l) 0 = st
    · refine ⟨nI i, nI i, X, h, N, G, hR, fun _ => rfl, fun z => absurd hs z, fun K hK => ?_, fun Z K Kx hK => ?_⟩
      · rw [wpl_X0_ticksUntil_3, lix_nI hl]
        exact kn hlt (ky hs hK)
      · rw [wpl_X5_until_40, of_0 hl, ← l0]
        exact kn hlt (ky hs hK)
    · obtain ⟨X1, h1, N1, G1, hT⟩ := sim_tick hR hq
      obtain ⟨r, e, X', h', N', G', c1, c2, c3, a, b⟩ := uu_loop (st := st) hq hl hn j (i + 1) (by omega) hT.2.2.1
      refine ⟨r, e, X', h', N', G', c1, c2, c3, fun K hK => ?_, fun Z K Kx hK => ?_⟩
      · rw [wpl_X0_ticksUntil_3]
        rw [lix_nI hl]
        refine kn hlt (kn hs (TK_pass1 hT _ ?_))
        intro v ev
        rw [ev, nI_1]
        have := a K hK
        rw [lix_nI hl] at this
        exact this
      · rw [wpl_X5_until_40, of_0 hl, ← l0]
        refine kn hlt (kn hs (hT.2.1 Z _ ?_))
        intro v ev
        rw [ev, nI_1]
        exact b Z K Kx hK
theorem x_until {q nf o : Nat} {E M : ES} {h : CS} {N G : ES} (hR : XR q nf (vw (o + 1) E) h N G) (hq : q < 2 ^ 30) (hM : M 1 = flat h N G) (hT : vw (o + 27) E 3 0 = 0) (p1 p2 p3 : Int32) : SimU o E M (wp_X4_until o E p1 p2 p3) (wp_X5_until M p1 p2 p3) := by
  rcases line_dec p1 with ⟨l, hl, rfl⟩ | hno
  · rcases inc_dec p2 0 11 with ⟨-, -, hy, hyc⟩ | ⟨hn, hnc⟩
    · rcases inc_dec p3 0 1000 with ⟨a1, a2, hy2, hyc2⟩ | ⟨hn2, hnc2⟩
      · obtain ⟨n, n1, rfl⟩ := nI_of2 (M := 1000) (n := 1000) (by decide) a1 (Int32.not_lt.mp a2)
        obtain ⟨Y, cy, hR2⟩ := trial_q hR hT
        obtain ⟨B, ba, bb⟩ := pa_q M
        obtain ⟨r, e, X', h', N', G', c1, c2, c3, a, b⟩ := uu_loop (l := l) (n := n) (st := p2) hq hl (by omega) n 0 (by omega) hR2
        have eM : ms (va_up M 2 B) h N G = va_up M 2 B := ms_self (by rw [vuN (by decide)]; exact hM)
        obtain ⟨M2, ma, mb, mc⟩ := back_q (M := M) (M' := va_up M 2 B) (h' := h') (N' := N') (G' := G') (fun k hk => by rw [vuS]; exact bb k hk) (fun k h1 h2 => vuN h2)
        have l0 := (c1.2.1 l hl).1.1
        refine ⟨r, X', M2, fun K hK => line_y hl (k01 (hyc _ (k01 (hyc2 _ (k01 (cy _ ?_)))))), fun K hK => line_y hl (k01 (hy _ (k01 (hy2 _ (k01 (ba _ ⟨n + 1, ?_⟩)))))), c1.1.1, mb, mc⟩
        · intro X11 e11
          rw [e11]
          refine ⟨n + 1, a _ ?_⟩
          intro X14 e14
          rw [e14, putPut]
          exact hK
        · have := b (va_up M 2 B) K (fun j_13 X_14 => wp_X5_of X_14 (nI l) 0 fun r_15 => (r_15 = p2 → wp_X5_putBack X_14 fun X_18 => K j_13 X_18) ∧ (¬ r_15 = p2 → wp_X5_putBack X_14 fun X_17 => K (-6) X_17)) ?_
          · rw [eM] at this; exact this
          · rw [of_0 hl, ← l0]
            by_cases hs : X' (6 + l) 0 = p2
            · refine ky hs (ma _ ?_)
              rw [← c2 hs]; exact hK
            · refine kn hs (ma _ ?_)
              rw [← c3 hs]; exact hK
      · exact simU0 hT (-2) (fun K hK => line_y hl (k01 (hyc _ (k01 (hnc2 _ (k00 hK)))))) (fun K hK => line_y hl (k01 (hy _ (k01 (hn2 _ (k00 hK))))))
    · exact simU0 hT (-2) (fun K hK => line_y hl (k01 (hnc _ (k00 hK)))) (fun K hK => line_y hl (k01 (hn _ (k00 hK))))
  · exact simU0 hT (-1) (fun K hK => hno _ (k00 hK)) (fun K hK => hno _ (k00 hK))
-- ===== attempt =====
def isE (x : Int32) : Prop := x = 4 ∨ x = 8 ∨ x = 9 ∨ x = 10 ∨ x = 11
theorem endc_1 {x : Int32} {K : Int32 → Prop} (h : isE x) (hK : K 1) : wp_X0_endsTrial x K := by
  rcases h with e | e | e | e | e
  · exact ky e hK
  · exact kn (by rw [e]; decide) (ky e hK)
  · exact kn (by rw [e]; decide) (kn (by rw [e]; decide) (ky e hK))
  · exact kn (by rw [e]; decide) (kn (by rw [e]; decide) (kn (by rw [e]; decide) (ky e hK)))
  · exact kn (by rw [e]; decide) (kn (by rw [e]; decide) (kn (by rw [e]; decide) (kn (by rw [e]; decide) (ky e hK))))
theorem endc_0 {x : Int32} {K : Int32 → Prop} (h : ¬ isE x) (hK : K 0) : wp_X0_endsTrial x K := kn (fun z => h (Or.inl z)) (kn (fun z => h (Or.inr (Or.inl z))) (kn (fun z => h (Or.inr (Or.inr (Or.inl z)))) (kn (fun z => h (Or.inr (Or.inr (Or.inr (Or.inl z))))) (kn (fun z => h (Or.inr (Or.inr (Or.inr (Or.inr z))))) hK))))
theorem endm_1 {x : Int32} {K : Int32 → Prop} (h : isE x) (hK : K 1) : wp_X5_isEnd x K := by
  rcases h with e | e | e | e | e
  · exact ky e hK
  · exact kn (by rw [e]; decide) (in_yes (by rw [e]; decide) (by rw [e]; decide) (k01 hK))
  · exact kn (by rw [e]; decide) (in_yes (by rw [e]; decide) (by rw [e]; decide) (k01 hK))
  · exact kn (by rw [e]; decide) (in_yes (by rw [e]; decide) (by rw [e]; decide) (k01 hK))
  · exact kn (by rw [e]; decide) (in_yes (by rw [e]; decide) (by rw [e]; decide) (k01 hK))
theorem endm_0 {x : Int32} {K : Int32 → Prop} (h : ¬ isE x) (hK : K 0) : wp_X5_isEnd x K := by
  refine kn (fun z => h (Or.inl z)) (in_out (lo := 8) (n := 3) 8 11 (by decide) (by decide) (by decide) ?_ _ (k00 hK))
  intro j hj e
  rcases (by omega : j = 0 ∨ j = 1 ∨ j = 2 ∨ j = 3) with z | z | z | z <;> subst z
  · exact h (Or.inr (Or.inl e))
  · exact h (Or.inr (Or.inr (Or.inl e)))
  · exact h (Or.inr (Or.inr (Or.inr (Or.inl e))))
  · exact h (Or.inr (Or.inr (Or.inr (Or.inr e))))
theorem S6_go {L : CS} (h : S6 (L 0)) (hn : ¬ isE (L 0)) : go L := by
  rcases h with e | e | e | e | e | e
  · exact Or.inl e
  · exact absurd (Or.inl e) hn
  · exact absurd (Or.inr (Or.inl e)) hn
  · exact absurd (Or.inr (Or.inr (Or.inl e))) hn
  · exact absurd (Or.inr (Or.inr (Or.inr (Or.inl e)))) hn
  · exact absurd (Or.inr (Or.inr (Or.inr (Or.inr e)))) hn
theorem at_loop {q nf l t : Nat} (hq : q < 2 ^ 30) (hl : l < 16) (ht : t < 16) : ∀ (j n : Nat) {X : ES} {h : CS} {N G : ES} (fl : Int32), n + j = 500 → XR q nf X h N G → ¬ isE (X (6 + l) 0) → (fl = 0 ∨ (fl = 1 ∧ go (X (6 + l)))) → ∃ (r : Int32) (X' : ES) (h' : CS) (N' G' : ES), XR q nf X' h' N' G' ∧ (∀ K : Int32 → ES → Prop, K r X' → wpl_X0_tryCall_8 (nI l) (nI t) K (fun _ X6 => K 500 X6) (j + 1) (nI (n + 1)) X) ∧ ∀ (Z : ES) (a : Int32) (K : Int32 → ES → Prop) (Kx : Int32 → Int32 → Int32 → ES → Prop), (∀ y z, Kx y r z (ms Z h' N' G')) → wpl_X5_attempt_57 (nI l) (nI t) K Kx (j + 2) a (nI n) fl (ms Z h N G)
  | 0, n, X, h, N, G, fl, he, hR, hE, hf => by
    have e : n = 500 := by omega
    subst e
    refine ⟨500, X, h, N, G, hR, fun K hK => ?_, fun Z a K Kx hK => ?_⟩
    · rw [wpl_X0_tryCall_8]
      exact ky (by decide) hK
    · rw [wpl_X5_attempt_57]
      exact ky (by decide) (hK _ _)
  | j + 1, n, X, h, N, G, fl, he, hR, hE, hf => by
    have hn : n < 500 := by omega
    have c1 : ¬ (500 : Int32) < nI (n + 1) := nI_nlt (a := 500) (b := n + 1) (by omega) (by decide)
    have c2 : ¬ (500 : Int32) ≤ nI n := nI_ge (b := 500) hn (by decide)
    have l0 := (hR.2.1 l hl).1.1
    obtain ⟨X1, h1, N1, G1, hT⟩ := sim_tick hR hq
    have k0 := (hT.2.2.1.2.1 l hl).1.1
    by_cases hE1 : isE (X1 (6 + l) 0)
    · have n2 : ¬ X1 (6 + l) 0 = 2 := by rcases hE1 with e | e | e | e | e <;> rw [e] <;> decide
      refine ⟨nI (n + 1), X1, h1, N1, G1, hT.2.2.1, fun K hK => ?_, fun Z a K Kx hK => ?_⟩
      · rw [wpl_X0_tryCall_8]
        refine kn c1 (TK_pass1 hT _ ?_)
        rw [lix_nI hl]
        intro v ev
        rw [ev]
        exact endc_1 hE1 (k01 hK)
      · rw [wpl_X5_attempt_57, of_0 hl, ← l0]
        refine kn c2 (endm_0 hE (k00 (hT.2.1 Z _ ?_)))
        intro v ev
        rw [ev, nI_1]
        have nxt : ∀ fl', wpl_X5_attempt_57 (nI l) (nI t) K Kx (j + 2) a (nI (n + 1)) fl' (ms Z h1 N1 G1) := by
          intro fl'
          rw [wpl_X5_attempt_57, of_0 hl, ← k0]
          by_cases z : (500 : Int32) ≤ nI (n + 1)
          · exact ky z (hK _ _)
          · exact kn z (endm_1 hE1 (k01 (hK _ _)))
        by_cases f0 : fl = 0
        · refine ky f0 ?_
          rw [of_0 hl, ← k0]
          exact kn n2 (nxt _)
        · exact kn f0 (nxt _)
    · by_cases s2 : X1 (6 + l) 0 = 2
      · have f0 : fl = 0 := by
          rcases hf with z | ⟨-, g⟩
          · exact z
          · have := hT.2.2.2.1 l hl g
            rcases this with e | e | e | e | e | e <;> exact absurd (s2.symm.trans e) (by decide)
        have a1 : nI t / 4 + 1 = nI (t / 4 + 1) := by rw [show (4 : Int32) = nI 4 from rfl, pk_div (by omega) (by decide) (by decide), nI_1]
        have a2 : nI t - nI t / 4 * 4 + 1 = nI (t % 4 + 1) := by rw [show (4 : Int32) = nI 4 from rfl, pk_rem (by omega) (by decide) (by decide), nI_1]
        obtain ⟨r1, X2, h2, N2, G2, ca, ma, R2, -, P2⟩ := sim_dialP hT.2.2.1 hl (v := t / 4 + 1) (by omega)
        obtain ⟨r2, X3, h3, N3, G3, cb, mb, R3, -, P3⟩ := sim_dialP R2 hl (v := t % 4 + 1) (by omega)
        have g2 := P2 s2
        have g3 := P3 g2.1
        obtain ⟨r, X', h', N', G', d1, d2, d3⟩ := at_loop hq hl ht j (n + 1) 1 (by omega) R3 (by rw [g3.1]; unfold isE; decide) (Or.inr ⟨rfl, Or.inr g3⟩)
        refine ⟨r, X', h', N', G', d1, fun K hK => ?_, fun Z a K Kx hK => ?_⟩
        · rw [wpl_X0_tryCall_8]
          refine kn c1 (TK_pass1 hT _ ?_)
          rw [lix_nI hl]
          intro v ev
          rw [ev]
          refine endc_0 hE1 (k00 (ky s2 ?_))
          rw [a1, a2]
          refine ca _ (cb _ ?_)
          intro v2 ev2
          rw [ev2, nI_1]
          exact d2 K hK
        · rw [wpl_X5_attempt_57, of_0 hl, ← l0]
          refine kn c2 (endm_0 hE (k00 (hT.2.1 Z _ ?_)))
          intro v ev
          rw [ev, nI_1]
          refine ky f0 ?_
          rw [of_0 hl, ← k0]
          refine ky s2 ?_
          rw [a1, a2]
          refine ma Z _ (mb Z _ ?_)
          intro v2 ev2
          exact d3 Z v2 K Kx hK
      · have hf' : fl = 0 ∨ (fl = 1 ∧ go (X1 (6 + l))) := by
          rcases hf with z | ⟨z, g⟩
          · exact Or.inl z
          · exact Or.inr ⟨z, S6_go (hT.2.2.2.1 l hl g) hE1⟩
        obtain ⟨r, X', h', N', G', d1, d2, d3⟩ := at_loop hq hl ht j (n + 1) fl (by omega) hT.2.2.1 hE1 hf'
        refine ⟨r, X', h', N', G', d1, fun K hK => ?_, fun Z a K Kx hK => ?_⟩
        · rw [wpl_X0_tryCall_8]
          refine kn c1 (TK_pass1 hT _ ?_)
          rw [lix_nI hl]
          intro v ev
          rw [ev]
          refine endc_0 hE1 (k00 (kn s2 ?_))
          intro v2 ev2
          rw [ev2, nI_1]
          exact d2 K hK
        · rw [wpl_X5_attempt_57, of_0 hl, ← l0]
          refine kn c2 (endm_0 hE (k00 (hT.2.1 Z _ ?_)))
          intro v ev
          rw [ev, nI_1]
          by_cases f0 : fl = 0
          · refine ky f0 ?_
            rw [of_0 hl, ← k0]
            exact kn s2 (d3 Z a K Kx hK)
          · exact kn f0 (d3 Z a K Kx hK)
theorem x_attempt {q nf o : Nat} {E M : ES} {h : CS} {N G : ES} (hR : XR q nf (vw (o + 1) E) h N G) (hq : q + 1 < 2 ^ 30) (hM : M 1 = flat h N G) (hT : vw (o + 27) E 3 0 = 0) (p1 p2 p3 : Int32) : SimU o E M (wp_X4_attempt o E p1 p2 p3) (wp_X5_attempt M p1 p2 p3) := by
  rcases line_dec p1 with ⟨l, hl, rfl⟩ | hno
  · rcases line_dec p2 with ⟨t, ht, rfl⟩ | hno2
    · rcases inc_dec p3 0 1 with ⟨-, -, hy, hyc⟩ | ⟨hn, hnc⟩
      · have l0 := (hR.2.1 l hl).1.1
        have eE : E (o + 1 + lix (nI l)) 0 = vw (o + 1) E (6 + l) 0 := by rw [lix_nI hl]; rfl
        have eS : ms M h N G = M := ms_self hM
        by_cases h0 : vw (o + 1) E (6 + l) 0 = 0
        · obtain ⟨Y, cy, hR2⟩ := trial_q hR hT
          obtain ⟨B, ba, bb⟩ := pa_q M
          have eM : ms (va_up M 2 B) h N G = va_up M 2 B := ms_self (by rw [vuN (by decide)]; exact hM)
          obtain ⟨r0, X1, h1, N1, G1, ca, ma, R1, -, P1⟩ := sim_liftP hR2 hl
          have i0 : vw (o + 27) (put 26 (o + 27) Y E) (6 + l) 0 = 0 := by rw [(hR2.2.1 l hl).1.1, ← l0]; exact h0
          obtain ⟨r, X', h', N', G', d1, d2, d3⟩ := at_loop (t := t) hq hl ht 500 0 0 rfl R1 (by rw [P1 i0]; unfold isE; decide) (Or.inl rfl)
          obtain ⟨M2, xa, xb, xc⟩ := back_q (M := M) (M' := va_up M 2 B) (h' := h') (N' := N') (G' := G') (fun k hk => by rw [vuS]; exact bb k hk) (fun k h1 h2 => vuN h2)
          have k0 := (d1.2.1 l hl).1.1
          have main : ∀ K : Int32 → ES → Prop, ((p3 = 0 → K (X' (6 + l) 0) (put 26 (o + 27) X' E)) ∧ (¬ p3 = 0 → K r (put 26 (o + 27) X' E))) → wp_X4_attempt o E (nI l) (nI t) p3 K := by
            intro K hK
            refine line_y hl (k01 (line_y ht (k01 (hyc _ (k01 (ky (by rw [eE]; exact h0) (cy _ ?_)))))))
            intro X13 e13
            rw [e13]
            refine ca _ ⟨501, d2 _ ?_⟩
            intro X16 e16
            rw [e16, putPut]
            have ev : put 26 (o + 27) X' E (o + 27 + lix (nI l)) = X' (6 + l) := by rw [lix_nI hl]; exact putAt (by omega)
            rw [ev]
            exact hK
          have mmod : ∀ K : Int32 → ES → Prop, ((p3 = 0 → K (X' (6 + l) 0) M2) ∧ (¬ p3 = 0 → K r M2)) → wp_X5_attempt M (nI l) (nI t) p3 K := by
            intro K hK
            refine line_y hl (k01 (line_y ht (k01 (hy _ (k01 ?_)))))
            rw [show M = ms M h N G from eS.symm, of_0 hl, ← l0, eS]
            refine ky h0 (ba _ ?_)
            have := ma (va_up M 2 B) (fun r_13 X_14 => ∃ m_57 : Nat, wpl_X5_attempt_57 (nI l) (nI t) K (fun (j_19 : Int32) (j_20 : Int32) (j_21 : Int32) (X_22 : ES) => (p3 = 0 → (wp_X5_of X_22 (nI l) 0 (fun r_25 => wp_X5_putBack X_22 (fun X_26 => K r_25 X_26)))) ∧ (¬ p3 = 0 → (wp_X5_putBack X_22 (fun X_24 => K j_20 X_24)))) m_57 r_13 0 0 X_14) ⟨502, d3 _ _ K _ fun y z => ?_⟩
            · dsimp only at this; rw [eM] at this; exact this
            · rw [of_0 hl, ← k0]
              by_cases z : p3 = 0
              · exact ky z (xa _ (hK.1 z))
              · exact kn z (xa _ (hK.2 z))
          by_cases z : p3 = 0
          · exact ⟨X' (6 + l) 0, X', M2, fun K hK => main K (ky z hK), fun K hK => mmod K (ky z hK), d1.1.1, xb, xc⟩
          · exact ⟨r, X', M2, fun K hK => main K (kn z hK), fun K hK => mmod K (kn z hK), d1.1.1, xb, xc⟩
        · refine simU0 hT (-5) (fun K hK => line_y hl (k01 (line_y ht (k01 (hyc _ (k01 (kn (by rw [eE]; exact h0) hK))))))) (fun K hK => line_y hl (k01 (line_y ht (k01 (hy _ (k01 ?_))))))
          rw [show M = ms M h N G from eS.symm, of_0 hl, ← l0, eS]
          exact kn h0 hK
      · exact simU0 hT (-2) (fun K hK => line_y hl (k01 (line_y ht (k01 (hnc _ (k00 hK)))))) (fun K hK => line_y hl (k01 (line_y ht (k01 (hn _ (k00 hK))))))
    · exact simU0 hT (-1) (fun K hK => line_y hl (k01 (hno2 _ (k00 hK)))) (fun K hK => line_y hl (k01 (hno2 _ (k00 hK))))
  · exact simU0 hT (-1) (fun K hK => hno _ (k00 hK)) (fun K hK => hno _ (k00 hK))
