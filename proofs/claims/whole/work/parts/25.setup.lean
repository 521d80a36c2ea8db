-- ===== a fresh exchange; set up =====
def zL (L : CS) : Prop := L 0 = 0 ∧ L 1 = 0 ∧ L 2 = 0 ∧ L 3 = 0 ∧ L 4 = 0 ∧ L 5 = 0 ∧ L 6 = -6 ∧ L 8 = 0
def zF (F : CS) : Prop := F 0 = 0 ∧ F 1 = 0 ∧ F 2 = -6 ∧ F 3 = 0 ∧ F 4 = -6 ∧ F 5 = 0 ∧ F 6 = 0 ∧ F 7 = 0 ∧ F 8 = 0 ∧ F 9 = -6
theorem XR_fresh {q nf : Nat} {X : ES} {h : CS} {N G : ES} (hH : HR q nf X h) (hL : ∀ i, i < 16 → zL (X (6 + i))) (hF : ∀ f, f < 4 → zF (X (22 + f))) (hN : ∀ i, i < 16 → ∀ w, w < 11 → N i w = 0) (hG : ∀ f, f < 4 → zF (G f)) : XR q nf X h N G := by
  refine ⟨hH, fun i hi => ?_, fun f hf => ?_, fun f hf hm => ?_, fun f hf hm => ?_, fun i hi => ?_, fun f h1 h2 => (hF f h2).1⟩
  · obtain ⟨a0, a1, a2, a3, a4, a5, a6, a8⟩ := hL i hi
    have n := hN i hi
    refine ⟨?_, [], ?_, Or.inl ⟨n 0 (by decide), n 1 (by decide), rfl, a8, a6⟩⟩
    · rw [a0, a1, a2, a3, a5, n 0 (by decide), n 1 (by decide), n 2 (by decide), n 3 (by decide), n 10 (by decide)]
      exact ⟨rfl, rfl, rfl, rfl, rfl⟩
    · exact ⟨by decide, fun v hv => absurd hv (by simp), n 10 (by decide), fun k v hk => absurd hk (by simp), a4⟩
  · obtain ⟨a0, a1, a2, a3, a4, a5, a6, a7, a8, a9⟩ := hF f hf
    obtain ⟨b0, b1, b2, b3, b4, b5, b6, b7, b8, b9⟩ := hG f hf
    refine ⟨?_, ⟨0, by decide, a1⟩, Or.inl ⟨a0, a2, a3, a4, a5, a6, a7, a8, a9⟩⟩
    rw [a0, a1, a2, a3, a4, a5, a7, a8, a9, b0, b1, b2, b3, b4, b5, b7, b8, b9]
    exact ⟨rfl, rfl, rfl, rfl, rfl, rfl, rfl, rfl, rfl⟩
  · exact absurd (hF f hf).1 hm
  · rw [(hF f hf).1] at hm
    rcases hm with z | z <;> exact absurd z (by decide)
  · exact Or.inl ⟨(hL i hi).2.2.2.2.2.2.1, Or.inl (hL i hi).1⟩
def rnL (L : CS) : CS := upd (upd (upd (upd (upd (upd (upd (upd (upd L 0 0) 6 (-6)) 8 0) 4 0) 5 0) 1 0) 2 0) 3 0) 7 0
def rnF (L : CS) : CS := upd (upd (upd (upd (upd (upd (upd (upd (upd (upd L 0 0) 7 0) 8 0) 2 (-6)) 3 0) 4 (-6)) 5 0) 6 0) 9 (-6)) 1 0
theorem rnL_z (L : CS) : zL (rnL L) := by simp [zL, rnL, updA]
theorem rnF_z (L : CS) : zF (rnF L) := by simp [zF, rnF, updA]
theorem rl_loop : ∀ (j i : Nat) (X : ES), i + j = 16 → ∃ X' : ES, (∀ (K : ES → Prop) (Kx : Int32 → ES → Prop), (∀ y, Kx y X') → wpl_X0_renew_2 K Kx (j + 1) (nI i) X) ∧ (∀ k, (∀ t, i ≤ t → t < 16 → ¬ k = 6 + t) → X' k = X k) ∧ ∀ t, i ≤ t → t < 16 → zL (X' (6 + t))
  | 0, i, X, he => by
    have e : i = 16 := by omega
    subst e
    refine ⟨X, fun K Kx hK => ?_, fun k _ => rfl, fun t h1 h2 => absurd h1 (by omega)⟩
    rw [wpl_X0_renew_2]
    exact ky (nI_le (a := 16) (b := 16) (Nat.le_refl _) (by decide)) (hK _)
  | j + 1, i, X, he => by
    have hi : i < 16 := by omega
    have hlt : ¬ (16 : Int32) ≤ nI i := nI_ge (b := 16) hi (by decide)
    obtain ⟨X', a, b, c⟩ := rl_loop j (i + 1) (va_up X (6 + i) (rnL (X (6 + i)))) (by omega)
    refine ⟨X', fun K Kx hK => ?_, fun k hk => ?_, fun t h1 h2 => ?_⟩
    · rw [wpl_X0_renew_2, lix_nI hi]
      refine kn hlt ?_
      simp only [wp_X2_renew, wp_X2_leaveCall, forall_eq, nI_1]
      exact a K Kx hK
    · rw [b k (fun t h1 h2 => hk t (by omega) h2), vuN (hk i (Nat.le_refl _) hi)]
    · by_cases e : t = i
      · subst e
        rw [b (6 + t) (fun u h1 h2 => by omega), vuS]
        exact rnL_z _
      · exact c t (by omega) h2
theorem rf_loop : ∀ (j i : Nat) (X : ES), i + j = 4 → ∃ X' : ES, (∀ (K : ES → Prop) (Kx : Int32 → ES → Prop), (∀ y, Kx y X') → wpl_X0_renew_24 K Kx (j + 1) (nI i) X) ∧ (∀ k, (∀ t, i ≤ t → t < 4 → ¬ k = 22 + t) → X' k = X k) ∧ ∀ t, i ≤ t → t < 4 → zF (X' (22 + t))
  | 0, i, X, he => by
    have e : i = 4 := by omega
    subst e
    refine ⟨X, fun K Kx hK => ?_, fun k _ => rfl, fun t h1 h2 => absurd h1 (by omega)⟩
    rw [wpl_X0_renew_24]
    exact ky (nI_le (a := 4) (b := 4) (Nat.le_refl _) (by decide)) (hK _)
  | j + 1, i, X, he => by
    have hi : i < 4 := by omega
    have hlt : ¬ (4 : Int32) ≤ nI i := nI_ge (b := 4) hi (by decide)
    obtain ⟨X', a, b, c⟩ := rf_loop j (i + 1) (va_up X (22 + i) (rnF (X (22 + i)))) (by omega)
    refine ⟨X', fun K Kx hK => ?_, fun k hk => ?_, fun t h1 h2 => ?_⟩
    · rw [wpl_X0_renew_24, fix_nI hi]
      refine kn hlt ?_
      simp only [wp_X1_renew, wp_X1_becomeFree, wp_X1_become, forall_eq, nI_1]
      exact a K Kx hK
    · rw [b k (fun t h1 h2 => hk t (by omega) h2), vuN (hk i (Nat.le_refl _) hi)]
    · by_cases e : t = i
      · subst e
        rw [b (22 + t) (fun u h1 h2 => by omega), vuS]
        exact rnF_z _
      · exact c t (by omega) h2
theorem bl_loop : ∀ (j i : Nat) (A : CS), i + j = 233 → ∃ A' : CS, (∀ (Z : ES) (K : ES → Prop) (Kx : Int32 → ES → Prop), (∀ y, Kx y (va_up Z 1 A')) → wpl_X5_begin_2 K Kx (j + 1) (nI i) (va_up Z 1 A)) ∧ ∀ k, A' k = if i ≤ k ∧ k < 233 ∧ ¬ (5 ≤ k ∧ k ≤ 9) then 0 else A k
  | 0, i, A, he => by
    have e : i = 233 := by omega
    subst e
    refine ⟨A, fun Z K Kx hK => ?_, fun k => by rw [if_neg (by omega)]⟩
    rw [wpl_X5_begin_2]
    exact ky (nI_le (a := 233) (b := 233) (Nat.le_refl _) (by decide)) (hK _)
  | j + 1, i, A, he => by
    have hi : i < 233 := by omega
    have hlt : ¬ (233 : Int32) ≤ nI i := nI_ge (b := 233) hi (by decide)
    have vi : vp_in (nI i) 233 := nIn hi (by decide)
    by_cases h59 : 5 ≤ i ∧ i ≤ 9
    · obtain ⟨A', a, b⟩ := bl_loop j (i + 1) A (by omega)
      refine ⟨A', fun Z K Kx hK => ?_, fun k => ?_⟩
      · rw [wpl_X5_begin_2]
        refine kn hlt (in_yes (nI_nlt (a := i) (b := 5) h59.1 (by omega)) (nI_nlt (a := 9) (b := i) h59.2 (by decide)) (k01 ⟨vi, vi, fun X4 e4 v ev => ?_⟩))
        rw [e4, ev, nI_1, vuS, nI_clamp (by omega), vuU]
        have e : upd A i (A i) = A := by
          funext k
          rw [updA]
          by_cases z : k = i
          · rw [if_pos z, z]
          · rw [if_neg z]
        rw [e]
        exact a Z K Kx hK
      · rw [b k]
        by_cases e : k = i
        · subst e; rw [if_neg (by omega), if_neg (by omega)]
        · by_cases z : i + 1 ≤ k ∧ k < 233 ∧ ¬ (5 ≤ k ∧ k ≤ 9)
          · rw [if_pos z, if_pos (by omega)]
          · rw [if_neg z, if_neg (by omega)]
    · obtain ⟨A', a, b⟩ := bl_loop j (i + 1) (upd A i 0) (by omega)
      refine ⟨A', fun Z K Kx hK => ?_, fun k => ?_⟩
      · rw [wpl_X5_begin_2]
        have no : ∀ K : Int32 → Prop, K 0 → wp_X5_in (nI i) 5 9 K := fun K hK => by
          by_cases z : i < 5
          · exact in_no (Or.inl (nI_lt (a := i) (b := 5) z (by decide))) hK
          · exact in_no (Or.inr (nI_lt (a := 9) (b := i) (by omega) (by omega))) hK
        refine kn hlt (no _ (k00 ⟨vi, fun X4 e4 v ev => ?_⟩))
        rw [e4, ev, nI_1, vuS, nI_clamp (by omega), vuU]
        exact a Z K Kx hK
      · rw [b k, updA]
        by_cases e : k = i
        · subst e; rw [if_neg (by omega), if_pos rfl, if_pos (by omega)]
        · rw [if_neg e]
          by_cases z : i + 1 ≤ k ∧ k < 233 ∧ ¬ (5 ≤ k ∧ k ≤ 9)
          · rw [if_pos z, if_pos (by omega)]
          · rw [if_neg z, if_neg (by omega)]
theorem fr_loop : ∀ (j f : Nat) (h : CS) (N G : ES), f + j = 4 → ∃ G' : ES, (∀ (Z : ES) (K : ES → Prop) (Kx : Int32 → ES → Prop), (∀ y, Kx y (ms Z h N G')) → wpl_X5_begin_65 K Kx (j + 1) (nI f) (ms Z h N G)) ∧ (∀ t, ¬ (f ≤ t ∧ t < 4) → G' t = G t) ∧ ∀ t, f ≤ t → t < 4 → G' t = frG (G t)
  | 0, f, h, N, G, he => by
    have e : f = 4 := by omega
    subst e
    refine ⟨G, fun Z K Kx hK => ?_, fun t _ => rfl, fun t h1 h2 => absurd h1 (by omega)⟩
    rw [wpl_X5_begin_65]
    exact ky (nI_le (a := 4) (b := 4) (Nat.le_refl _) (by decide)) (hK _)
  | j + 1, f, h, N, G, he => by
    have hf : f < 4 := by omega
    have hlt : ¬ (4 : Int32) ≤ nI f := nI_ge (b := 4) hf (by decide)
    obtain ⟨G', a, b, c⟩ := fr_loop j (f + 1) h N (va_up G f (frG (G f))) (by omega)
    refine ⟨G', fun Z K Kx hK => ?_, fun t ht => ?_, fun t h1 h2 => ?_⟩
    · rw [wpl_X5_begin_65]
      refine kn hlt (q_free hf fun v ev => ?_)
      rw [ev, nI_1]; exact a Z K Kx hK
    · rw [b t (by omega), vuN (by omega)]
    · by_cases e : t = f
      · subst e; rw [b t (by omega), vuS]
      · rw [c t (by omega) h2, vuN e]
theorem begin_q (h : CS) (N G : ES) (p1 p2 : Int32) : ∃ (h' : CS) (N' G' : ES), (∀ (Z : ES) (K : ES → Prop), K (ms Z h' N' G') → wp_X5_begin (ms Z h N G) p1 p2 K) ∧ (h' 0 = 0 ∧ h' 1 = p1 ∧ h' 2 = p2 ∧ h' 3 = -6 ∧ h' 4 = 0) ∧ (∀ k, 5 ≤ k → k ≤ 9 → h' k = h k) ∧ (∀ k, 10 ≤ k → k < 17 → h' k = 0) ∧ (∀ i, i < 16 → ∀ w, w < 11 → N' i w = 0) ∧ ∀ f, f < 4 → zF (G' f) := by
  obtain ⟨A, a, b⟩ := bl_loop 233 0 (flat h N G) rfl
  have eA : ∀ Z : ES, va_up Z 1 A = ms Z A (fun i w => A (17 + 11 * i + w)) (fun f w => A (193 + 10 * f + w)) := fun Z => by
    have := ms_of (va_up Z 1 A)
    rw [vuS] at this
    rw [this, ms, vuU]
    rfl
  obtain ⟨G', a2, -, c2⟩ := fr_loop 4 0 (upd (upd (upd A 1 p1) 2 p2) 3 (-6)) (fun i w => A (17 + 11 * i + w)) (fun f w => A (193 + 10 * f + w)) rfl
  refine ⟨upd (upd (upd A 1 p1) 2 p2) 3 (-6), fun i w => A (17 + 11 * i + w), G', fun Z K hK => ⟨234, a Z _ _ fun y => ?_⟩, ?_, fun k h1 h2 => ?_, fun k h1 h2 => ?_, fun i hi w hw => ?_, fun f hf => ?_⟩
  · rw [eA]
    refine ⟨vpl (n := 1) rfl (by decide), fun X5 e5 => ⟨vpl (n := 2) rfl (by decide), fun X6 e6 => ⟨vpl (n := 3) rfl (by decide), fun X7 e7 => ⟨5, ?_⟩⟩⟩⟩
    rw [e7, e6, e5, hu_1, hu_2, hu_3]
    exact a2 Z K _ fun _ => hK
  · simp [updA, b]
  · rw [updA, updA, updA, if_neg (by omega), if_neg (by omega), if_neg (by omega), b, if_neg (by omega), flat_h (by omega)]
  · rw [updA, updA, updA, if_neg (by omega), if_neg (by omega), if_neg (by omega), b, if_pos (by omega)]
  · show A (17 + 11 * i + w) = 0
    rw [b, if_pos (by omega)]
  · rw [c2 f (Nat.zero_le _) hf]
    have z : A (193 + 10 * f + 1) = 0 := by rw [b, if_pos (by omega)]
    simp [zF, frG, updA, z]
theorem x_setUp {q nf o : Nat} {E : ES} {h : CS} {N G : ES} (hR : XR q nf (vw (o + 1) E) h N G) (htm : tmO h) (p1 p2 : Int32) : SimX q o E (wp_X4_setUp o E p1 p2) (fun Z => wp_X5_setUp (ms Z h N G) p1 p2) := by
  rcases inc_dec p1 1 4 with ⟨a1, a2, hy, hyc⟩ | ⟨hn, hnc⟩
  · rcases inc_dec p2 1 3 with ⟨b1, b2, hy2, hyc2⟩ | ⟨hn2, hnc2⟩
    · obtain ⟨n, n1, rfl⟩ := nI_of2 (M := 4) (n := 4) (by decide) (fun z => a1 (Int32.lt_of_lt_of_le z (by decide))) (Int32.not_lt.mp a2)
      obtain ⟨m, m1, rfl⟩ := nI_of2 (M := 3) (n := 3) (by decide) (fun z => b1 (Int32.lt_of_lt_of_le z (by decide))) (Int32.not_lt.mp b2)
      have n0 : 1 ≤ n := by
        rcases Nat.eq_zero_or_pos n with z | z
        · subst z; exact absurd (by decide) a1
        · exact z
      have m0 : 1 ≤ m := by
        rcases Nat.eq_zero_or_pos m with z | z
        · subst z; exact absurd (by decide) b1
        · exact z
      obtain ⟨X1, x1, y1, z1⟩ := rl_loop 16 0 (vw (o + 1) E) rfl
      obtain ⟨X2, x2, y2, z2⟩ := rf_loop 4 0 X1 rfl
      obtain ⟨h', N', G', bb, ⟨e0, e1, e2, e3, e4⟩, e59, e1016, eN, eG⟩ := begin_q h N G (nI n) (nI m)
      have c5 : E (o + 1) 5 = h 1 := by
        have : vw (o + 1) E 0 5 = nI nf := hR.1.2.1.2.2.2
        exact this.trans hR.1.2.1.2.2.1.symm
      refine simX (nf := n) (h 1) (X' := va_up X2 0 (upd (upd (upd (upd (upd (upd (upd (upd (upd (upd (upd (X2 0) 5 (nI n)) 6 (nI m)) 7 0) 8 (-1)) 9 0) 10 0) 11 0) 12 0) 13 0) 14 0) 15 0)) (h' := h') (N' := N') (G' := G') (fun K hK => hyc _ (k01 (hyc2 _ (k01 fun v ev => ⟨17, x1 _ _ fun _ => ⟨5, x2 _ _ fun _ => ?_⟩⟩)))) (fun Z K hK => hy _ (k01 (hy2 _ (k01 ⟨vpl (n := 1) rfl (by decide), fun v ev => bb Z _ ?_⟩)))) (XR_fresh ?_ ?_ ?_ eN eG) ⟨0, Nat.zero_le _, e0⟩
      · simp only [forall_eq, vuS, vuU]
        rw [ev, c5]; exact hK
      · rw [ev, hd_1]; exact hK
      · have q3 : X2 3 = vw (o + 1) E 3 := by rw [y2 3 (fun t h1 h2 => by omega), y1 3 (fun t h1 h2 => by omega)]
        have q5 : X2 5 = vw (o + 1) E 5 := by rw [y2 5 (fun t h1 h2 => by omega), y1 5 (fun t h1 h2 => by omega)]
        show HRr q n (va_up X2 0 _ 3) (va_up X2 0 _ 0) (va_up X2 0 _ 5) h'
        rw [vuS, vuN (by decide), vuN (by decide), q3, q5]
        have hH := hR.1
        simp only [HR, HRr, updA, e0, e1, e2, e3, e4, e59 5 (by decide) (by decide), e59 6 (by decide) (by decide), e59 7 (by decide) (by decide), e59 8 (by decide) (by decide), e59 9 (by decide) (by decide), e1016 10 (by decide) (by decide), e1016 11 (by decide) (by decide), e1016 12 (by decide) (by decide), e1016 13 (by decide) (by decide), e1016 14 (by decide) (by decide), e1016 15 (by decide) (by decide), e1016 16 (by decide) (by decide)] at hH ⊢
        refine ⟨hH.1, ⟨n0, n1, by simp, by simp⟩, ⟨by simp, m, m0, m1, rfl⟩, by simp, Or.inl ⟨by simp, by simp⟩, ⟨0, Nat.zero_le _, rfl, rfl, by simp; rfl⟩, by simp, hH.2.2.2.2.2.2.2⟩
      · intro i hi
        rw [vuN (by omega), y2 (6 + i) (fun t h1 h2 => by omega)]; exact z1 i (Nat.zero_le _) hi
      · intro f hf
        rw [vuN (by omega)]; exact z2 f (Nat.zero_le _) hf
    · exact simX0 hR htm (Nat.le_refl q) (-2) (fun K hK => hyc _ (k01 (hnc2 _ (k00 hK)))) (fun Z K hK => hy _ (k01 (hn2 _ (k00 hK))))
  · exact simX0 hR htm (Nat.le_refl q) (-2) (fun K hK => hnc _ (k00 hK)) (fun Z K hK => hn _ (k00 hK))
