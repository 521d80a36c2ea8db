-- ===== counts and numbers of finders =====
theorem i_p0 (x : Int32) : x + 0 = x := by simp
theorem i_sub1 (c b : Int32) : c - b + -1 = c - (b + 1) := by
  apply Int32.toBitVec_inj.mp
  rw [Int32.toBitVec_add, Int32.toBitVec_sub, Int32.toBitVec_sub, Int32.toBitVec_add]
  have e1 : (-1 : Int32).toBitVec = -(1 : Int32).toBitVec := by decide
  rw [e1]
  generalize c.toBitVec = x
  generalize b.toBitVec = y
  generalize (1 : Int32).toBitVec = z
  rw [BitVec.sub_eq_add_neg, BitVec.sub_eq_add_neg, BitVec.neg_add, BitVec.sub_eq_add_neg, BitVec.add_assoc]
theorem ff_loop {q nf : Nat} {X : ES} {h : CS} {N G : ES} (hR : XR q nf X h N G) : ∀ (j i : Nat) (acc : Int32), i + j = nf → ∃ r : Int32, (∀ (K : Int32 → Prop) (Kx : Int32 → Int32 → Prop), (∀ y, Kx r y) → wpl_X0_freeFinders_4 X K Kx (j + 1) acc (nI i)) ∧ ∀ (Z : ES) (K : Int32 → Prop) (Kx : Int32 → Int32 → Prop), (∀ y, Kx r y) → wpl_X5_finders_4 (ms Z h N G) 1 K Kx (j + 1) acc (nI i)
  | 0, i, acc, he => by
    have h4 : nf ≤ 4 := hR.1.2.1.2.1
    have e : i = nf := by omega
    subst e
    refine ⟨acc, fun K Kx hK => ?_, fun Z K Kx hK => ?_⟩
    · rw [wpl_X0_freeFinders_4, hR.1.2.1.2.2.2]
      exact ky (nI_le (Nat.le_refl _) (by omega)) (hK _)
    · rw [wpl_X5_finders_4, hd_1, hR.1.2.1.2.2.1]
      exact ⟨vpl (n := 1) rfl (by decide), ky (nI_le (Nat.le_refl _) (by omega)) (hK _)⟩
  | j + 1, i, acc, he => by
    have h4 : nf ≤ 4 := hR.1.2.1.2.1
    have hi : i < 4 := by omega
    have hlt : ¬ nI nf ≤ nI i := nI_ge (by omega) (by omega)
    have g := (hR.2.2.1 i hi).1.1
    by_cases hz : X (22 + i) 0 = 0
    · obtain ⟨r, a, b⟩ := ff_loop hR j (i + 1) (acc + 1) (by omega)
      refine ⟨r, fun K Kx hK => ?_, fun Z K Kx hK => ?_⟩
      · rw [wpl_X0_freeFinders_4, hR.1.2.1.2.2.2, fix_nI hi]
        refine kn hlt (ky hz fun v ev v2 ev2 => ?_)
        rw [ev, ev2, nI_1]; exact a K Kx hK
      · rw [wpl_X5_finders_4, hd_1, hR.1.2.1.2.2.1, ofF_0 hi, ← g]
        refine ⟨vpl (n := 1) rfl (by decide), kn hlt (k01 (ky hz fun v ev v2 ev2 => ?_))⟩
        rw [ev, ev2, nI_1]; exact b Z K Kx hK
    · obtain ⟨r, a, b⟩ := ff_loop hR j (i + 1) acc (by omega)
      refine ⟨r, fun K Kx hK => ?_, fun Z K Kx hK => ?_⟩
      · rw [wpl_X0_freeFinders_4, hR.1.2.1.2.2.2, fix_nI hi]
        refine kn hlt (kn hz fun v ev => ?_)
        rw [ev, nI_1]; exact a K Kx hK
      · rw [wpl_X5_finders_4, hd_1, hR.1.2.1.2.2.1, ofF_0 hi, ← g]
        refine ⟨vpl (n := 1) rfl (by decide), kn hlt (k01 (kn hz fun v ev v2 ev2 => ?_))⟩
        rw [ev, ev2, nI_1, i_p0]; exact b Z K Kx hK
theorem fc_loop {q nf : Nat} {X : ES} {h : CS} {N G : ES} (hR : XR q nf X h N G) (c : Int32) : ∀ (j i : Nat) (acc : Int32), i + j = nf → ∃ r : Int32, (∀ (K : Int32 → Prop) (Kx : Int32 → Int32 → Prop), (∀ y, Kx (c - r) y) → wpl_X0_freeConnectors_9 X K Kx (j + 1) (c - acc) (nI i)) ∧ ∀ (Z : ES) (K : Int32 → Prop) (Kx : Int32 → Int32 → Prop), (∀ y, Kx r y) → wpl_X5_finders_4 (ms Z h N G) 0 K Kx (j + 1) acc (nI i)
  | 0, i, acc, he => by
    have h4 : nf ≤ 4 := hR.1.2.1.2.1
    have e : i = nf := by omega
    subst e
    refine ⟨acc, fun K Kx hK => ?_, fun Z K Kx hK => ?_⟩
    · rw [wpl_X0_freeConnectors_9, hR.1.2.1.2.2.2]
      exact ky (nI_le (Nat.le_refl _) (by omega)) (hK _)
    · rw [wpl_X5_finders_4, hd_1, hR.1.2.1.2.2.1]
      exact ⟨vpl (n := 1) rfl (by decide), ky (nI_le (Nat.le_refl _) (by omega)) (hK _)⟩
  | j + 1, i, acc, he => by
    have h4 : nf ≤ 4 := hR.1.2.1.2.1
    have hi : i < 4 := by omega
    have hlt : ¬ nI nf ≤ nI i := nI_ge (by omega) (by omega)
    by_cases hz : isHd (X (22 + i) 0)
    · obtain ⟨r, a, b⟩ := fc_loop hR c j (i + 1) (acc + 1) (by omega)
      refine ⟨r, fun K Kx hK => ?_, fun Z K Kx hK => ?_⟩
      · rw [wpl_X0_freeConnectors_9, hR.1.2.1.2.2.2, fix_nI hi]
        refine kn hlt (holds_q _ ⟨fun _ => k01 fun v ev v2 ev2 => ?_, fun z => absurd hz z⟩)
        rw [ev, ev2, nI_1, i_sub1]; exact a K Kx hK
      · rw [wpl_X5_finders_4, hd_1, hR.1.2.1.2.2.1]
        refine ⟨vpl (n := 1) rfl (by decide), kn hlt (k00 (isHolding_q hR hi Z _ ⟨fun _ => k01 fun v ev v2 ev2 => ?_, fun z => absurd hz z⟩))⟩
        rw [ev, ev2, nI_1]; exact b Z K Kx hK
    · obtain ⟨r, a, b⟩ := fc_loop hR c j (i + 1) acc (by omega)
      refine ⟨r, fun K Kx hK => ?_, fun Z K Kx hK => ?_⟩
      · rw [wpl_X0_freeConnectors_9, hR.1.2.1.2.2.2, fix_nI hi]
        refine kn hlt (holds_q _ ⟨fun z => absurd z hz, fun _ => k00 fun v ev => ?_⟩)
        rw [ev, nI_1]; exact a K Kx hK
      · rw [wpl_X5_finders_4, hd_1, hR.1.2.1.2.2.1]
        refine ⟨vpl (n := 1) rfl (by decide), kn hlt (k00 (isHolding_q hR hi Z _ ⟨fun z => absurd z hz, fun _ => k00 fun v ev v2 ev2 => ?_⟩))⟩
        rw [ev, ev2, nI_1, i_p0]; exact b Z K Kx hK
theorem sm_loop {q nf : Nat} {X : ES} {h : CS} {N G : ES} (hR : XR q nf X h N G) : ∀ (j i : Nat) (acc : Int32), i + j = 16 → ∃ r : Int32, (∀ (K : Int32 → Prop) (Kx : Int32 → Int32 → Prop), (∀ y, Kx r y) → wpl_X0_sumOfMeters_4 X K Kx (j + 1) acc (nI i)) ∧ ∀ (Z : ES) (K : Int32 → Prop) (Kx : Int32 → Int32 → Prop), (∀ y, Kx r y) → wpl_X5_sumOf_4 (ms Z h N G) 2 K Kx (j + 1) acc (nI i)
  | 0, i, acc, he => by
    have e : i = 16 := by omega
    subst e
    refine ⟨acc, fun K Kx hK => ?_, fun Z K Kx hK => ?_⟩
    · rw [wpl_X0_sumOfMeters_4]
      exact ky (nI_le (a := 16) (b := 16) (Nat.le_refl _) (by decide)) (hK _)
    · rw [wpl_X5_sumOf_4]
      exact ky (nI_le (a := 16) (b := 16) (Nat.le_refl _) (by decide)) (hK _)
  | j + 1, i, acc, he => by
    have hi : i < 16 := by omega
    have hlt : ¬ (16 : Int32) ≤ nI i := nI_ge (b := 16) hi (by decide)
    have l2 := (hR.2.1 i hi).1.2.2.1
    obtain ⟨r, a, b⟩ := sm_loop hR j (i + 1) (acc + X (6 + i) 2) (by omega)
    refine ⟨r, fun K Kx hK => ?_, fun Z K Kx hK => ?_⟩
    · rw [wpl_X0_sumOfMeters_4, lix_nI hi]
      refine kn hlt fun v ev v2 ev2 => ?_
      rw [ev, ev2, nI_1]; exact a K Kx hK
    · rw [wpl_X5_sumOf_4, of_2 hi, ← l2]
      refine kn hlt fun v ev v2 ev2 => ?_
      rw [ev, ev2, nI_1]; exact b Z K Kx hK
theorem lifted01 {q : Nat} {L N : CS} (h : LR q L N) : N 1 = 0 ∨ N 1 = 1 := by
  obtain ⟨-, ds, -, hS⟩ := h
  rcases hS with h1 | h1 | h1 | h1 | h1 | h1
  · exact Or.inl h1.2.1
  · exact Or.inr h1.2.1
  · exact Or.inr h1.2.1
  · exact h1.2.1
  · exact Or.inr h1.2.1
  · exact Or.inr h1.2.1
theorem ll_loop {q nf : Nat} {X : ES} {h : CS} {N G : ES} (hR : XR q nf X h N G) : ∀ (j i : Nat) (acc : Int32), i + j = 16 → ∃ r : Int32, (∀ (K : Int32 → Prop) (Kx : Int32 → Int32 → Prop), (∀ y, Kx r y) → wpl_X0_liftedLines_4 X K Kx (j + 1) acc (nI i)) ∧ ∀ (Z : ES) (K : Int32 → Prop) (Kx : Int32 → Int32 → Prop), (∀ y, Kx r y) → wpl_X5_sumOf_4 (ms Z h N G) 1 K Kx (j + 1) acc (nI i)
  | 0, i, acc, he => by
    have e : i = 16 := by omega
    subst e
    refine ⟨acc, fun K Kx hK => ?_, fun Z K Kx hK => ?_⟩
    · rw [wpl_X0_liftedLines_4]
      exact ky (nI_le (a := 16) (b := 16) (Nat.le_refl _) (by decide)) (hK _)
    · rw [wpl_X5_sumOf_4]
      exact ky (nI_le (a := 16) (b := 16) (Nat.le_refl _) (by decide)) (hK _)
  | j + 1, i, acc, he => by
    have hi : i < 16 := by omega
    have hlt : ¬ (16 : Int32) ≤ nI i := nI_ge (b := 16) hi (by decide)
    have l1 := (hR.2.1 i hi).1.2.1
    rcases lifted01 (hR.2.1 i hi) with e | e
    · obtain ⟨r, a, b⟩ := ll_loop hR j (i + 1) acc (by omega)
      refine ⟨r, fun K Kx hK => ?_, fun Z K Kx hK => ?_⟩
      · rw [wpl_X0_liftedLines_4, lix_nI hi, l1, e]
        refine kn hlt (k00 fun v ev => ?_)
        rw [ev, nI_1]; exact a K Kx hK
      · rw [wpl_X5_sumOf_4, of_1 hi, e]
        refine kn hlt fun v ev v2 ev2 => ?_
        rw [ev, ev2, nI_1, i_p0]; exact b Z K Kx hK
    · obtain ⟨r, a, b⟩ := ll_loop hR j (i + 1) (acc + 1) (by omega)
      refine ⟨r, fun K Kx hK => ?_, fun Z K Kx hK => ?_⟩
      · rw [wpl_X0_liftedLines_4, lix_nI hi, l1, e]
        refine kn hlt (k01 fun v ev v2 ev2 => ?_)
        rw [ev, ev2, nI_1]; exact a K Kx hK
      · rw [wpl_X5_sumOf_4, of_1 hi, e]
        refine kn hlt fun v ev v2 ev2 => ?_
        rw [ev, ev2, nI_1]; exact b Z K Kx hK
theorem i_s0 (x : Int32) : x - 0 = x := by simp
theorem in_out {v : Int32} {lo n : Nat} (lo' hi : Int32) (e1 : nI lo = lo') (e2 : nI (lo + n) = hi) (hb : lo + n < 2 ^ 31) (hn : ∀ j, j ≤ n → ¬ v = nI (lo + j)) (K : Int32 → Prop) (hK : K 0) : wp_X5_in v lo' hi K := by
  rcases in_dec v lo' hi with ⟨a, b, -⟩ | c
  · exfalso
    have a0 : ¬ v < 0 := fun z => a (Int32.lt_of_lt_of_le z (by rw [← e1]; exact nI_pos' (by omega)))
    obtain ⟨j, j1, j2⟩ := nI_of a0
    have c1 : lo ≤ j := by
      have := Int32.not_lt.mp a
      rw [j2, ← e1] at this
      exact (nI_leI (by omega) j1).mp this
    have c2 : j ≤ lo + n := by
      have := Int32.not_lt.mp b
      rw [j2, ← e2] at this
      exact (nI_leI j1 (by omega)).mp this
    exact hn (j - lo) (by omega) (by rw [j2, show lo + (j - lo) = j by omega])
  · exact c K hK
theorem count_sim {q nf o : Nat} {E M : ES} {h : CS} {N G : ES} (hR : XR q nf (vw (o + 1) E) h N G) (p1 : Int32) (hpad : E (o + 54) 1 = M 0 5) : ∃ r : Int32, (∀ K : Int32 → Prop, K r → wp_X4_count o E p1 K) ∧ ∀ K : Int32 → Prop, K r → wp_X5_count (ms M h N G) p1 K := by
  have c0 : vw (o + 1) E 0 7 = h 0 := hR.1.2.2.2.1
  have c1 : vw (o + 1) E 0 5 = nI nf := hR.1.2.1.2.2.2
  have c1' : h 1 = nI nf := hR.1.2.1.2.2.1
  have c2 : vw (o + 1) E 0 6 = h 2 := hR.1.2.2.1.1
  obtain ⟨a9, a90, a91, a92, a93⟩ := hR.1.2.2.2.2.2.1
  obtain ⟨b1, b2, b3, b4, b5, b6⟩ := hR.1.2.2.2.2.2.2.1
  obtain ⟨w0, w1, w2, w3, w4⟩ := hR.1.2.2.2.2.2.2.2.1
  have c9 : vw (o + 1) E 0 9 = h 10 := a93.trans a92.symm
  by_cases k0 : p1 = 0
  · subst k0
    exact ⟨h 0, fun K hK => kn (by decide) (ky rfl (by rw [c0]; exact hK)), fun K hK => in_no (by decide) (k00 (in_no (by decide) (k00 (ky rfl ⟨vpl (n := 0) rfl (by decide), by rw [hd_0]; exact hK⟩))))⟩
  by_cases k1 : p1 = 1
  · subst k1
    exact ⟨h 1, fun K hK => kn (by decide) (kn (by decide) (ky rfl (by rw [c1, ← c1']; exact hK))), fun K hK => in_no (by decide) (k00 (in_no (by decide) (k00 (kn (by decide) (ky rfl ⟨vpl (n := 1) rfl (by decide), by rw [hd_1]; exact hK⟩)))))⟩
  by_cases k2 : p1 = 2
  · subst k2
    exact ⟨h 2, fun K hK => kn (by decide) (kn (by decide) (kn (by decide) (ky rfl (by rw [c2]; exact hK)))), fun K hK => in_no (by decide) (k00 (in_no (by decide) (k00 (kn (by decide) (kn (by decide) (ky rfl ⟨vpl (n := 2) rfl (by decide), by rw [hd_2]; exact hK⟩))))))⟩
  by_cases k3 : p1 = 3
  · subst k3
    obtain ⟨r, a, b⟩ := ff_loop hR nf 0 0 (by omega)
    exact ⟨r, fun K hK => kn (by decide) (kn (by decide) (kn (by decide) (kn (by decide) (ky rfl ⟨nf + 1, a K _ fun _ => hK⟩)))), fun K hK => in_no (by decide) (k00 (in_no (by decide) (k00 (kn (by decide) (kn (by decide) (kn (by decide) (ky rfl ⟨nf + 1, b M _ _ fun _ => hK⟩)))))))⟩
  by_cases k4 : p1 = 4
  · subst k4
    obtain ⟨r, a, b⟩ := fc_loop hR (4 * h 2) nf 0 0 (by omega)
    exact ⟨4 * h 2 - r, fun K hK => kn (by decide) (kn (by decide) (kn (by decide) (kn (by decide) (kn (by decide) (ky rfl (fun v ev => ⟨nf + 1, by rw [ev, c2]; have := a K (fun j _ => K j) (fun _ => hK); rwa [i_s0] at this⟩)))))), fun K hK => in_no (by decide) (k00 (in_no (by decide) (k00 (kn (by decide) (kn (by decide) (kn (by decide) (kn (by decide) (ky rfl ⟨vpl (n := 2) rfl (by decide), nf + 1, b M _ _ fun _ => by rw [hd_2]; exact hK⟩))))))))⟩
  by_cases k5 : p1 = 5
  · subst k5
    obtain ⟨r, a, b⟩ := sm_loop hR 16 0 0 rfl
    exact ⟨r, fun K hK => kn (by decide) (kn (by decide) (kn (by decide) (kn (by decide) (kn (by decide) (kn (by decide) (ky rfl ⟨17, a K _ fun _ => hK⟩)))))), fun K hK => in_no (by decide) (k00 (in_no (by decide) (k00 (kn (by decide) (kn (by decide) (kn (by decide) (kn (by decide) (kn (by decide) (ky rfl ⟨17, b M _ _ fun _ => hK⟩)))))))))⟩
  by_cases k6 : p1 = 6
  · subst k6
    exact ⟨h 10, fun K hK => kn (by decide) (kn (by decide) (kn (by decide) (kn (by decide) (kn (by decide) (kn (by decide) (kn (by decide) (ky rfl (by rw [c9]; exact hK)))))))), fun K hK => in_yes (by decide) (by decide) (k01 ⟨vpl (n := 10) (by decide) (by decide), by rw [show ((10 : Int32) + 6 - 6) = 10 by decide, hd_10]; exact hK⟩)⟩
  by_cases k7 : p1 = 7
  · subst k7
    exact ⟨h 11, fun K hK => kn (by decide) (kn (by decide) (kn (by decide) (kn (by decide) (kn (by decide) (kn (by decide) (kn (by decide) (kn (by decide) (ky rfl (by rw [b1]; exact hK))))))))), fun K hK => in_yes (by decide) (by decide) (k01 ⟨vpl (n := 11) (by decide) (by decide), by rw [show ((10 : Int32) + 7 - 6) = 11 by decide, hd_11]; exact hK⟩)⟩
  by_cases k8 : p1 = 8
  · subst k8
    exact ⟨h 12, fun K hK => kn (by decide) (kn (by decide) (kn (by decide) (kn (by decide) (kn (by decide) (kn (by decide) (kn (by decide) (kn (by decide) (kn (by decide) (ky rfl (by rw [b2]; exact hK)))))))))), fun K hK => in_yes (by decide) (by decide) (k01 ⟨vpl (n := 12) (by decide) (by decide), by rw [show ((10 : Int32) + 8 - 6) = 12 by decide, hd_12]; exact hK⟩)⟩
  by_cases k9 : p1 = 9
  · subst k9
    exact ⟨h 13, fun K hK => kn (by decide) (kn (by decide) (kn (by decide) (kn (by decide) (kn (by decide) (kn (by decide) (kn (by decide) (kn (by decide) (kn (by decide) (kn (by decide) (ky rfl (by rw [b3]; exact hK))))))))))), fun K hK => in_yes (by decide) (by decide) (k01 ⟨vpl (n := 13) (by decide) (by decide), by rw [show ((10 : Int32) + 9 - 6) = 13 by decide, hd_13]; exact hK⟩)⟩
  by_cases k10 : p1 = 10
  · subst k10
    exact ⟨h 14, fun K hK => kn (by decide) (kn (by decide) (kn (by decide) (kn (by decide) (kn (by decide) (kn (by decide) (kn (by decide) (kn (by decide) (kn (by decide) (kn (by decide) (kn (by decide) (ky rfl (by rw [b4]; exact hK)))))))))))), fun K hK => in_yes (by decide) (by decide) (k01 ⟨vpl (n := 14) (by decide) (by decide), by rw [show ((10 : Int32) + 10 - 6) = 14 by decide, hd_14]; exact hK⟩)⟩
  by_cases k11 : p1 = 11
  · subst k11
    exact ⟨h 15, fun K hK => kn (by decide) (kn (by decide) (kn (by decide) (kn (by decide) (kn (by decide) (kn (by decide) (kn (by decide) (kn (by decide) (kn (by decide) (kn (by decide) (kn (by decide) (kn (by decide) (ky rfl (by rw [b5]; exact hK))))))))))))), fun K hK => in_yes (by decide) (by decide) (k01 ⟨vpl (n := 15) (by decide) (by decide), by rw [show ((10 : Int32) + 11 - 6) = 15 by decide, hd_15]; exact hK⟩)⟩
  by_cases k12 : p1 = 12
  · subst k12
    exact ⟨h 16, fun K hK => kn (by decide) (kn (by decide) (kn (by decide) (kn (by decide) (kn (by decide) (kn (by decide) (kn (by decide) (kn (by decide) (kn (by decide) (kn (by decide) (kn (by decide) (kn (by decide) (kn (by decide) (ky rfl (by rw [b6]; exact hK)))))))))))))), fun K hK => in_yes (by decide) (by decide) (k01 ⟨vpl (n := 16) (by decide) (by decide), by rw [show ((10 : Int32) + 12 - 6) = 16 by decide, hd_16]; exact hK⟩)⟩
  by_cases k13 : p1 = 13
  · subst k13
    obtain ⟨r, a, b⟩ := ll_loop hR 16 0 0 rfl
    exact ⟨r, fun K hK => kn (by decide) (kn (by decide) (kn (by decide) (kn (by decide) (kn (by decide) (kn (by decide) (kn (by decide) (kn (by decide) (kn (by decide) (kn (by decide) (kn (by decide) (kn (by decide) (kn (by decide) (kn (by decide) (ky rfl ⟨17, a K _ fun _ => hK⟩)))))))))))))), fun K hK => in_no (by decide) (k00 (in_no (by decide) (k00 (kn (by decide) (kn (by decide) (kn (by decide) (kn (by decide) (kn (by decide) (kn (by decide) (kn (by decide) (kn (by decide) (kn (by decide) (kn (by decide) (kn (by decide) (kn (by decide) (kn (by decide) (ky rfl ⟨17, b M _ _ fun _ => hK⟩)))))))))))))))))⟩
  by_cases k14 : p1 = 14
  · subst k14
    refine ⟨M 0 5, fun K hK => ky rfl (by rw [hpad]; exact hK), fun K hK => in_no (by decide) (k00 (in_no (by decide) (k00 ?_)))⟩
    exact (kn (by decide) (kn (by decide) (kn (by decide) (kn (by decide) (kn (by decide) (kn (by decide) (kn (by decide) (kn (by decide) (kn (by decide) (kn (by decide) (kn (by decide) (kn (by decide) (kn (by decide) (kn (by decide) (ky rfl hK)))))))))))))))
  by_cases k15 : p1 = 15
  · subst k15
    exact ⟨h 5, fun K hK => kn (by decide) (kn (by decide) (kn (by decide) (kn (by decide) (kn (by decide) (kn (by decide) (kn (by decide) (kn (by decide) (kn (by decide) (kn (by decide) (kn (by decide) (kn (by decide) (kn (by decide) (kn (by decide) (kn (by decide) (by rw [show (((15 : Int32)) - 15) = 0 by decide, stg_0, w0]; exact hK))))))))))))))), fun K hK => in_no (by decide) (k00 (in_yes (by decide) (by decide) (k01 (by rw [show (((15 : Int32)) - 15) = 0 by decide, set_0]; exact hK))))⟩
  by_cases k16 : p1 = 16
  · subst k16
    exact ⟨h 6, fun K hK => kn (by decide) (kn (by decide) (kn (by decide) (kn (by decide) (kn (by decide) (kn (by decide) (kn (by decide) (kn (by decide) (kn (by decide) (kn (by decide) (kn (by decide) (kn (by decide) (kn (by decide) (kn (by decide) (kn (by decide) (by rw [show (((16 : Int32)) - 15) = 1 by decide, stg_1, w1]; exact hK))))))))))))))), fun K hK => in_no (by decide) (k00 (in_yes (by decide) (by decide) (k01 (by rw [show (((16 : Int32)) - 15) = 1 by decide, set_1]; exact hK))))⟩
  by_cases k17 : p1 = 17
  · subst k17
    exact ⟨h 7, fun K hK => kn (by decide) (kn (by decide) (kn (by decide) (kn (by decide) (kn (by decide) (kn (by decide) (kn (by decide) (kn (by decide) (kn (by decide) (kn (by decide) (kn (by decide) (kn (by decide) (kn (by decide) (kn (by decide) (kn (by decide) (by rw [show (((17 : Int32)) - 15) = 2 by decide, stg_2, w2]; exact hK))))))))))))))), fun K hK => in_no (by decide) (k00 (in_yes (by decide) (by decide) (k01 (by rw [show (((17 : Int32)) - 15) = 2 by decide, set_2]; exact hK))))⟩
  by_cases k18 : p1 = 18
  · subst k18
    exact ⟨h 8, fun K hK => kn (by decide) (kn (by decide) (kn (by decide) (kn (by decide) (kn (by decide) (kn (by decide) (kn (by decide) (kn (by decide) (kn (by decide) (kn (by decide) (kn (by decide) (kn (by decide) (kn (by decide) (kn (by decide) (kn (by decide) (by rw [show (((18 : Int32)) - 15) = 3 by decide, stg_3, w3]; exact hK))))))))))))))), fun K hK => in_no (by decide) (k00 (in_yes (by decide) (by decide) (k01 (by rw [show (((18 : Int32)) - 15) = 3 by decide, set_3]; exact hK))))⟩
  by_cases k19 : p1 = 19
  · subst k19
    exact ⟨h 9, fun K hK => kn (by decide) (kn (by decide) (kn (by decide) (kn (by decide) (kn (by decide) (kn (by decide) (kn (by decide) (kn (by decide) (kn (by decide) (kn (by decide) (kn (by decide) (kn (by decide) (kn (by decide) (kn (by decide) (kn (by decide) (by rw [show (((19 : Int32)) - 15) = 4 by decide, stg_4, w4]; exact hK))))))))))))))), fun K hK => in_no (by decide) (k00 (in_yes (by decide) (by decide) (k01 (by rw [show (((19 : Int32)) - 15) = 4 by decide, set_4]; exact hK))))⟩
  refine ⟨-2, fun K hK => kn k14 (kn k0 (kn k1 (kn k2 (kn k3 (kn k4 (kn k5 (kn k6 (kn k7 (kn k8 (kn k9 (kn k10 (kn k11 (kn k12 (kn k13 ?_)))))))))))))), fun K hK => in_out (lo := 6) (n := 6) 6 12 (by decide) (by decide) (by decide) ?_ _ (k00 (in_out (lo := 15) (n := 4) 15 19 (by decide) (by decide) (by decide) ?_ _ (k00 (kn k0 (kn k1 (kn k2 (kn k3 (kn k4 (kn k5 (kn k6 (kn k7 (kn k8 (kn k9 (kn k10 (kn k11 (kn k12 (kn k13 (kn k14 hK))))))))))))))))))⟩
  · by_cases s1 : p1 - 15 < 0
    · exact ky s1 hK
    · refine kn s1 (ky ?_ hK)
      apply Int32.not_lt.mp
      intro s2
      obtain ⟨j, j1, j2⟩ := nI_of s1
      have j3 : j < 5 := by
        rw [j2] at s2
        exact (nI_ltI (b := 5) j1 (by decide)).mp s2
      have e : p1 = nI (j + 15) := by
        have : p1 - 15 + 15 = p1 := Int32.sub_add_cancel _ _
        rw [← this, j2]
        exact nI_add j 15
      rcases (by omega : j = 0 ∨ j = 1 ∨ j = 2 ∨ j = 3 ∨ j = 4) with z | z | z | z | z <;> subst z
      · exact k15 e
      · exact k16 e
      · exact k17 e
      · exact k18 e
      · exact k19 e
  · intro j hj e
    rcases (by omega : j = 0 ∨ j = 1 ∨ j = 2 ∨ j = 3 ∨ j = 4 ∨ j = 5 ∨ j = 6) with z | z | z | z | z | z | z <;> subst z
    · exact k6 e
    · exact k7 e
    · exact k8 e
    · exact k9 e
    · exact k10 e
    · exact k11 e
    · exact k12 e
  · intro j hj e
    rcases (by omega : j = 0 ∨ j = 1 ∨ j = 2 ∨ j = 3 ∨ j = 4) with z | z | z | z | z <;> subst z
    · exact k15 e
    · exact k16 e
    · exact k17 e
    · exact k18 e
    · exact k19 e
