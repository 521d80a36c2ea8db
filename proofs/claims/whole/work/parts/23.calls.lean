-- ===== calls that change the exchange =====
theorem inc_yes {v lo hi : Int32} {K : Int32 → Prop} (h1 : ¬ v < lo) (h2 : ¬ hi < v) (hK : K 1) : wp_X4_isWithin v lo hi K := in_yes h1 h2 hK
theorem inc_out {v : Int32} {lo n : Nat} (lo' hi : Int32) (e1 : nI lo = lo') (e2 : nI (lo + n) = hi) (hb : lo + n < 2 ^ 31) (hn : ∀ j, j ≤ n → ¬ v = nI (lo + j)) (K : Int32 → Prop) (hK : K 0) : wp_X4_isWithin v lo' hi K := in_out lo' hi e1 e2 hb hn K hK
/-- the time is at most the last one -/
def tmO (h : CS) : Prop := ∃ t : Nat, t ≤ 100000 ∧ h 0 = nI t
def SimX (q' o : Nat) (E : ES) (wc : (Int32 → ES → Prop) → Prop) (wm : ES → (Int32 → ES → Prop) → Prop) : Prop := ∃ (r : Int32) (X' : ES) (nf : Nat) (h' : CS) (N' G' : ES), (∀ K : Int32 → ES → Prop, K r (put 26 (o + 1) X' E) → wc K) ∧ (∀ (Z : ES) (K : Int32 → ES → Prop), K r (ms Z h' N' G') → wm Z K) ∧ XR q' nf X' h' N' G' ∧ tmO h'
theorem simX {q' o nf : Nat} {E : ES} {wc : (Int32 → ES → Prop) → Prop} {wm : ES → (Int32 → ES → Prop) → Prop} (r : Int32) {X' : ES} {h' : CS} {N' G' : ES} (a : ∀ K : Int32 → ES → Prop, K r (put 26 (o + 1) X' E) → wc K) (b : ∀ (Z : ES) (K : Int32 → ES → Prop), K r (ms Z h' N' G') → wm Z K) (c : XR q' nf X' h' N' G') (d : tmO h') : SimX q' o E wc wm := ⟨r, X', nf, h', N', G', a, b, c, d⟩
/-- nothing changes -/
theorem simX0 {q q' o nf : Nat} {E : ES} {h : CS} {N G : ES} {wc : (Int32 → ES → Prop) → Prop} {wm : ES → (Int32 → ES → Prop) → Prop} (hR : XR q nf (vw (o + 1) E) h N G) (ht : tmO h) (hq : q ≤ q') (r : Int32) (a : ∀ K : Int32 → ES → Prop, K r E → wc K) (b : ∀ (Z : ES) (K : Int32 → ES → Prop), K r (ms Z h N G) → wm Z K) : SimX q' o E wc wm := ⟨r, vw (o + 1) E, nf, h, N, G, fun K hK => a K (by rw [putVw] at hK; exact hK), b, XR_q hq hR, ht⟩
theorem x_lift {q nf o : Nat} {E : ES} {h : CS} {N G : ES} (hR : XR q nf (vw (o + 1) E) h N G) (htm : tmO h) (p : Int32) : SimX (q + 1) o E (wp_X4_lift o E p) (fun Z => wp_X5_lift (ms Z h N G) p) := by
  rcases line_dec p with ⟨i, hi, rfl⟩ | hno
  · obtain ⟨r, X', h', N', G', a, b, c, d⟩ := sim_lift hR hi
    refine simX r (fun K hK => line_y hi (k01 (a _ ?_))) b c (by rw [tmO, d]; exact htm)
    intro X6 e6
    rw [e6]; exact hK
  · exact simX0 hR htm (Nat.le_succ q) (-1) (fun K hK => hno _ (k00 hK)) (fun Z K hK => hno _ (k00 hK))
theorem x_hang {q nf o : Nat} {E : ES} {h : CS} {N G : ES} (hR : XR q nf (vw (o + 1) E) h N G) (htm : tmO h) (p : Int32) : SimX q o E (wp_X4_hang o E p) (fun Z => wp_X5_hang (ms Z h N G) p) := by
  rcases line_dec p with ⟨i, hi, rfl⟩ | hno
  · obtain ⟨r, X', h', N', G', a, b, c, d⟩ := sim_hang hR hi
    refine simX r (fun K hK => line_y hi (k01 (a _ ?_))) b c (by rw [tmO, d]; exact htm)
    intro X6 e6
    rw [e6]; exact hK
  · exact simX0 hR htm (Nat.le_refl q) (-1) (fun K hK => hno _ (k00 hK)) (fun Z K hK => hno _ (k00 hK))
theorem x_dial {q nf o : Nat} {E : ES} {h : CS} {N G : ES} (hR : XR q nf (vw (o + 1) E) h N G) (htm : tmO h) (p v : Int32) : SimX q o E (wp_X4_dial o E p v) (fun Z => wp_X5_dial (ms Z h N G) p v) := by
  rcases line_dec p with ⟨i, hi, rfl⟩ | hno
  · rcases inc_dec v 0 9 with ⟨a1, a2, hy, hyc⟩ | ⟨hn, hnc⟩
    · obtain ⟨d, d1, rfl⟩ := nI_of2 (M := 9) (n := 9) (by decide) a1 (Int32.not_lt.mp a2)
      obtain ⟨r, X', h', N', G', a, b, c, dt⟩ := sim_dial hR hi d1
      refine simX r (fun K hK => line_y hi (k01 (hyc _ (k01 (a _ ?_))))) b c (by rw [tmO, dt]; exact htm)
      intro X6 e6
      rw [e6]; exact hK
    · exact simX0 hR htm (Nat.le_refl q) (-2) (fun K hK => line_y hi (k01 (hnc _ (k00 hK)))) (fun Z K hK => line_y hi (k01 (hn _ (k00 hK))))
  · exact simX0 hR htm (Nat.le_refl q) (-1) (fun K hK => hno _ (k00 hK)) (fun Z K hK => hno _ (k00 hK))
theorem x_tick {q nf o : Nat} {E : ES} {h : CS} {N G : ES} (hR : XR q nf (vw (o + 1) E) h N G) (htm : tmO h) (hq : q < 2 ^ 30) (p : Int32) : SimX q o E (wp_X4_tick o E p) (fun Z => wp_X5_tick (ms Z h N G) p) := by
  have e7 : vw (o + 1) E 0 7 = h 0 := hR.1.2.2.2.1
  rcases inc_dec p 1 1000 with ⟨a1, a2, hy, hyc⟩ | ⟨hn, hnc⟩
  · obtain ⟨n, n1, rfl⟩ := nI_of2 (M := 1000) (n := 1000) (by decide) (fun z => a1 (Int32.lt_of_lt_of_le z (by decide))) (Int32.not_lt.mp a2)
    by_cases ht : h 0 + nI n ≤ 100000
    · obtain ⟨X', h', N', G', a, b, c, dt⟩ := sim_ticks hq n 0 n (by omega) (by omega) hR
      have e7' : X' 0 7 = h' 0 := c.1.2.2.2.1
      refine simX (h' 0) (fun K hK => hyc _ (k01 ⟨fun z => absurd (by rw [e7] at z; exact z) (Int32.not_lt.mpr ht), fun _ => k01 ⟨n + 1, a _ _ ?_⟩⟩)) (fun Z K hK => hy _ (k01 ⟨vpl (n := 0) rfl (by decide), ?_⟩)) c (by
        obtain ⟨τ, τ1, τ2⟩ := htm
        rw [τ2, nI_add] at ht dt
        exact ⟨τ + n, (nI_leI (b := 100000) (by omega) (by decide)).mp ht, dt⟩)
      · intro X6 e6
        have e : (X6 (o + 1)) 7 = h' 0 := by
          rw [e6]
          have : put 26 (o + 1) X' E (o + 1 + 0) = X' 0 := putAt (by omega)
          rw [Nat.add_zero] at this
          rw [this]; exact e7'
        rw [e, e6]; exact hK
      · rw [hd_0]
        refine ky ht ⟨n + 1, b Z K _ ⟨vpl (n := 0) rfl (by decide), ?_⟩⟩
        rw [hd_0]; exact hK
    · refine simX0 hR htm (Nat.le_refl q) (-5) (fun K hK => hyc _ (k01 ⟨fun _ => k00 hK, fun z => absurd ?_ z⟩)) (fun Z K hK => hy _ (k01 ⟨vpl (n := 0) rfl (by decide), ?_⟩))
      · rw [e7]; exact Int32.not_le.mp ht
      · rw [hd_0]; exact kn ht hK
  · exact simX0 hR htm (Nat.le_refl q) (-2) (fun K hK => hnc _ (k00 hK)) (fun Z K hK => hn _ (k00 hK))
-- ===== the settings =====
def mstA : CS := fun k => if k = 2 ∨ k = 3 then 100 else 200
def wp_X4_set (o : Nat) (E0 : ES) (p1 : Int32) (p2 : Int32) (K : Int32 → ES → Prop) : Prop := wp_X4_isWithin p1 0 4 (fun r_1 => (r_1 = 0 → (K (-2) E0)) ∧ (¬ r_1 = 0 → (wp_X4_isWithin p2 1 (mstA p1.toNatClampNeg) (fun r_4 => (r_4 = 0 → (K (-2) E0)) ∧ (¬ r_4 = 0 → (wp_X0_changeSetting (vw (o + 1) E0) p1 p2 (fun r_7 Y_8 => ∀ X_9 : ES, X_9 = put 26 (o + 1) Y_8 E0 → (K r_7 X_9))))))))
theorem XR_top {q nf : Nat} {X X' : ES} {h h' : CS} {N G : ES} (hR : XR q nf X h N G) (eO : ∀ k, 6 ≤ k → X' k = X k) (hH : HR q nf X' h') : XR q nf X' h' N G := by
  obtain ⟨-, r2, r3, r4, r5, r6, r7⟩ := hR
  have ln : ∀ i, X' (6 + i) = X (6 + i) := fun i => eO _ (by omega)
  have fn : ∀ f, X' (22 + f) = X (22 + f) := fun f => eO _ (by omega)
  refine ⟨hH, fun i hi => ?_, fun f hf => ?_, fun f hf => ?_, fun f hf => ?_, fun i hi => ?_, fun f h1 h2 => ?_⟩
  · rw [ln]; exact r2 i hi
  · rw [fn]; exact r3 f hf
  · have := r4 f hf; simp only [FC, ln, fn] at this ⊢; exact this
  · have := r5 f hf; simp only [FT, ln, fn] at this ⊢; exact this
  · have := r6 i hi; simp only [LC, ln, fn] at this ⊢; exact this
  · rw [fn]; exact r7 f h1 h2
theorem x_set0 {q nf o : Nat} {E : ES} {h : CS} {N G : ES} (hR : XR q nf (vw (o + 1) E) h N G) (htm : tmO h) (p2 : Int32) : SimX q o E (wp_X4_set o E 0 p2) (fun Z => wp_X5_set (ms Z h N G) 0 p2) := by
  have m1 : mstA (0 : Int32).toNatClampNeg = 200 := by decide
  have wj : vw (o + 1) E 5 0 = h 5 := hR.1.2.2.2.2.2.2.2.1.1
  rcases inc_dec p2 1 200 with ⟨a1, a2, hy, hyc⟩ | ⟨hn, hnc⟩
  · obtain ⟨v, v1, rfl⟩ := nI_of2 (M := 200) (n := 200) (by decide) (fun z => a1 (Int32.lt_of_lt_of_le z (by decide))) (Int32.not_lt.mp a2)
    have v0 : 1 ≤ v := by
      rcases Nat.eq_zero_or_pos v with z | z
      · subst z; exact absurd (by decide) a1
      · exact z
    refine simX (h 5) (X' := va_up (vw (o + 1) E) 5 (upd (vw (o + 1) E 5) 0 (nI v))) (h' := upd h 5 (nI v)) (fun K hK => inc_yes (by decide) (by decide) (k01 ?_)) (fun Z K hK => ?_) (nf := nf) (N' := N) (G' := G) (XR_top hR (fun k hk => vuN (by omega)) ?_) (by obtain ⟨τ, τ1, τ2⟩ := htm; exact ⟨τ, τ1, by simp [updA, τ2]⟩)
    · rw [m1]
      refine hyc _ (k01 ?_)
      simp only [wp_X0_changeSetting]
      rw [stg_0]
      refine kn (by decide) (kn (by decide) ⟨pk_in 0 5 (by decide) (by decide), fun X4 e4 X5 e5 => ?_⟩)
      rw [e5, e4, wj]
      exact hK
    · refine ky rfl (hy _ (k01 ?_))
      rw [set_0, show ((5 : Int32) + 0) = 5 by decide, hu_5]
      exact ⟨vpl (n := 5) rfl (by decide), fun X5 e5 => by rw [e5]; exact hK⟩
    · have rg : rng (nI v) := ⟨v, v0, by omega, rfl⟩
      have hH := hR.1
      show HRr q nf (va_up (vw (o + 1) E) 5 (upd (vw (o + 1) E 5) 0 (nI v)) 3) (va_up (vw (o + 1) E) 5 (upd (vw (o + 1) E 5) 0 (nI v)) 0) (va_up (vw (o + 1) E) 5 (upd (vw (o + 1) E 5) 0 (nI v)) 5) (upd h 5 (nI v))
      rw [vuS, vuN (by decide : (3 : Nat) ≠ 5), vuN (by decide : (0 : Nat) ≠ 5)]
      simp only [HR, HRr, updA] at hH ⊢
      obtain ⟨x1, x2, x3, x4, x5, x6, x7, ⟨s0, s1, s2, s3, s4⟩, t0, t1, t2, t3, t4⟩ := hH
      refine ⟨x1, x2, x3, x4, x5, x6, x7, ⟨?_, ?_, ?_, ?_, ?_⟩, ?_, ?_, ?_, ?_, ?_⟩ <;> simp [*]
  · refine simX0 hR htm (Nat.le_refl q) (-2) (fun K hK => inc_yes (by decide) (by decide) (k01 ?_)) (fun Z K hK => ?_)
    · rw [m1]; exact hnc _ (k00 hK)
    · exact ky rfl (hn _ (k00 hK))
theorem x_set1 {q nf o : Nat} {E : ES} {h : CS} {N G : ES} (hR : XR q nf (vw (o + 1) E) h N G) (htm : tmO h) (p2 : Int32) : SimX q o E (wp_X4_set o E 1 p2) (fun Z => wp_X5_set (ms Z h N G) 1 p2) := by
  have m1 : mstA (1 : Int32).toNatClampNeg = 200 := by decide
  have wj : vw (o + 1) E 5 1 = h 6 := hR.1.2.2.2.2.2.2.2.1.2.1
  rcases inc_dec p2 1 200 with ⟨a1, a2, hy, hyc⟩ | ⟨hn, hnc⟩
  · obtain ⟨v, v1, rfl⟩ := nI_of2 (M := 200) (n := 200) (by decide) (fun z => a1 (Int32.lt_of_lt_of_le z (by decide))) (Int32.not_lt.mp a2)
    have v0 : 1 ≤ v := by
      rcases Nat.eq_zero_or_pos v with z | z
      · subst z; exact absurd (by decide) a1
      · exact z
    refine simX (h 6) (X' := va_up (vw (o + 1) E) 5 (upd (vw (o + 1) E 5) 1 (nI v))) (h' := upd h 6 (nI v)) (fun K hK => inc_yes (by decide) (by decide) (k01 ?_)) (fun Z K hK => ?_) (nf := nf) (N' := N) (G' := G) (XR_top hR (fun k hk => vuN (by omega)) ?_) (by obtain ⟨τ, τ1, τ2⟩ := htm; exact ⟨τ, τ1, by simp [updA, τ2]⟩)
    · rw [m1]
      refine hyc _ (k01 ?_)
      simp only [wp_X0_changeSetting]
      rw [stg_1]
      refine kn (by decide) (kn (by decide) ⟨pk_in 1 5 (by decide) (by decide), fun X4 e4 X5 e5 => ?_⟩)
      rw [e5, e4, wj]
      exact hK
    · refine kn (by decide) (ky rfl (hy _ (k01 ?_)))
      rw [set_1, show ((5 : Int32) + 1) = 6 by decide, hu_6]
      exact ⟨vpl (n := 6) rfl (by decide), fun X5 e5 => by rw [e5]; exact hK⟩
    · have rg : rng (nI v) := ⟨v, v0, by omega, rfl⟩
      have hH := hR.1
      show HRr q nf (va_up (vw (o + 1) E) 5 (upd (vw (o + 1) E 5) 1 (nI v)) 3) (va_up (vw (o + 1) E) 5 (upd (vw (o + 1) E 5) 1 (nI v)) 0) (va_up (vw (o + 1) E) 5 (upd (vw (o + 1) E 5) 1 (nI v)) 5) (upd h 6 (nI v))
      rw [vuS, vuN (by decide : (3 : Nat) ≠ 5), vuN (by decide : (0 : Nat) ≠ 5)]
      simp only [HR, HRr, updA] at hH ⊢
      obtain ⟨x1, x2, x3, x4, x5, x6, x7, ⟨s0, s1, s2, s3, s4⟩, t0, t1, t2, t3, t4⟩ := hH
      refine ⟨x1, x2, x3, x4, x5, x6, x7, ⟨?_, ?_, ?_, ?_, ?_⟩, ?_, ?_, ?_, ?_, ?_⟩ <;> simp [*]
  · refine simX0 hR htm (Nat.le_refl q) (-2) (fun K hK => inc_yes (by decide) (by decide) (k01 ?_)) (fun Z K hK => ?_)
    · rw [m1]; exact hnc _ (k00 hK)
    · exact kn (by decide) (ky rfl (hn _ (k00 hK)))
theorem x_set2 {q nf o : Nat} {E : ES} {h : CS} {N G : ES} (hR : XR q nf (vw (o + 1) E) h N G) (htm : tmO h) (p2 : Int32) : SimX q o E (wp_X4_set o E 2 p2) (fun Z => wp_X5_set (ms Z h N G) 2 p2) := by
  have m1 : mstA (2 : Int32).toNatClampNeg = 100 := by decide
  have wj : vw (o + 1) E 5 2 = h 7 := hR.1.2.2.2.2.2.2.2.1.2.2.1
  rcases inc_dec p2 1 100 with ⟨a1, a2, hy, hyc⟩ | ⟨hn, hnc⟩
  · obtain ⟨v, v1, rfl⟩ := nI_of2 (M := 100) (n := 100) (by decide) (fun z => a1 (Int32.lt_of_lt_of_le z (by decide))) (Int32.not_lt.mp a2)
    have v0 : 1 ≤ v := by
      rcases Nat.eq_zero_or_pos v with z | z
      · subst z; exact absurd (by decide) a1
      · exact z
    refine simX (h 7) (X' := va_up (vw (o + 1) E) 5 (upd (vw (o + 1) E 5) 2 (nI v))) (h' := upd h 7 (nI v)) (fun K hK => inc_yes (by decide) (by decide) (k01 ?_)) (fun Z K hK => ?_) (nf := nf) (N' := N) (G' := G) (XR_top hR (fun k hk => vuN (by omega)) ?_) (by obtain ⟨τ, τ1, τ2⟩ := htm; exact ⟨τ, τ1, by simp [updA, τ2]⟩)
    · rw [m1]
      refine hyc _ (k01 ?_)
      simp only [wp_X0_changeSetting]
      rw [stg_2]
      refine kn (by decide) (kn (by decide) ⟨pk_in 2 5 (by decide) (by decide), fun X4 e4 X5 e5 => ?_⟩)
      rw [e5, e4, wj]
      exact hK
    · refine kn (by decide) (kn (by decide) (ky rfl (hy _ (k01 ?_))))
      rw [set_2, show ((5 : Int32) + 2) = 7 by decide, hu_7]
      exact ⟨vpl (n := 7) rfl (by decide), fun X5 e5 => by rw [e5]; exact hK⟩
    · have rg : rng (nI v) := ⟨v, v0, by omega, rfl⟩
      have hH := hR.1
      show HRr q nf (va_up (vw (o + 1) E) 5 (upd (vw (o + 1) E 5) 2 (nI v)) 3) (va_up (vw (o + 1) E) 5 (upd (vw (o + 1) E 5) 2 (nI v)) 0) (va_up (vw (o + 1) E) 5 (upd (vw (o + 1) E 5) 2 (nI v)) 5) (upd h 7 (nI v))
      rw [vuS, vuN (by decide : (3 : Nat) ≠ 5), vuN (by decide : (0 : Nat) ≠ 5)]
      simp only [HR, HRr, updA] at hH ⊢
      obtain ⟨x1, x2, x3, x4, x5, x6, x7, ⟨s0, s1, s2, s3, s4⟩, t0, t1, t2, t3, t4⟩ := hH
      refine ⟨x1, x2, x3, x4, x5, x6, x7, ⟨?_, ?_, ?_, ?_, ?_⟩, ?_, ?_, ?_, ?_, ?_⟩ <;> simp [*]
  · refine simX0 hR htm (Nat.le_refl q) (-2) (fun K hK => inc_yes (by decide) (by decide) (k01 ?_)) (fun Z K hK => ?_)
    · rw [m1]; exact hnc _ (k00 hK)
    · exact kn (by decide) (kn (by decide) (ky rfl (hn _ (k00 hK))))
theorem x_set3 {q nf o : Nat} {E : ES} {h : CS} {N G : ES} (hR : XR q nf (vw (o + 1) E) h N G) (htm : tmO h) (p2 : Int32) : SimX q o E (wp_X4_set o E 3 p2) (fun Z => wp_X5_set (ms Z h N G) 3 p2) := by
  have m1 : mstA (3 : Int32).toNatClampNeg = 100 := by decide
  have wj : vw (o + 1) E 5 3 = h 8 := hR.1.2.2.2.2.2.2.2.1.2.2.2.1
  rcases inc_dec p2 1 100 with ⟨a1, a2, hy, hyc⟩ | ⟨hn, hnc⟩
  · obtain ⟨v, v1, rfl⟩ := nI_of2 (M := 100) (n := 100) (by decide) (fun z => a1 (Int32.lt_of_lt_of_le z (by decide))) (Int32.not_lt.mp a2)
    have v0 : 1 ≤ v := by
      rcases Nat.eq_zero_or_pos v with z | z
      · subst z; exact absurd (by decide) a1
      · exact z
    refine simX (h 8) (X' := va_up (vw (o + 1) E) 5 (upd (vw (o + 1) E 5) 3 (nI v))) (h' := upd h 8 (nI v)) (fun K hK => inc_yes (by decide) (by decide) (k01 ?_)) (fun Z K hK => ?_) (nf := nf) (N' := N) (G' := G) (XR_top hR (fun k hk => vuN (by omega)) ?_) (by obtain ⟨τ, τ1, τ2⟩ := htm; exact ⟨τ, τ1, by simp [updA, τ2]⟩)
    · rw [m1]
      refine hyc _ (k01 ?_)
      simp only [wp_X0_changeSetting]
      rw [stg_3]
      refine kn (by decide) (kn (by decide) ⟨pk_in 3 5 (by decide) (by decide), fun X4 e4 X5 e5 => ?_⟩)
      rw [e5, e4, wj]
      exact hK
    · refine kn (by decide) (kn (by decide) (kn (by decide) (ky rfl (hy _ (k01 ?_)))))
      rw [set_3, show ((5 : Int32) + 3) = 8 by decide, hu_8]
      exact ⟨vpl (n := 8) rfl (by decide), fun X5 e5 => by rw [e5]; exact hK⟩
    · have rg : rng (nI v) := ⟨v, v0, by omega, rfl⟩
      have hH := hR.1
      show HRr q nf (va_up (vw (o + 1) E) 5 (upd (vw (o + 1) E 5) 3 (nI v)) 3) (va_up (vw (o + 1) E) 5 (upd (vw (o + 1) E 5) 3 (nI v)) 0) (va_up (vw (o + 1) E) 5 (upd (vw (o + 1) E 5) 3 (nI v)) 5) (upd h 8 (nI v))
      rw [vuS, vuN (by decide : (3 : Nat) ≠ 5), vuN (by decide : (0 : Nat) ≠ 5)]
      simp only [HR, HRr, updA] at hH ⊢
      obtain ⟨x1, x2, x3, x4, x5, x6, x7, ⟨s0, s1, s2, s3, s4⟩, t0, t1, t2, t3, t4⟩ := hH
      refine ⟨x1, x2, x3, x4, x5, x6, x7, ⟨?_, ?_, ?_, ?_, ?_⟩, ?_, ?_, ?_, ?_, ?_⟩ <;> simp [*]
  · refine simX0 hR htm (Nat.le_refl q) (-2) (fun K hK => inc_yes (by decide) (by decide) (k01 ?_)) (fun Z K hK => ?_)
    · rw [m1]; exact hnc _ (k00 hK)
    · exact kn (by decide) (kn (by decide) (kn (by decide) (ky rfl (hn _ (k00 hK)))))
theorem x_set4 {q nf o : Nat} {E : ES} {h : CS} {N G : ES} (hR : XR q nf (vw (o + 1) E) h N G) (htm : tmO h) (p2 : Int32) : SimX q o E (wp_X4_set o E 4 p2) (fun Z => wp_X5_set (ms Z h N G) 4 p2) := by
  have m1 : mstA (4 : Int32).toNatClampNeg = 200 := by decide
  have wj : vw (o + 1) E 5 4 = h 9 := hR.1.2.2.2.2.2.2.2.1.2.2.2.2
  rcases inc_dec p2 1 200 with ⟨a1, a2, hy, hyc⟩ | ⟨hn, hnc⟩
  · obtain ⟨v, v1, rfl⟩ := nI_of2 (M := 200) (n := 200) (by decide) (fun z => a1 (Int32.lt_of_lt_of_le z (by decide))) (Int32.not_lt.mp a2)
    have v0 : 1 ≤ v := by
      rcases Nat.eq_zero_or_pos v with z | z
      · subst z; exact absurd (by decide) a1
      · exact z
    refine simX (h 9) (X' := va_up (vw (o + 1) E) 5 (upd (vw (o + 1) E 5) 4 (nI v))) (h' := upd h 9 (nI v)) (fun K hK => inc_yes (by decide) (by decide) (k01 ?_)) (fun Z K hK => ?_) (nf := nf) (N' := N) (G' := G) (XR_top hR (fun k hk => vuN (by omega)) ?_) (by obtain ⟨τ, τ1, τ2⟩ := htm; exact ⟨τ, τ1, by simp [updA, τ2]⟩)
    · rw [m1]
      refine hyc _ (k01 ?_)
      simp only [wp_X0_changeSetting]
      rw [stg_4]
      refine kn (by decide) (kn (by decide) ⟨pk_in 4 5 (by decide) (by decide), fun X4 e4 X5 e5 => ?_⟩)
      rw [e5, e4, wj]
      exact hK
    · refine kn (by decide) (kn (by decide) (kn (by decide) (kn (by decide) (ky rfl (hy _ (k01 ?_))))))
      rw [set_4, show ((5 : Int32) + 4) = 9 by decide, hu_9]
      exact ⟨vpl (n := 9) rfl (by decide), fun X5 e5 => by rw [e5]; exact hK⟩
    · have rg : rng (nI v) := ⟨v, v0, by omega, rfl⟩
      have hH := hR.1
      show HRr q nf (va_up (vw (o + 1) E) 5 (upd (vw (o + 1) E 5) 4 (nI v)) 3) (va_up (vw (o + 1) E) 5 (upd (vw (o + 1) E 5) 4 (nI v)) 0) (va_up (vw (o + 1) E) 5 (upd (vw (o + 1) E 5) 4 (nI v)) 5) (upd h 9 (nI v))
      rw [vuS, vuN (by decide : (3 : Nat) ≠ 5), vuN (by decide : (0 : Nat) ≠ 5)]
      simp only [HR, HRr, updA] at hH ⊢
      obtain ⟨x1, x2, x3, x4, x5, x6, x7, ⟨s0, s1, s2, s3, s4⟩, t0, t1, t2, t3, t4⟩ := hH
      refine ⟨x1, x2, x3, x4, x5, x6, x7, ⟨?_, ?_, ?_, ?_, ?_⟩, ?_, ?_, ?_, ?_, ?_⟩ <;> simp [*]
  · refine simX0 hR htm (Nat.le_refl q) (-2) (fun K hK => inc_yes (by decide) (by decide) (k01 ?_)) (fun Z K hK => ?_)
    · rw [m1]; exact hnc _ (k00 hK)
    · exact kn (by decide) (kn (by decide) (kn (by decide) (kn (by decide) (ky rfl (hn _ (k00 hK))))))
theorem x_set {q nf o : Nat} {E : ES} {h : CS} {N G : ES} (hR : XR q nf (vw (o + 1) E) h N G) (htm : tmO h) (p1 p2 : Int32) : SimX q o E (wp_X4_set o E p1 p2) (fun Z => wp_X5_set (ms Z h N G) p1 p2) := by
  by_cases k0 : p1 = 0
  · subst k0; exact x_set0 hR htm p2
  by_cases k1 : p1 = 1
  · subst k1; exact x_set1 hR htm p2
  by_cases k2 : p1 = 2
  · subst k2; exact x_set2 hR htm p2
  by_cases k3 : p1 = 3
  · subst k3; exact x_set3 hR htm p2
  by_cases k4 : p1 = 4
  · subst k4; exact x_set4 hR htm p2
  refine simX0 hR htm (Nat.le_refl q) (-2) (fun K hK => inc_out (lo := 0) (n := 4) 0 4 (by decide) (by decide) (by decide) ?_ _ (k00 hK)) (fun Z K hK => kn k0 (kn k1 (kn k2 (kn k3 (kn k4 (k00 hK))))))
  intro j hj e
  rcases (by omega : j = 0 ∨ j = 1 ∨ j = 2 ∨ j = 3 ∨ j = 4) with z | z | z | z | z <;> subst z
  · exact k0 e
  · exact k1 e
  · exact k2 e
  · exact k3 e
  · exact k4 e
