-- ===== parking, the time, a tick, ticks =====
theorem S6_up {X : ES} {l a : Nat} {L : CS} (g : S6 (X (6 + l) 0)) (h : S6 (L 0)) : S6 (va_up X a L (6 + l) 0) := by
  by_cases e : 6 + l = a
  · rw [e, vuS]; exact h
  · rw [vuN e]; exact g
theorem park_loop {q nf : Nat} {h : CS} {G : ES} : ∀ (j i : Nat) {X N : ES}, i + j = 16 → XR q nf X h N G → ∃ (X' N' : ES), (∀ (K : ES → Prop) (Kx : Int32 → ES → Prop), Kx (nI 16) X' → wpl_X0_countParked_8 (h 9) K Kx (j + 1) (nI i) X) ∧ (∀ (Z : ES) (K : ES → Prop) (Kx : Int32 → ES → Prop), Kx (nI 16) (ms Z h N' G) → wpl_X5_makeTick_29 K Kx (j + 1) (nI i) (ms Z h N G)) ∧ XR q nf X' h N' G ∧ ∀ l, l < 16 → S6 (X (6 + l) 0) → S6 (X' (6 + l) 0)
  | 0, i, X, N, he, hR => by
    have e : i = 16 := by omega
    subst e
    refine ⟨X, N, fun K Kx hK => ?_, fun Z K Kx hK => ?_, hR, fun _ _ g => g⟩
    · rw [wpl_X0_countParked_8]
      exact ⟨fun _ => hK, fun z => absurd (nI_le (a := 16) (b := 16) (Nat.le_refl _) (by decide)) z⟩
    · rw [wpl_X5_makeTick_29]
      exact ⟨fun _ => hK, fun z => absurd (nI_le (a := 16) (b := 16) (Nat.le_refl _) (by decide)) z⟩
  | j + 1, i, X, N, he, hR => by
    have hi : i < 16 := by omega
    have hlt : ¬ (16 : Int32) ≤ nI i := nI_ge (b := 16) hi (by decide)
    obtain ⟨⟨l0, l1, l2, l3, l5⟩, ds, hD, hS⟩ := hR.2.1 i hi
    have kO : ∀ (L' : CS) k, ¬ k = 6 + i → ¬ k = 0 → va_up X (6 + i) L' k = X k := fun L' k h1 _ => vuN h1
    have kH : ∀ L' : CS, HRr q nf (X 3) (va_up X (6 + i) L' 0) (X 5) h := fun L' => by rw [vuN (by omega)]; exact hR.1
    by_cases e : X (6 + i) 0 = 10
    · have z : N i 0 = 10 := l0.symm.trans e
      simp [LSt, z] at hS
      obtain ⟨s1, rfl, s3, s4⟩ := hS
      have e10 : N i 10 = 0 := hD.2.2.1
      by_cases hp : X (6 + i) 8 + 1 < h 9
      · have hp2 : N i 5 + 1 < h 9 := by rw [← s3]; exact hp
        have R1 : XR q nf (va_up X (6 + i) (upd (X (6 + i)) 8 (X (6 + i) 8 + 1))) h (va_up N i (upd (upd (N i) 5 (N i 5 + 1)) 0 10)) G := by
          refine XR_ln hR hi (Nat.le_refl q) (vuS _ _ _) (kO _) rfl (kH _) ?_ (by simp [updA]) (Or.inl (by simp [updA]))
          exact ⟨by simp [updA, e, l1, l2, l3, l5], [], LD_keep hD (by simp [updA]) (by simp [updA]) (by simp [updA]) (by simp [updA]) (by simp [updA]) (by simp [updA]), by simp [LSt, updA, s1, s3, s4]⟩
        obtain ⟨X', N', a1, b1, c1⟩ := park_loop j (i + 1) (by omega) R1
        refine ⟨X', N', fun K Kx hK => ?_, fun Z K Kx hK => ?_, c1.1, fun l hl g => c1.2 l hl (S6_up g (by simp [S6, updA, e]))⟩
        · rw [wpl_X0_countParked_8, lix_nI hi]
          refine ⟨fun z => absurd z hlt, fun _ => ?_⟩
          simp only [wp_X2_waitParked, e, forall_eq]
          refine ⟨fun _ => ?_, fun z => absurd trivial z⟩
          refine ⟨fun _ => ?_, fun z => absurd (by simpa [updA] using hp) z⟩
          rw [nI_1]; exact a1 K Kx hK
        · rw [wpl_X5_makeTick_29]
          refine ⟨fun z => absurd z hlt, fun _ => ?_⟩
          rw [of_0 hi, z]
          refine ⟨fun _ => ?_, fun z => absurd rfl z⟩
          simp only [of_5 hi, lay_5 hi, lay_0 hi, set_4, vuU, vuS]
          refine ⟨fun _ => ?_, fun z => absurd (by simpa [updA] using hp2) z⟩
          intro v ev
          rw [ev, nI_1]; exact b1 Z K Kx hK
      · have hp2 : ¬ N i 5 + 1 < h 9 := by rw [← s3]; exact hp
        have R1 : XR q nf (va_up X (6 + i) (upd (upd (upd (X (6 + i)) 8 (X (6 + i) 8 + 1)) 0 11) 8 0)) h (va_up N i (upd (upd (N i) 5 (N i 5 + 1)) 0 11)) G := by
          refine XR_ln hR hi (Nat.le_refl q) (vuS _ _ _) (kO _) rfl (kH _) ?_ (by simp [updA]) (Or.inr ⟨s4, by simp [updA]⟩)
          exact ⟨by simp [updA, l1, l2, l3, l5], [], LD_keep hD (by simp [updA]) (by simp [updA]) (by simp [updA]) (by simp [updA]) (by simp [updA]) (by simp [updA]), by simp [LSt, updA, s1, s4]⟩
        obtain ⟨X', N', a1, b1, c1⟩ := park_loop j (i + 1) (by omega) R1
        refine ⟨X', N', fun K Kx hK => ?_, fun Z K Kx hK => ?_, c1.1, fun l hl g => c1.2 l hl (S6_up g (by simp [S6, updA]))⟩
        · rw [wpl_X0_countParked_8, lix_nI hi]
          refine ⟨fun z => absurd z hlt, fun _ => ?_⟩
          simp only [wp_X2_waitParked, e, forall_eq]
          refine ⟨fun _ => ?_, fun z => absurd trivial z⟩
          refine ⟨fun z => absurd (by simpa [updA] using z) hp, fun _ => ?_⟩
          rw [nI_1]; exact a1 K Kx hK
        · rw [wpl_X5_makeTick_29]
          refine ⟨fun z => absurd z hlt, fun _ => ?_⟩
          rw [of_0 hi, z]
          refine ⟨fun _ => ?_, fun z => absurd rfl z⟩
          simp only [of_5 hi, lay_5 hi, lay_0 hi, set_4, vuU, vuS]
          refine ⟨fun z => absurd (by simpa [updA] using z) hp2, fun _ => ?_⟩
          intro v ev
          rw [ev, nI_1]; exact b1 Z K Kx hK
    · have z : ¬ N i 0 = 10 := fun w => e (l0.trans w)
      obtain ⟨X', N', a1, b1, c1⟩ := park_loop j (i + 1) (by omega) hR
      refine ⟨X', N', fun K Kx hK => ?_, fun Z K Kx hK => ?_, c1.1, c1.2⟩
      · rw [wpl_X0_countParked_8, lix_nI hi]
        refine ⟨fun z => absurd z hlt, fun _ => ⟨fun w => absurd w e, fun _ => ?_⟩⟩
        intro X1 e1 v ev
        rw [e1, vuSelf, ev, nI_1]; exact a1 K Kx hK
      · rw [wpl_X5_makeTick_29]
        refine ⟨fun z => absurd z hlt, fun _ => ?_⟩
        rw [of_0 hi]
        refine ⟨fun w => absurd w z, fun _ v ev => ?_⟩
        rw [ev, nI_1]; exact b1 Z K Kx hK
theorem HR_7 {q nf : Nat} {T H S h : CS} (r : HRr q nf T H S h) : HRr q nf T (upd H 7 (H 7 + 1)) S (upd h 0 (h 0 + 1)) := by
  simp only [HRr, updA] at r ⊢; simpa [r.2.2.2.1] using r
/-- the world after something that touches row 0 of X and the head alone -/
theorem XR_hd {q q' nf : Nat} {X : ES} {h h' H' : CS} {N G : ES} (hR : XR q nf X h N G) (hq : q ≤ q') (hH : HRr q' nf (X 3) H' (X 5) h') : XR q' nf (va_up X 0 H') h' N G := by
  obtain ⟨-, r2, r3, r4, r5, r6, r7⟩ := hR
  have ln : ∀ i, va_up X 0 H' (6 + i) = X (6 + i) := fun i => vuN (by omega)
  have fn : ∀ i, va_up X 0 H' (22 + i) = X (22 + i) := fun i => vuN (by omega)
  refine ⟨?_, fun i hi => by rw [ln]; exact LR_mono hq (r2 i hi), fun f hf => by rw [fn]; exact r3 f hf, fun f hf hm => ?_, fun f hf hm => ?_, fun i hi => ?_, fun f a b => by rw [fn]; exact r7 f a b⟩
  · show HRr q' nf (va_up X 0 H' 3) (va_up X 0 H' 0) (va_up X 0 H' 5) h'
    rw [vuS, vuN (by omega), vuN (by omega)]; exact hH
  · rw [fn] at hm ⊢
    obtain ⟨c, c1, c2, c3, c4⟩ := r4 f hf hm
    exact ⟨c, c1, c2, by rw [ln]; exact c3, by rw [ln]; exact c4⟩
  · rw [fn] at hm ⊢
    obtain ⟨c, c1, c2, c3, c4⟩ := r5 f hf hm
    exact ⟨c, c1, c2, by rw [ln]; exact c3, by rw [ln]; exact c4⟩
  · rcases r6 i hi with z | ⟨f, f1, f2, f3⟩
    · exact Or.inl (by rw [ln]; exact z)
    · exact Or.inr ⟨f, f1, by rw [ln]; exact f2, by rw [fn]; exact f3⟩
/-- one tick on both sides -/
def TK (q nf : Nat) (X : ES) (h : CS) (N G : ES) (X' : ES) (h' : CS) (N' G' : ES) : Prop := (∀ (f : Int32) (K : ES → Prop) (Kx : Int32 → ES → Prop) (n : Nat) (i : Int32), ¬ f ≤ i → wpl_X0_pass_2 f K Kx n (i + 1) X' → wpl_X0_pass_2 f K Kx (n + 1) i X) ∧ (∀ (Z : ES) (K : ES → Prop), K (ms Z h' N' G') → wp_X5_makeTick (ms Z h N G) K) ∧ XR q nf X' h' N' G' ∧ (∀ l, l < 16 → go (X (6 + l)) → S6 (X' (6 + l) 0)) ∧ h' 0 = h 0 + 1
theorem sim_tick {q nf : Nat} {X : ES} {h : CS} {N G : ES} (hR : XR q nf X h N G) (hq : q < 2 ^ 30) : ∃ (X' : ES) (h' : CS) (N' G' : ES), TK q nf X h N G X' h' N' G' := by
  obtain ⟨X1, h1, N1, G1, a1, b1, c1, d1, t1⟩ := sim_steps nf 0 (by omega) hR
  obtain ⟨X2, h2, N2, G2, a2, b2, c2, d2, t2⟩ := sim_allot c1 hq
  obtain ⟨X3, N3, a3, b3, c3, d3⟩ := park_loop 16 0 (by omega) c2
  refine ⟨va_up X3 0 (upd (X3 0) 7 (X3 0 7 + 1)), upd h2 0 (h2 0 + 1), N3, G2, fun f K Kx n i hlt hK => ?_, fun Z K hK => ?_, XR_hd c3 (Nat.le_refl q) (HR_7 c3.1), fun l hl g => ?_, ?_⟩
  · rw [wpl_X0_pass_2]
    refine ⟨fun z => absurd z hlt, fun _ => ⟨nf + 1, a1 K _ (a2 _ ?_)⟩⟩
    unfold wp_X0_countParked
    rw [stg_4, c2.1.2.2.2.2.2.2.2.1.2.2.2.2]
    refine ⟨17, a3 _ _ ?_⟩
    intro X4 e4 v ev
    rw [e4, ev]
    exact hK
  · refine ⟨nf + 1, b1 Z K _ (b2 Z _ ⟨17, b3 Z K _ ?_⟩)⟩
    refine ⟨vpl (n := 0) rfl (by decide), vpl (n := 0) rfl (by decide), fun X4 e4 => ?_⟩
    rw [e4, hd_0, hu_0]
    exact hK
  · rw [vuN (by omega)]
    refine d3 l hl ?_
    rw [d2 l hl]
    refine d1 l hl (Or.inl ⟨g, ?_⟩)
    rcases hR.2.2.2.2.2.1 l hl with ⟨-, z⟩ | ⟨f, f1, f2, f3, -⟩
    · exfalso
      rcases g with e | ⟨e, -⟩ <;> rw [e] at z <;> exact absurd z (by decide)
    · exact ⟨f, Nat.zero_le _, Nat.lt_of_not_le fun z => f3 (hR.2.2.2.2.2.2 f z f1), f2⟩
  · have e1 : X2 0 7 = h2 0 := c2.1.2.2.2.1
    have e2 : X 0 7 = h 0 := hR.1.2.2.2.1
    rw [updA, if_pos rfl, ← e1, t2, t1, e2]
/-- n ticks -/
theorem sim_ticks {q nf : Nat} (hq : q < 2 ^ 30) : ∀ (j i n : Nat) {X : ES} {h : CS} {N G : ES}, i + j = n → n < 2 ^ 30 → XR q nf X h N G → ∃ (X' : ES) (h' : CS) (N' G' : ES), (∀ (K : ES → Prop) (Kx : Int32 → ES → Prop), Kx (nI n) X' → wpl_X0_pass_2 (nI n) K Kx (j + 1) (nI i) X) ∧ (∀ (Z : ES) (K : Int32 → ES → Prop) (Kx : Int32 → ES → Prop), Kx (nI n) (ms Z h' N' G') → wpl_X5_tick_32 (nI n) K Kx (j + 1) (nI i) (ms Z h N G)) ∧ XR q nf X' h' N' G' ∧ h' 0 = h 0 + nI j
  | 0, i, n, X, h, N, G, he, hn, hR => by
    have e : i = n := by omega
    subst e
    refine ⟨X, h, N, G, fun K Kx hK => ?_, fun Z K Kx hK => ?_, hR, by rw [nI_0]; simp⟩
    · rw [wpl_X0_pass_2]
      exact ⟨fun _ => hK, fun z => absurd (nI_le (Nat.le_refl _) (by omega)) z⟩
    · rw [wpl_X5_tick_32]
      exact ⟨fun _ => hK, fun z => absurd (nI_le (Nat.le_refl _) (by omega)) z⟩
  | j + 1, i, n, X, h, N, G, he, hn, hR => by
    have hlt : ¬ nI n ≤ nI i := nI_ge (by omega) (by omega)
    obtain ⟨X1, h1, N1, G1, a1, b1, c1⟩ := sim_tick hR hq
    obtain ⟨X', h', N', G', a2, b2, c2⟩ := sim_ticks hq j (i + 1) n (by omega) hn c1.1
    refine ⟨X', h', N', G', fun K Kx hK => a1 _ K Kx _ _ hlt ?_, fun Z K Kx hK => ?_, c2.1, by rw [c2.2, c1.2.2, Int32.add_assoc, show (1 : Int32) = nI 1 from rfl, nI_add, Nat.add_comm]⟩
    · rw [nI_1]; exact a2 K Kx hK
    · rw [wpl_X5_tick_32]
      refine ⟨fun z => absurd z hlt, fun _ => b1 Z _ ?_⟩
      intro v ev
      rw [ev, nI_1]; exact b2 Z K Kx hK
theorem TK_pass1 {q nf : Nat} {X X' : ES} {h h' : CS} {N N' G G' : ES} (hT : TK q nf X h N G X' h' N' G') (K : ES → Prop) (hK : K X') : wp_X0_pass X 1 K := by
  refine ⟨2, hT.1 1 K _ 1 0 (by decide) ?_⟩
  rw [wpl_X0_pass_2]
  exact ⟨fun _ => hK, fun z => absurd (by decide) z⟩
