-- ===== a whole tick =====
/-- a line alone changes: its pointer stays; its state stays, or nobody points to it -/
theorem XR_ln {q q' nf i0 : Nat} {X X' : ES} {h h' : CS} {N N' G : ES} {L' N1 : CS} (hR : XR q nf X h N G) (hi0 : i0 < 16) (hq : q ≤ q') (eL : X' (6 + i0) = L') (eO : ∀ k, ¬ k = 6 + i0 → ¬ k = 0 → X' k = X k) (eN : N' = va_up N i0 N1) (hH : HRr q' nf (X 3) (X' 0) (X 5) h') (hL : LR q' L' N1) (hp : L' 6 = X (6 + i0) 6) (hs : L' 0 = X (6 + i0) 0 ∨ (X (6 + i0) 6 = -6 ∧ (L' 0 = 0 ∨ L' 0 = 1 ∨ L' 0 = 10 ∨ L' 0 = 11))) : XR q' nf X' h' N' G := by
  obtain ⟨r1, r2, r3, r4, r5, r6, r7⟩ := hR
  subst eL eN
  have ln : ∀ i, i < 16 → ¬ i = i0 → X' (6 + i) = X (6 + i) := fun i _ e => eO _ (by omega) (by omega)
  have fn : ∀ j, j < 4 → X' (22 + j) = X (22 + j) := fun j _ => eO _ (by omega) (by omega)
  have st : ∀ i f, i < 16 → f < 4 → X (6 + i) 6 = nI f → X' (6 + i) 6 = nI f ∧ X' (6 + i) 0 = X (6 + i) 0 := by
    intro i f hi hf hpt
    by_cases e : i = i0
    · subst e
      refine ⟨hp.trans hpt, ?_⟩
      rcases hs with z | ⟨z, -⟩
      · exact z
      · exact absurd (hpt.symm.trans z) (nI_neg (by omega))
    · rw [ln i hi e]; exact ⟨hpt, rfl⟩
  refine ⟨?_, fun i hi => ?_, fun j hj => ?_, fun j hj hm => ?_, fun j hj hm => ?_, fun i hi => ?_, fun j h1 h2 => ?_⟩
  · show HRr q' nf (X' 3) (X' 0) (X' 5) h'
    rw [eO 3 (by omega) (by omega), eO 5 (by omega) (by omega)]
    exact hH
  · by_cases e : i = i0
    · subst e; rw [vuS]; exact hL
    · rw [ln i hi e, vuN e]; exact LR_mono hq (r2 i hi)
  · rw [fn j hj]; exact r3 j hj
  · rw [fn j hj] at hm ⊢
    obtain ⟨c, c1, c2, c3, c4⟩ := r4 j hj hm
    obtain ⟨s1, s2⟩ := st c j c1 hj c3
    exact ⟨c, c1, c2, s1, by rw [s2]; exact c4⟩
  · rw [fn j hj] at hm ⊢
    obtain ⟨c, c1, c2, c3, c4⟩ := r5 j hj hm
    obtain ⟨s1, s2⟩ := st c j c1 hj c3
    exact ⟨c, c1, c2, s1, by rw [s2]; exact c4⟩
  · rcases r6 i hi with ⟨h1, h2⟩ | ⟨f, h1, h2, h3⟩
    · left
      by_cases e : i = i0
      · subst e
        refine ⟨hp.trans h1, ?_⟩
        rcases hs with z | ⟨-, z⟩
        · rw [z]; exact h2
        · exact z
      · rw [ln i hi e]; exact ⟨h1, h2⟩
    · right
      obtain ⟨s1, s2⟩ := st i f hi h1 h2
      exact ⟨f, h1, s1, by rw [fn f h1]; exact h3⟩
  · rw [fn j h2]; exact r7 j h1 h2
/-- what the steps from finder i on do to lines that have a tone or dial -/
def StA (X X' : ES) (i nf : Nat) : Prop := ∀ l, l < 16 → ((go (X (6 + l)) ∧ ∃ f, i ≤ f ∧ f < nf ∧ X (6 + l) 6 = nI f) ∨ (S6 (X (6 + l) 0) ∧ (X (6 + l) 6 = -6 ∨ ∃ f, f < i ∧ X (6 + l) 6 = nI f))) → S6 (X' (6 + l) 0)
theorem go_n0 {L : CS} (h : go L) : ¬ L 0 = 0 := by
  rcases h with e | ⟨e, -⟩ <;> rw [e] <;> decide
theorem S6_n0 {x : Int32} (h : S6 x) : ¬ x = 0 := by
  rcases h with e | e | e | e | e | e <;> rw [e] <;> decide
theorem StA_step {X X1 X' : ES} {i nf : Nat} (hS : StP X X1 i) (hi : i < nf) (h4 : nf ≤ 4) (hA : StA X1 X' (i + 1) nf) : StA X X' i nf := by
  intro l hl h
  apply hA l hl
  rcases h with ⟨g, f, f1, f2, f3⟩ | ⟨g, g1⟩
  · by_cases e : f = i
    · subst e
      obtain ⟨a, b⟩ := hS.2.1 l hl f3 g
      refine Or.inr ⟨a, ?_⟩
      rcases b with b | b
      · exact Or.inr ⟨f, by omega, b⟩
      · exact Or.inl b
    · have np : ¬ X (6 + l) 6 = nI i := fun z => e (nI_inj (by omega) (by omega) (f3.symm.trans z))
      rw [hS.1 l hl np (go_n0 g)]
      exact Or.inl ⟨g, f, by omega, f2, f3⟩
  · have np : ¬ X (6 + l) 6 = nI i := fun z => by
      rcases g1 with y | ⟨f, f1, y⟩
      · exact nI_neg (by omega) (z.symm.trans y)
      · have := nI_inj (by omega) (by omega) (y.symm.trans z)
        omega
    rw [hS.1 l hl np (S6_n0 g)]
    refine Or.inr ⟨g, ?_⟩
    rcases g1 with y | ⟨f, f1, y⟩
    · exact Or.inl y
    · exact Or.inr ⟨f, by omega, y⟩
/-- all finders take their steps -/
theorem sim_steps {q nf : Nat} : ∀ (j i : Nat) {X : ES} {h : CS} {N G : ES}, i + j = nf → XR q nf X h N G → ∃ (X' : ES) (h' : CS) (N' G' : ES), (∀ (K : ES → Prop) (Kx : Int32 → ES → Prop), Kx (nI nf) X' → wpl_X0_pass_9 K Kx (j + 1) (nI i) X) ∧ (∀ (Z : ES) (K : ES → Prop) (Kx : Int32 → ES → Prop), Kx (nI nf) (ms Z h' N' G') → wpl_X5_makeTick_2 K Kx (j + 1) (nI i) (ms Z h N G)) ∧ XR q nf X' h' N' G' ∧ StA X X' i nf ∧ X' 0 7 = X 0 7
  | 0, i, X, h, N, G, he, hR => by
    have h4 : nf ≤ 4 := hR.1.2.1.2.1
    have e : i = nf := by omega
    subst e
    refine ⟨X, h, N, G, fun K Kx hK => ?_, fun Z K Kx hK => ?_, hR, fun l hl h => ?_, rfl⟩
    · rw [wpl_X0_pass_9, hR.1.2.1.2.2.2]
      exact ⟨fun _ => hK, fun z => absurd (nI_le (Nat.le_refl _) (by omega)) z⟩
    · rw [wpl_X5_makeTick_2, hd_1, hR.1.2.1.2.2.1]
      exact ⟨vpl (n := 1) rfl (by decide), fun _ => hK, fun z => absurd (nI_le (Nat.le_refl _) (by omega)) z⟩
    · rcases h with ⟨-, f, f1, f2, -⟩ | ⟨g, -⟩
      · exact absurd f1 (by omega)
      · exact g
  | j + 1, i, X, h, N, G, he, hR => by
    have h4 : nf ≤ 4 := hR.1.2.1.2.1
    have hlt : ¬ nI nf ≤ nI i := nI_ge (by omega) (by omega)
    obtain ⟨X1, h1, N1, G1, a1, b1, c1⟩ := sim_step (f := i) hR (by omega)
    obtain ⟨X', h', N', G', a2, b2, c2⟩ := sim_steps j (i + 1) (by omega) c1.1
    refine ⟨X', h', N', G', fun K Kx hK => ?_, fun Z K Kx hK => ?_, c2.1, StA_step c1.2 (by omega) h4 c2.2.1, c2.2.2.trans c1.2.2.2⟩
    · rw [wpl_X0_pass_9, hR.1.2.1.2.2.2, fix_nI (by omega)]
      refine ⟨fun z => absurd z hlt, fun _ => a1 _ ?_⟩
      intro v ev
      rw [ev, nI_1]
      exact a2 K Kx hK
    · rw [wpl_X5_makeTick_2, hd_1, hR.1.2.1.2.2.1]
      refine ⟨vpl (n := 1) rfl (by decide), fun z => absurd z hlt, fun _ => b1 Z _ ?_⟩
      intro v ev
      rw [ev, nI_1]
      exact b2 Z K Kx hK
/-- the model's search for a line's own finder -/
theorem fo_loop {q nf : Nat} {X : ES} {h : CS} {N G : ES} (hR : XR q nf X h N G) (x : Int32) : ∀ j i : Nat, i + j = nf → (∀ k, k < i → ¬ (¬ X (22 + k) 0 = 0 ∧ X (22 + k) 2 = x)) → ∃ r : Int32, ((r = -6 ∧ ∀ k, k < nf → ¬ (¬ X (22 + k) 0 = 0 ∧ X (22 + k) 2 = x)) ∨ ∃ k, k < nf ∧ r = nI k ∧ ¬ X (22 + k) 0 = 0 ∧ X (22 + k) 2 = x) ∧ ∀ (Z N2 : ES) (K Kx : Int32 → Prop), (∀ y, K (-6) → Kx y) → K r → wpl_X5_finderOf_2 (ms Z h N2 G) x K Kx (j + 1) (nI i)
  | 0, i, he, hn => by
    have h4 : nf ≤ 4 := hR.1.2.1.2.1
    have e : i = nf := by omega
    subst e
    refine ⟨-6, Or.inl ⟨rfl, hn⟩, fun Z N2 K Kx hx hK => ?_⟩
    rw [wpl_X5_finderOf_2, hd_1, hR.1.2.1.2.2.1]
    exact ⟨vpl (n := 1) rfl (by decide), fun _ => hx _ hK, fun z => absurd (nI_le (Nat.le_refl _) (by omega)) z⟩
  | j + 1, i, he, hn => by
    have h4 : nf ≤ 4 := hR.1.2.1.2.1
    have hi : i < 4 := by omega
    have hlt : ¬ nI nf ≤ nI i := nI_ge (by omega) (by omega)
    have g := (hR.2.2.1 i hi).1
    by_cases hh : ¬ X (22 + i) 0 = 0 ∧ X (22 + i) 2 = x
    · refine ⟨nI i, Or.inr ⟨i, by omega, rfl, hh⟩, fun Z N2 K Kx hx hK => ?_⟩
      rw [wpl_X5_finderOf_2, hd_1, hR.1.2.1.2.2.1, ofF_0 hi, ofF_2 hi, ← g.1, ← g.2.2.1]
      exact ⟨vpl (n := 1) rfl (by decide), fun z => absurd z hlt, fun _ => ⟨fun z => absurd z hh.1, fun _ => ⟨fun _ => hK, fun z => absurd hh.2 z⟩⟩⟩
    · obtain ⟨r, r1, r2⟩ := fo_loop hR x j (i + 1) (by omega) (fun k hk => by
        by_cases e : k = i
        · subst e; exact hh
        · exact hn k (by omega))
      refine ⟨r, r1, fun Z N2 K Kx hx hK => ?_⟩
      have nxt := r2 Z N2 K Kx hx hK
      rw [wpl_X5_finderOf_2, hd_1, hR.1.2.1.2.2.1, ofF_0 hi, ofF_2 hi, ← g.1, ← g.2.2.1]
      refine ⟨vpl (n := 1) rfl (by decide), fun z => absurd z hlt, fun _ => ⟨fun _ v ev => by rw [ev, nI_1]; exact nxt, fun z => ⟨fun y => absurd ⟨z, y⟩ hh, fun _ v ev => by rw [ev, nI_1]; exact nxt⟩⟩⟩
/-- the model's search for the finder that calls a line -/
theorem ft_loop {q nf : Nat} {X : ES} {h : CS} {N G : ES} (hR : XR q nf X h N G) (x : Int32) : ∀ j i : Nat, i + j = nf → (∀ k, k < i → ¬ ((X (22 + k) 0 = 7 ∨ X (22 + k) 0 = 8) ∧ X (22 + k) 9 = x)) → ∃ r : Int32, ((r = -6 ∧ ∀ k, k < nf → ¬ ((X (22 + k) 0 = 7 ∨ X (22 + k) 0 = 8) ∧ X (22 + k) 9 = x)) ∨ ∃ k, k < nf ∧ r = nI k ∧ (X (22 + k) 0 = 7 ∨ X (22 + k) 0 = 8) ∧ X (22 + k) 9 = x) ∧ ∀ (Z N2 : ES) (K Kx : Int32 → Prop), (∀ y, K (-6) → Kx y) → K r → wpl_X5_finderTo_2 (ms Z h N2 G) x K Kx (j + 1) (nI i)
  | 0, i, he, hn => by
    have h4 : nf ≤ 4 := hR.1.2.1.2.1
    have e : i = nf := by omega
    subst e
    refine ⟨-6, Or.inl ⟨rfl, hn⟩, fun Z N2 K Kx hx hK => ?_⟩
    rw [wpl_X5_finderTo_2, hd_1, hR.1.2.1.2.2.1]
    exact ⟨vpl (n := 1) rfl (by decide), fun _ => hx _ hK, fun z => absurd (nI_le (Nat.le_refl _) (by omega)) z⟩
  | j + 1, i, he, hn => by
    have h4 : nf ≤ 4 := hR.1.2.1.2.1
    have hi : i < 4 := by omega
    have hlt : ¬ nI nf ≤ nI i := nI_ge (by omega) (by omega)
    have g := (hR.2.2.1 i hi).1
    have hm := FM_modes (hR.2.2.1 i hi).2.2
    by_cases h78 : X (22 + i) 0 = 7 ∨ X (22 + i) 0 = 8
    · have iny : ∀ K : Int32 → Prop, K 1 → wp_X5_in (X (22 + i) 0) 7 8 K := by
        intro K hK
        rcases h78 with e | e <;> exact in_yes (by rw [e]; decide) (by rw [e]; decide) hK
      by_cases hx9 : X (22 + i) 9 = x
      · refine ⟨nI i, Or.inr ⟨i, by omega, rfl, h78, hx9⟩, fun Z N2 K Kx hx hK => ?_⟩
        rw [wpl_X5_finderTo_2, hd_1, hR.1.2.1.2.2.1, ofF_0 hi, ofF_9 hi, ← g.1, ← g.2.2.2.2.2.2.2.2]
        exact ⟨vpl (n := 1) rfl (by decide), fun z => absurd z hlt, fun _ => iny _ ⟨fun z => absurd z (by decide), fun _ => ⟨fun _ => hK, fun z => absurd hx9 z⟩⟩⟩
      · obtain ⟨r, r1, r2⟩ := ft_loop hR x j (i + 1) (by omega) (fun k hk => by
          by_cases e : k = i
          · subst e; exact fun z => hx9 z.2
          · exact hn k (by omega))
        refine ⟨r, r1, fun Z N2 K Kx hx hK => ?_⟩
        have nxt := r2 Z N2 K Kx hx hK
        rw [wpl_X5_finderTo_2, hd_1, hR.1.2.1.2.2.1, ofF_0 hi, ofF_9 hi, ← g.1, ← g.2.2.2.2.2.2.2.2]
        exact ⟨vpl (n := 1) rfl (by decide), fun z => absurd z hlt, fun _ => iny _ ⟨fun z => absurd z (by decide), fun _ => ⟨fun z => absurd z hx9, fun _ v ev => by rw [ev, nI_1]; exact nxt⟩⟩⟩
    · have inn : ∀ K : Int32 → Prop, K 0 → wp_X5_in (X (22 + i) 0) 7 8 K := by
        intro K hK
        rcases hm with e | e | e | e | e | e | e | e | e | e
        · exact in_no (by rw [e]; decide) hK
        · exact in_no (by rw [e]; decide) hK
        · exact in_no (by rw [e]; decide) hK
        · exact in_no (by rw [e]; decide) hK
        · exact in_no (by rw [e]; decide) hK
        · exact in_no (by rw [e]; decide) hK
        · exact in_no (by rw [e]; decide) hK
        · exact absurd (Or.inl e) h78
        · exact absurd (Or.inr e) h78
        · exact in_no (by rw [e]; decide) hK
      obtain ⟨r, r1, r2⟩ := ft_loop hR x j (i + 1) (by omega) (fun k hk => by
        by_cases e : k = i
        · subst e; exact fun z => h78 z.1
        · exact hn k (by omega))
      refine ⟨r, r1, fun Z N2 K Kx hx hK => ?_⟩
      have nxt := r2 Z N2 K Kx hx hK
      rw [wpl_X5_finderTo_2, hd_1, hR.1.2.1.2.2.1, ofF_0 hi, ofF_9 hi, ← g.1, ← g.2.2.2.2.2.2.2.2]
      exact ⟨vpl (n := 1) rfl (by decide), fun z => absurd z hlt, fun _ => inn _ ⟨fun _ v ev => by rw [ev, nI_1]; exact nxt, fun z => absurd rfl z⟩⟩
/-- the states of a line -/
theorem smt_ne {m st : Int32} (h : smt m st) : ¬ st = 5 ∧ ¬ st = 7 ∧ ¬ st = 0 ∧ ¬ st = 10 ∧ ¬ st = 11 := by
  rcases h with ⟨-, e⟩ | ⟨-, e⟩ | ⟨-, e⟩ | ⟨-, e⟩ | ⟨-, e⟩ | ⟨-, e | e⟩ <;> rw [e] <;> decide
theorem fo_ptr {q nf i : Nat} {X : ES} {h : CS} {N G : ES} (hR : XR q nf X h N G) (hi : i < 16) (h5 : ¬ X (6 + i) 0 = 5) (h7 : ¬ X (6 + i) 0 = 7) (Z N2 : ES) (K : Int32 → Prop) (hK : K (X (6 + i) 6)) : wp_X5_finderOf (ms Z h N2 G) (nI i) K := by
  have h4 : nf ≤ 4 := hR.1.2.1.2.1
  obtain ⟨r, r1, r2⟩ := fo_loop hR (nI i) nf 0 (by omega) (fun k hk => absurd hk (by omega))
  have e : r = X (6 + i) 6 := by
    rcases r1 with ⟨e, hn⟩ | ⟨k, hk, e, e0, e2⟩
    · rcases hR.2.2.2.2.2.1 i hi with ⟨z, -⟩ | ⟨f, f1, f2, f3, f4⟩
      · rw [e, z]
      · exfalso
        have hf : f < nf := Nat.lt_of_not_le fun z => f3 (hR.2.2.2.2.2.2 f z f1)
        rcases f4 with f4 | ⟨f4, f5⟩
        · exact hn f hf ⟨f3, f4⟩
        · obtain ⟨t, t1, t2, t3, t4⟩ := hR.2.2.2.2.1 f f1 f4
          have et := nI_inj (by omega) (by omega) (f5.symm.trans t2)
          subst et
          rcases t4 with ⟨-, t4⟩ | ⟨-, t4⟩
          · exact h5 t4
          · exact h7 t4
    · obtain ⟨c, c1, c2, c3, -⟩ := hR.2.2.2.1 k (by omega) e0
      have ec := nI_inj (by omega) (by omega) (e2.symm.trans c2)
      subst ec
      rw [e, c3]
  subst e
  exact ⟨nf + 1, r2 Z N2 K _ (fun _ z => z) hK⟩
theorem ft_ptr {q nf i : Nat} {X : ES} {h : CS} {N G : ES} (hR : XR q nf X h N G) (hi : i < 16) (h57 : X (6 + i) 0 = 5 ∨ X (6 + i) 0 = 7) (Z N2 : ES) (K : Int32 → Prop) (hK : K (X (6 + i) 6)) : wp_X5_finderTo (ms Z h N2 G) (nI i) K := by
  have h4 : nf ≤ 4 := hR.1.2.1.2.1
  obtain ⟨r, r1, r2⟩ := ft_loop hR (nI i) nf 0 (by omega) (fun k hk => absurd hk (by omega))
  have e : r = X (6 + i) 6 := by
    rcases r1 with ⟨e, hn⟩ | ⟨k, hk, e, e0, e2⟩
    · exfalso
      rcases hR.2.2.2.2.2.1 i hi with ⟨-, z⟩ | ⟨f, f1, f2, f3, f4⟩
      · rcases h57 with y | y <;> rw [y] at z <;> exact absurd z (by decide)
      · have hf : f < nf := Nat.lt_of_not_le fun z => f3 (hR.2.2.2.2.2.2 f z f1)
        rcases f4 with f4 | f4
        · obtain ⟨c, c1, c2, c3, c4⟩ := hR.2.2.2.1 f f1 f3
          have ec := nI_inj (by omega) (by omega) (f4.symm.trans c2)
          subst ec
          have := smt_ne c4
          rcases h57 with y | y
          · exact this.1 y
          · exact this.2.1 y
        · exact hn f hf f4
    · obtain ⟨t, t1, t2, t3, -⟩ := hR.2.2.2.2.1 k (by omega) e0
      have et := nI_inj (by omega) (by omega) (e2.symm.trans t2)
      subst et
      rw [e, t3]
  subst e
  exact ⟨nf + 1, r2 Z N2 K _ (fun _ z => z) hK⟩
