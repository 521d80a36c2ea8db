-- ===== the relation of the class's exchange (X: 26 cells) and the model's row (head h, lines N, finders G) =====
def packL : List Nat → Nat
  | [] => 0
  | v :: r => v + 16 * packL r
/-- a finder's mode fits its caller's state -/
def smt (m st : Int32) : Prop := (m = 1 ∧ st = 1) ∨ (m = 2 ∧ st = 2) ∨ ((m = 3 ∨ m = 4 ∨ m = 5 ∨ m = 6) ∧ st = 3) ∨ (m = 7 ∧ st = 4) ∨ (m = 8 ∧ st = 6) ∨ (m = 9 ∧ (st = 8 ∨ st = 9))
def lvl (x : Int32) : Prop := ∃ l : Nat, 1 ≤ l ∧ l ≤ 4 ∧ x = nI l
/-- what a finder's cell holds, by its mode; S: the model's STEPS -/
def FM (F : CS) (S : Int32) : Prop :=
  (F 0 = 0 ∧ F 2 = -6 ∧ F 3 = 0 ∧ F 4 = -6 ∧ F 5 = 0 ∧ F 6 = 0 ∧ F 7 = 0 ∧ F 8 = 0 ∧ F 9 = -6) ∨
  (F 0 = 1 ∧ F 3 = 0 ∧ F 4 = -6 ∧ F 5 = 0 ∧ F 6 = 0 ∧ F 7 = 0 ∧ F 8 = 0 ∧ F 9 = -6) ∨
  (F 0 = 2 ∧ F 3 = 0 ∧ F 4 = -6 ∧ F 5 = 0 ∧ F 6 = 0 ∧ F 8 = 0 ∧ F 9 = -6) ∨
  (F 0 = 3 ∧ (∃ a p : Nat, F 3 = nI a ∧ F 5 = nI p ∧ 1 ≤ p ∧ a + p ≤ 10) ∧ F 4 = -6 ∧ F 6 = 0 ∧ F 7 = 0 ∧ F 8 = 0 ∧ F 9 = -6) ∨
  (F 0 = 4 ∧ lvl (F 3) ∧ F 5 = 0 ∧ F 6 = 0 ∧ F 7 = 0 ∧ F 8 = 0 ∧ F 9 = -6) ∨
  (F 0 = 5 ∧ lvl (F 3) ∧ F 5 = 0 ∧ F 6 = 0 ∧ F 8 = 0 ∧ F 9 = -6) ∨
  (F 0 = 6 ∧ lvl (F 3) ∧ (∃ a p : Nat, F 6 = nI a ∧ F 5 = nI p ∧ 1 ≤ p ∧ a + p ≤ 10 ∧ S = nI (a + p)) ∧ F 7 = 0 ∧ F 8 = 0 ∧ F 9 = -6) ∨
  (F 0 = 7 ∧ F 5 = 0 ∧ F 8 = 0) ∨
  (F 0 = 8 ∧ F 5 = 0) ∨
  (F 0 = 9 ∧ F 4 = -6 ∧ F 5 = 0 ∧ F 8 = 0 ∧ F 9 = -6)
def FR (F G : CS) : Prop := (F 0 = G 0 ∧ F 1 = G 1 ∧ F 2 = G 2 ∧ F 3 = G 3 ∧ F 4 = G 4 ∧ F 5 = G 5 ∧ F 7 = G 7 ∧ F 8 = G 8 ∧ F 9 = G 9) ∧ (∃ p : Nat, p < 16 ∧ F 1 = nI p) ∧ FM F (G 6)
def LSt (q : Nat) (L N : CS) (ds : List Nat) : Prop :=
  (N 0 = 0 ∧ N 1 = 0 ∧ ds = [] ∧ L 8 = 0 ∧ L 6 = -6) ∨
  (N 0 = 1 ∧ N 1 = 1 ∧ ds = [] ∧ L 8 = 0 ∧ ∃ j : Nat, j < q ∧ N 4 = nI j ∧ L 7 = nI (j + 1)) ∨
  ((N 0 = 2 ∨ N 0 = 3 ∨ N 0 = 4 ∨ N 0 = 6 ∨ N 0 = 8 ∨ N 0 = 9) ∧ N 1 = 1 ∧ L 8 = 0) ∨
  ((N 0 = 5 ∨ N 0 = 7) ∧ (N 1 = 0 ∨ N 1 = 1) ∧ ds = [] ∧ L 8 = 0) ∨
  (N 0 = 10 ∧ N 1 = 1 ∧ ds = [] ∧ L 8 = N 5 ∧ L 6 = -6) ∨
  (N 0 = 11 ∧ N 1 = 1 ∧ ds = [] ∧ L 8 = 0 ∧ L 6 = -6)
def LD (L N : CS) (ds : List Nat) : Prop := ds.length ≤ 4 ∧ (∀ v ∈ ds, v ≤ 9) ∧ N 10 = nI ds.length ∧ (∀ k v, ds[k]? = some v → N (6 + k) = nI v) ∧ L 4 = nI (packL ds)
def LR (q : Nat) (L N : CS) : Prop := (L 0 = N 0 ∧ L 1 = N 1 ∧ L 2 = N 2 ∧ L 3 = N 3 ∧ L 5 = N 10) ∧ ∃ ds : List Nat, LD L N ds ∧ LSt q L N ds
def FC (X : ES) (f : Nat) : Prop := ¬ X (22 + f) 0 = 0 → ∃ c : Nat, c < 16 ∧ X (22 + f) 2 = nI c ∧ X (6 + c) 6 = nI f ∧ smt (X (22 + f) 0) (X (6 + c) 0)
def FT (X : ES) (f : Nat) : Prop := (X (22 + f) 0 = 7 ∨ X (22 + f) 0 = 8) → ∃ t : Nat, t < 16 ∧ X (22 + f) 9 = nI t ∧ X (6 + t) 6 = nI f ∧ ((X (22 + f) 0 = 7 ∧ X (6 + t) 0 = 5) ∨ (X (22 + f) 0 = 8 ∧ X (6 + t) 0 = 7))
def LC (X : ES) (i : Nat) : Prop := (X (6 + i) 6 = -6 ∧ (X (6 + i) 0 = 0 ∨ X (6 + i) 0 = 1 ∨ X (6 + i) 0 = 10 ∨ X (6 + i) 0 = 11)) ∨ ∃ f : Nat, f < 4 ∧ X (6 + i) 6 = nI f ∧ ¬ X (22 + f) 0 = 0 ∧ (X (22 + f) 2 = nI i ∨ ((X (22 + f) 0 = 7 ∨ X (22 + f) 0 = 8) ∧ X (22 + f) 9 = nI i))
def rng (x : Int32) : Prop := ∃ v : Nat, 1 ≤ v ∧ v ≤ 200 ∧ x = nI v
def HRr (q nf : Nat) (T H S h : CS) : Prop := T 0 = 0 ∧ (1 ≤ nf ∧ nf ≤ 4 ∧ h 1 = nI nf ∧ H 5 = nI nf) ∧ (H 6 = h 2 ∧ ∃ nc : Nat, 1 ≤ nc ∧ nc ≤ 3 ∧ h 2 = nI nc) ∧ H 7 = h 0 ∧ ((h 3 = -6 ∧ H 8 = -1) ∨ ∃ j : Nat, j < nf ∧ h 3 = nI j ∧ H 8 = nI j) ∧ (∃ a : Nat, a ≤ q ∧ h 4 = nI a ∧ h 10 = nI a ∧ H 9 = nI a) ∧ (H 10 = h 11 ∧ H 11 = h 12 ∧ H 12 = h 13 ∧ H 13 = h 14 ∧ H 14 = h 15 ∧ H 15 = h 16) ∧ (S 0 = h 5 ∧ S 1 = h 6 ∧ S 2 = h 7 ∧ S 3 = h 8 ∧ S 4 = h 9) ∧ rng (h 5) ∧ rng (h 6) ∧ rng (h 7) ∧ rng (h 8) ∧ rng (h 9)
def HR (q nf : Nat) (X : ES) (h : CS) : Prop := HRr q nf (X 3) (X 0) (X 5) h
def XR (q nf : Nat) (X : ES) (h : CS) (N G : ES) : Prop := HR q nf X h ∧ (∀ i, i < 16 → LR q (X (6 + i)) (N i)) ∧ (∀ f, f < 4 → FR (X (22 + f)) (G f)) ∧ (∀ f, f < 4 → FC X f) ∧ (∀ f, f < 4 → FT X f) ∧ (∀ i, i < 16 → LC X i) ∧ ∀ f, nf ≤ f → f < 4 → X (22 + f) 0 = 0
theorem nI_inj {a b : Nat} (ha : a < 2 ^ 31) (hb : b < 2 ^ 31) (h : nI a = nI b) : a = b := (nI_eq ha hb).mp h
theorem nI_neg {a : Nat} (ha : a < 2 ^ 31) : ¬ nI a = -6 := fun h => by
  have h1 := nI_pos' ha
  rw [h] at h1
  exact absurd h1 (by decide)
theorem LSt_mono {q q' : Nat} {L N : CS} {ds : List Nat} (hq : q ≤ q') (h : LSt q L N ds) : LSt q' L N ds := by
  rcases h with h | h | h | h | h | h
  · exact Or.inl h
  · obtain ⟨a, b, c, d, j, e, f⟩ := h
    exact Or.inr (Or.inl ⟨a, b, c, d, j, by omega, f⟩)
  · exact Or.inr (Or.inr (Or.inl h))
  · exact Or.inr (Or.inr (Or.inr (Or.inl h)))
  · exact Or.inr (Or.inr (Or.inr (Or.inr (Or.inl h))))
  · exact Or.inr (Or.inr (Or.inr (Or.inr (Or.inr h))))
theorem LR_mono {q q' : Nat} {L N : CS} (hq : q ≤ q') (h : LR q L N) : LR q' L N := by
  obtain ⟨a, ds, b, c⟩ := h
  exact ⟨a, ds, b, LSt_mono hq c⟩
/-- one finder and some lines change; the others don't point to it -/
theorem XR_gen {q q' nf f : Nat} {X X' : ES} {h h' : CS} {N N' G G' : ES} (hR : XR q nf X h N G) (hf : f < 4) (hq : q ≤ q') (hH : HR q' nf X' h') (hfo : ∀ j, j < 4 → j ≠ f → X' (22 + j) = X (22 + j) ∧ G' j = G j) (hF : FR (X' (22 + f)) (G' f)) (hnf : nf ≤ f → X' (22 + f) 0 = 0) (hFC : FC X' f) (hFT : FT X' f)
    (hl : ∀ i, i < 16 → (X' (6 + i) = X (6 + i) ∧ N' i = N i ∧ ¬ X (6 + i) 6 = nI f) ∨ ((X (6 + i) 6 = nI f ∨ X (6 + i) 6 = -6) ∧ LR q' (X' (6 + i)) (N' i) ∧ LC X' i)) : XR q' nf X' h' N' G' := by
  obtain ⟨-, r2, r3, r4, r5, r6, r7⟩ := hR
  have other : ∀ j, j < 4 → j ≠ f → ∀ c, c < 16 → X (6 + c) 6 = nI j → X' (6 + c) = X (6 + c) := by
    intro j hj hjf c hc hp
    rcases hl c hc with ⟨e, -⟩ | ⟨e | e, -⟩
    · exact e
    · exact absurd (nI_inj (by omega) (by omega) (hp.symm.trans e)) hjf
    · exact absurd (hp.symm.trans e) (nI_neg (by omega))
  refine ⟨hH, fun i hi => ?_, fun j hj => ?_, fun j hj => ?_, fun j hj => ?_, fun i hi => ?_, fun j h1 h2 => ?_⟩
  · rcases hl i hi with ⟨e1, e2, -⟩ | ⟨-, e, -⟩
    · rw [e1, e2]; exact LR_mono hq (r2 i hi)
    · exact e
  · by_cases e : j = f
    · subst e; exact hF
    · rw [(hfo j hj e).1, (hfo j hj e).2]; exact r3 j hj
  · by_cases e : j = f
    · subst e; exact hFC
    · intro hm
      rw [(hfo j hj e).1] at hm
      obtain ⟨c, h1, h2, h3, h4⟩ := r4 j hj hm
      have ec := other j hj e c h1 h3
      exact ⟨c, h1, by rw [(hfo j hj e).1]; exact h2, by rw [ec]; exact h3, by rw [ec, (hfo j hj e).1]; exact h4⟩
  · by_cases e : j = f
    · subst e; exact hFT
    · intro hm
      rw [(hfo j hj e).1] at hm
      obtain ⟨c, h1, h2, h3, h4⟩ := r5 j hj hm
      have ec := other j hj e c h1 h3
      exact ⟨c, h1, by rw [(hfo j hj e).1]; exact h2, by rw [ec]; exact h3, by rw [ec, (hfo j hj e).1]; exact h4⟩
  · rcases hl i hi with ⟨e1, e2, e3⟩ | ⟨-, -, e⟩
    · rcases r6 i hi with h1 | ⟨j, h1, h2, h3, h4⟩
      · exact Or.inl (by rw [e1]; exact h1)
      · have e : j ≠ f := fun e => e3 (e ▸ h2)
        exact Or.inr ⟨j, h1, by rw [e1]; exact h2, by rw [(hfo j h1 e).1]; exact h3, by rw [(hfo j h1 e).1]; exact h4⟩
    · exact e
  · by_cases e : j = f
    · subst e; exact hnf h1
    · rw [(hfo j h2 e).1]; exact r7 j h1 h2
/-- who points to a finder -/
theorem XR_ptr {q nf : Nat} {X : ES} {h : CS} {N G : ES} (hR : XR q nf X h N G) {f i : Nat} (hf : f < 4) (hi : i < 16) (hp : X (6 + i) 6 = nI f) : ¬ X (22 + f) 0 = 0 ∧ (X (22 + f) 2 = nI i ∨ ((X (22 + f) 0 = 7 ∨ X (22 + f) 0 = 8) ∧ X (22 + f) 9 = nI i)) := by
  rcases hR.2.2.2.2.2.1 i hi with ⟨h1, -⟩ | ⟨j, h1, h2, h3, h4⟩
  · exact absurd (hp.symm.trans h1) (nI_neg (by omega))
  · have e := nI_inj (by omega) (by omega) (h2.symm.trans hp)
    subst e
    exact ⟨h3, h4⟩
/-- a step of a finder that has a caller c alone -/
theorem XR_one {q nf f c : Nat} {X X' : ES} {h h' : CS} {N N' G G' : ES} (hR : XR q nf X h N G) (hf : f < nf) (hc : c < 16) (hm0 : ¬ X (22 + f) 0 = 0) (hm7 : ¬ X (22 + f) 0 = 7) (hm8 : ¬ X (22 + f) 0 = 8) (hcf : X (22 + f) 2 = nI c) (hH : HR q nf X' h') (hfo : ∀ j, j < 4 → j ≠ f → X' (22 + j) = X (22 + j) ∧ G' j = G j) (hF : FR (X' (22 + f)) (G' f)) (hlo : ∀ i, i < 16 → i ≠ c → X' (6 + i) = X (6 + i) ∧ N' i = N i) (hL : LR q (X' (6 + c)) (N' c))
    (hz : (X' (22 + f) 0 = 0 ∧ X' (6 + c) 6 = -6 ∧ (X' (6 + c) 0 = 0 ∨ X' (6 + c) 0 = 1 ∨ X' (6 + c) 0 = 10 ∨ X' (6 + c) 0 = 11)) ∨ (¬ X' (22 + f) 0 = 0 ∧ ¬ X' (22 + f) 0 = 7 ∧ ¬ X' (22 + f) 0 = 8 ∧ X' (22 + f) 2 = nI c ∧ X' (6 + c) 6 = nI f ∧ smt (X' (22 + f) 0) (X' (6 + c) 0))) : XR q nf X' h' N' G' := by
  have h4 : nf ≤ 4 := hR.1.2.1.2.1
  obtain ⟨c', hc', e1, e2, -⟩ := hR.2.2.2.1 f (by omega) hm0
  have e := nI_inj (by omega) (by omega) (hcf.symm.trans e1)
  subst e
  refine XR_gen hR (by omega) (Nat.le_refl q) hH hfo hF (fun q => absurd hf (by omega)) ?_ ?_ (fun i hi => ?_)
  · intro hm
    rcases hz with ⟨z, -⟩ | ⟨-, -, -, z1, z2, z3⟩
    · exact absurd z hm
    · exact ⟨c, hc, z1, z2, z3⟩
  · intro hm
    rcases hz with ⟨z, -⟩ | ⟨-, z1, z2, -⟩
    · rcases hm with hm | hm <;> exact absurd (z.symm.trans hm) (by decide)
    · rcases hm with hm | hm
      · exact absurd hm z1
      · exact absurd hm z2
  · by_cases ei : i = c
    · subst ei
      refine Or.inr ⟨Or.inl e2, hL, ?_⟩
      rcases hz with ⟨-, z⟩ | ⟨z0, -, -, z1, z2, -⟩
      · exact Or.inl z
      · exact Or.inr ⟨f, by omega, z2, z0, Or.inl z1⟩
    · refine Or.inl ⟨(hlo i hi ei).1, (hlo i hi ei).2, fun hp => ?_⟩
      rcases (XR_ptr hR (by omega) hi hp).2 with h1 | ⟨h1, -⟩
      · exact ei (nI_inj (by omega) (by omega) (h1.symm.trans hcf))
      · rcases h1 with h1 | h1
        · exact hm7 h1
        · exact hm8 h1

theorem updA (f : CS) (k j : Nat) (x : Int32) : upd f k x j = if j = k then x else f j := rfl
theorem vuA (f : ES) (k j : Nat) (x : CS) : va_up f k x j = if j = k then x else f j := rfl
theorem HR_10 {q nf : Nat} {T H S h : CS} (r : HRr q nf T H S h) : HRr q nf T (upd H 10 (H 10 + 1)) S (upd h 11 (h 11 + 1)) := by
  simp only [HRr, updA] at r ⊢; simpa [r.2.2.2.2.2.2.1.1] using r
theorem HR_11 {q nf : Nat} {T H S h : CS} (r : HRr q nf T H S h) : HRr q nf T (upd H 11 (H 11 + 1)) S (upd h 12 (h 12 + 1)) := by
  simp only [HRr, updA] at r ⊢; simpa [r.2.2.2.2.2.2.1.2.1] using r
theorem HR_12 {q nf : Nat} {T H S h : CS} (r : HRr q nf T H S h) : HRr q nf T (upd H 12 (H 12 + 1)) S (upd h 13 (h 13 + 1)) := by
  simp only [HRr, updA] at r ⊢; simpa [r.2.2.2.2.2.2.1.2.2.1] using r
theorem HR_13 {q nf : Nat} {T H S h : CS} (r : HRr q nf T H S h) : HRr q nf T (upd H 13 (H 13 + 1)) S (upd h 14 (h 14 + 1)) := by
  simp only [HRr, updA] at r ⊢; simpa [r.2.2.2.2.2.2.1.2.2.2.1] using r
theorem HR_14 {q nf : Nat} {T H S h : CS} (r : HRr q nf T H S h) : HRr q nf T (upd H 14 (H 14 + 1)) S (upd h 15 (h 15 + 1)) := by
  simp only [HRr, updA] at r ⊢; simpa [r.2.2.2.2.2.2.1.2.2.2.2.1] using r
theorem HR_15 {q nf : Nat} {T H S h : CS} (r : HRr q nf T H S h) : HRr q nf T (upd H 15 (H 15 + 1)) S (upd h 16 (h 16 + 1)) := by
  simp only [HRr, updA] at r ⊢; simpa [r.2.2.2.2.2.2.1.2.2.2.2.2] using r
theorem XR_one2 {q nf f c : Nat} {X X' : ES} {h h' : CS} {N N' G G' : ES} {F' L' H' N1 G1 : CS} (hR : XR q nf X h N G) (hf : f < nf) (hc : c < 16) (hm0 : ¬ X (22 + f) 0 = 0) (hm7 : ¬ X (22 + f) 0 = 7) (hm8 : ¬ X (22 + f) 0 = 8) (hcf : X (22 + f) 2 = nI c)
    (eF : X' (22 + f) = F') (eL : X' (6 + c) = L') (eH : X' 0 = H') (eO : ∀ k, ¬ k = 22 + f → ¬ k = 6 + c → ¬ k = 0 → X' k = X k) (eN : N' = va_up N c N1) (eG : G' = va_up G f G1)
    (hH : HRr q nf (X 3) H' (X 5) h') (hF : FR F' G1) (hL : LR q L' N1)
    (hz : (F' 0 = 0 ∧ L' 6 = -6 ∧ (L' 0 = 0 ∨ L' 0 = 1 ∨ L' 0 = 10 ∨ L' 0 = 11)) ∨ (¬ F' 0 = 0 ∧ ¬ F' 0 = 7 ∧ ¬ F' 0 = 8 ∧ F' 2 = nI c ∧ L' 6 = nI f ∧ smt (F' 0) (L' 0))) : XR q nf X' h' N' G' := by
  have h4 : nf ≤ 4 := hR.1.2.1.2.1
  subst eF eL eH eN eG
  refine XR_one hR hf hc hm0 hm7 hm8 hcf ?_ (fun j hj e => ⟨eO _ (by omega) (by omega) (by omega), vuN e⟩) (by rw [vuS]; exact hF) (fun i hi e => ⟨eO _ (by omega) (by omega) (by omega), vuN e⟩) (by rw [vuS]; exact hL) hz
  show HRr q nf (X' 3) (X' 0) (X' 5) h'
  rw [eO 3 (by omega) (by omega) (by omega), eO 5 (by omega) (by omega) (by omega)]
  exact hH
theorem packL_lt : ∀ ds : List Nat, (∀ v ∈ ds, v ≤ 9) → packL ds < 16 ^ ds.length
  | [], _ => by simp [packL]
  | v :: r, h => by
    have h1 := packL_lt r (fun x hx => h x (List.mem_cons_of_mem _ hx))
    have h2 := h v List.mem_cons_self
    simp only [packL, List.length_cons, Nat.pow_succ]
    omega
/-- a step of a finder with a caller c and a called line t -/
theorem XR_two2 {q nf f c t : Nat} {X X' : ES} {h h' : CS} {N N' G G' : ES} {F' L' T' H' N1 N2 G1 : CS} (hR : XR q nf X h N G) (hf : f < nf) (hc : c < 16) (ht : t < 16) (hct : ¬ t = c) (hm0 : ¬ X (22 + f) 0 = 0) (hcf : X (22 + f) 2 = nI c) (hpt : X (6 + t) 6 = nI f ∨ X (6 + t) 6 = -6) (hu : (X (22 + f) 0 = 7 ∨ X (22 + f) 0 = 8) → X (22 + f) 9 = nI t)
    (eF : X' (22 + f) = F') (eL : X' (6 + c) = L') (eT : X' (6 + t) = T') (eH : X' 0 = H') (eO : ∀ k, ¬ k = 22 + f → ¬ k = 6 + c → ¬ k = 6 + t → ¬ k = 0 → X' k = X k) (eN : N' = va_up (va_up N c N1) t N2) (eG : G' = va_up G f G1)
    (hH : HRr q nf (X 3) H' (X 5) h') (hF : FR F' G1) (hL : LR q L' N1) (hT : LR q T' N2)
    (z1 : ¬ F' 0 = 0 → F' 2 = nI c ∧ L' 6 = nI f ∧ smt (F' 0) (L' 0)) (z2 : (F' 0 = 7 ∨ F' 0 = 8) → F' 9 = nI t ∧ T' 6 = nI f ∧ ((F' 0 = 7 ∧ T' 0 = 5) ∨ (F' 0 = 8 ∧ T' 0 = 7)))
    (z3 : (L' 6 = -6 ∧ (L' 0 = 0 ∨ L' 0 = 1 ∨ L' 0 = 10 ∨ L' 0 = 11)) ∨ (L' 6 = nI f ∧ ¬ F' 0 = 0 ∧ F' 2 = nI c)) (z4 : (T' 6 = -6 ∧ (T' 0 = 0 ∨ T' 0 = 1 ∨ T' 0 = 10 ∨ T' 0 = 11)) ∨ (T' 6 = nI f ∧ (F' 0 = 7 ∨ F' 0 = 8) ∧ F' 9 = nI t)) : XR q nf X' h' N' G' := by
  have h4 : nf ≤ 4 := hR.1.2.1.2.1
  subst eF eL eT eH eN eG
  obtain ⟨c', hc', e1, e2, -⟩ := hR.2.2.2.1 f (by omega) hm0
  have e := nI_inj (by omega) (by omega) (hcf.symm.trans e1)
  subst e
  refine XR_gen hR (f := f) (by omega) (Nat.le_refl q) ?_ (fun j hj e => ⟨eO _ (by omega) (by omega) (by omega) (by omega), vuN e⟩) (by rw [vuS]; exact hF) (fun q => absurd hf (by omega)) ?_ ?_ (fun i hi => ?_)
  · show HRr q nf (X' 3) (X' 0) (X' 5) h'
    rw [eO 3 (by omega) (by omega) (by omega) (by omega), eO 5 (by omega) (by omega) (by omega) (by omega)]
    exact hH
  · intro hm
    exact ⟨c, hc, z1 hm⟩
  · intro hm
    exact ⟨t, ht, z2 hm⟩
  · by_cases ec : i = c
    · subst ec
      refine Or.inr ⟨Or.inl e2, by rw [vuN (fun z => hct z.symm), vuS]; exact hL, ?_⟩
      rcases z3 with z | ⟨z, z', z''⟩
      · exact Or.inl z
      · exact Or.inr ⟨f, by omega, z, z', Or.inl z''⟩
    · by_cases et : i = t
      · subst et
        refine Or.inr ⟨hpt, by rw [vuS]; exact hT, ?_⟩
        rcases z4 with z | ⟨z, z', z''⟩
        · exact Or.inl z
        · refine Or.inr ⟨f, by omega, z, ?_, Or.inr ⟨z', z''⟩⟩
          rcases z' with z' | z' <;> rw [z'] <;> decide
      · refine Or.inl ⟨eO _ (by omega) (by omega) (by omega) (by omega), by rw [vuN et, vuN ec], fun hp => ?_⟩
        rcases (XR_ptr hR (by omega) hi hp).2 with h1 | ⟨h1, h2⟩
        · exact ec (nI_inj (by omega) (by omega) (h1.symm.trans hcf))
        · exact et (nI_inj (by omega) (by omega) (h2.symm.trans (hu h1)))
