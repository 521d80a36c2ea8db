-- ===== what a step leaves as it is: one finder and some lines change =====
theorem sm_one {g g' : Nat → Int} {c : Nat} : ∀ n : Nat, (∀ i, i < n → ¬ i = c → g' i = g i) → sm g' n = sm g n + (if c < n then g' c - g c else 0)
  | 0, _ => by simp [sm]
  | n + 1, h => by
    have ih := sm_one (g := g) (g' := g') (c := c) n (fun i hi => h i (by omega))
    simp only [sm]
    rw [ih]
    by_cases e : n = c
    · subst e
      rw [if_neg (by omega), if_pos (by omega)]
      omega
    · rw [h n (by omega) e]
      by_cases e2 : c < n
      · rw [if_pos e2, if_pos (by omega)]; omega
      · rw [if_neg e2, if_neg (by omega)]; omega
theorem sm_two {g g' : Nat → Int} {c t n : Nat} (hc : c < n) (ht : t < n) (hct : ¬ t = c) (h : ∀ i, i < n → ¬ i = c → ¬ i = t → g' i = g i) : sm g' n = sm g n + (g' c - g c) + (g' t - g t) := by
  have a := sm_one (g := fun i => if i = t then g' t else g i) (g' := g') (c := c) n (fun i hi hic => by
    by_cases e : i = t
    · subst e; simp
    · simp only [if_neg e]; exact h i hi hic e)
  have b := sm_one (g := g) (g' := fun i => if i = t then g' t else g i) (c := t) n (fun i hi hit => by simp only [if_neg hit])
  rw [if_pos hc] at a
  rw [if_pos ht] at b
  simp only [if_true, if_neg (fun z => hct z.symm : ¬ c = t)] at a b
  omega
theorem sm_eq {g g' : Nat → Int} : ∀ n : Nat, (∀ i, i < n → g' i = g i) → sm g' n = sm g n
  | 0, _ => rfl
  | n + 1, h => by
    simp only [sm]
    rw [sm_eq n (fun i hi => h i (by omega)), h n (by omega)]
theorem finOK_mono {q q' nc : Int} {F : Nat → Int} (hq : q ≤ q') (h : finOK q nc F) : finOK q' nc F := by
  unfold finOK at h ⊢
  obtain ⟨a, b, c, d, r⟩ := h
  exact ⟨a, b, by omega, by omega, r⟩
theorem linOK_mono {q q' : Int} {L : Nat → Int} (hq : q ≤ q') (h : linOK q L) : linOK q' L := by
  unfold linOK at h ⊢
  obtain ⟨a, b, c, d, e, f, g, r⟩ := h
  exact ⟨a, b, by omega, d, e, by omega, by omega, r⟩
theorem rowOK {P : (Nat → Int) → Prop} {A B : Nat → Int} (h : ∀ j, B j = A j) (hp : P A) : P B := by
  have e : B = A := funext h
  rw [e]; exact hp
theorem Inv_gen {q q' : Int} {S S' : SS} {f : Nat} (hI : Inv q S) (hf : f < 4) (hq : q ≤ q') (e5 : ∀ j, S' 5 j = S 5 j) (e3 : S' 3 0 = S 3 0) (hH : hdOK q' (S' 0)) (e05 : S' 0 5 = S 0 5) (e06 : S' 0 6 = S 0 6) (e09 : S 0 9 ≤ S' 0 9)
    (hfo : ∀ j : Nat, j < 4 → ¬ j = f → ∀ i, S' (22 + j) i = S (22 + j) i) (hF : finOK q' (S 0 6) (S' (22 + f))) (hoff : S 0 5 ≤ (f : Int) → S' (22 + f) 0 = 0) (hC : lkC S' f) (hT : lkT S' f)
    (hL : ∀ i : Nat, i < 16 → ((∀ j, S' (6 + i) j = S (6 + i) j) ∧ ¬ S (6 + i) 6 = (f : Int)) ∨ ((S (6 + i) 6 = (f : Int) ∨ S (6 + i) 6 = -6) ∧ linOK q' (S' (6 + i)) ∧ lkL S' i))
    (hX : ∀ g : Nat, g < 4 → ¬ g = f → uqX S' f g) (hU : ∀ i : Nat, i < 16 → S' (6 + i) 0 = 1 → S (6 + i) 0 = 1 ∧ S' (6 + i) 7 = S (6 + i) 7) (hc : cnt S') : Inv q' S' := by
  have other : ∀ j : Nat, j < 4 → ¬ j = f → ∀ c : Nat, c < 16 → S (6 + c) 6 = (j : Int) → ∀ i, S' (6 + c) i = S (6 + c) i := by
    intro j hj hjf c hc hp
    rcases hL c hc with ⟨e, -⟩ | ⟨e | e, -⟩
    · exact e
    · rw [hp] at e; omega
    · rw [hp] at e; omega
  refine ⟨hH, rowOK (P := setOK) e5 hI.set, by rw [e3]; exact hI.no, fun j hj => ?_, fun n hn => ?_, fun j hj hnf => ?_, fun j hj => ?_, fun j hj => ?_, fun n hn => ?_, fun a b ha hb hab => ?_, ⟨fun n m hn hm hnm h1 h2 => ?_, fun n hn h1 => ?_⟩, hc⟩
  · rw [e06]
    by_cases e : j = f
    · subst e; exact hF
    · exact rowOK (P := finOK q' (S 0 6)) (hfo j hj e) (finOK_mono hq (hI.fin j hj))
  · rcases hL n hn with ⟨e, -⟩ | ⟨-, e, -⟩
    · exact rowOK (P := linOK q') e (linOK_mono hq (hI.lin n hn))
    · exact e
  · rw [e05] at hnf
    by_cases e : j = f
    · subst e; exact hoff hnf
    · rw [hfo j hj e]; exact hI.off j hj hnf
  · by_cases e : j = f
    · subst e; exact hC
    · intro c hc hm h2
      rw [hfo j hj e] at hm h2 ⊢
      have h := hI.lkC j hj c hc hm h2
      rw [other j hj e c hc h.1, other j hj e c hc h.1]
      exact h
  · by_cases e : j = f
    · subst e; exact hT
    · intro c hc h2
      rw [hfo j hj e] at h2 ⊢
      have h := hI.lkT j hj c hc h2
      rw [other j hj e c hc h.1, other j hj e c hc h.1]
      exact h
  · rcases hL n hn with ⟨e, e2⟩ | ⟨-, -, e⟩
    · rcases hI.lkL n hn with h | ⟨j, hj, h1, h2, h3⟩
      · left; rw [e, e]; exact h
      · right
        have ejf : ¬ j = f := fun z => e2 (by rw [h1, z])
        refine ⟨j, hj, by rw [e]; exact h1, ?_, ?_⟩
        · rw [hfo j hj ejf]; exact h2
        · rw [hfo j hj ejf, hfo j hj ejf]; exact h3
    · exact e
  · by_cases e : a = f
    · subst e; exact hX b hb (fun z => hab z.symm)
    · by_cases e2 : b = f
      · subst e2
        intro z1 z2 z3
        exact hX a ha e z2 z1 ⟨z3.1.symm, z3.2.symm⟩
      · unfold uqX
        rw [hfo a ha e, hfo b hb e2, hfo a ha e, hfo b hb e2, hfo a ha e, hfo b hb e2]
        exact hI.uqX a b ha hb hab
  · have a := hU n hn h1
    have b := hU m hm h2
    rw [a.2, b.2]
    exact hI.uqT.1 n m hn hm hnm a.1 b.1
  · have a := hU n hn h1
    have := hI.uqT.2 n hn a.1
    rw [a.2]
    omega
/-- a step that touches the finder f and its caller c -/
theorem Step_one {q q' : Int} {S S' : SS} {f c : Nat} (hI : Inv q S) (hf : f < 4) (hq : q ≤ q') (hc : c < 16) (hm0 : ¬ S (22 + f) 0 = 0) (ec : S (22 + f) 2 = (c : Int)) (h78 : ¬ S (22 + f) 0 = 7 ∧ ¬ S (22 + f) 0 = 8)
    (eo : ∀ k, ¬ k = 22 + f → ¬ k = 6 + c → ¬ k = 0 → ∀ j, S' k j = S k j) (hH : hdOK q' (S' 0)) (e05 : S' 0 5 = S 0 5) (e06 : S' 0 6 = S 0 6) (e09 : S 0 9 ≤ S' 0 9)
    (hF : finOK q' (S 0 6) (S' (22 + f))) (h78' : ¬ S' (22 + f) 0 = 7 ∧ ¬ S' (22 + f) 0 = 8) (hL : linOK q' (S' (6 + c)))
    (hz : (S' (22 + f) 0 = 0 ∧ S' (6 + c) 6 = -6 ∧ S' (6 + c) 0 = 10) ∨ (¬ S' (22 + f) 0 = 0 ∧ S' (22 + f) 2 = (c : Int) ∧ S' (6 + c) 6 = (f : Int) ∧ smt (S' (22 + f) 0) (S' (6 + c) 0)))
    (hX : ∀ g : Nat, g < 4 → ¬ g = f → uqX S' f g) (hU : S' (6 + c) 0 = 1 → S (6 + c) 0 = 1 ∧ S' (6 + c) 7 = S (6 + c) 7)
    (d1 : S 0 9 - S 0 10 - w1 (S (6 + c) 0) ≤ S' 0 9 - S' 0 10 - w1 (S' (6 + c) 0)) (d2 : S 0 10 - S 0 11 - w2 (S (22 + f) 0) ≤ S' 0 10 - S' 0 11 - w2 (S' (22 + f) 0)) (d3 : S 0 11 - S 0 12 - w3 (S (22 + f) 0) ≤ S' 0 11 - S' 0 12 - w3 (S' (22 + f) 0))
    (d4 : S (6 + c) 2 - S 0 12 ≤ S' (6 + c) 2 - S' 0 12) (d5 : rv (S (6 + c) 0) = rv (S' (6 + c) 0)) : Inv q' S' := by
  have hl := hI.lkC f hf c hc hm0 ec
  have hfo : ∀ j : Nat, j < 4 → ¬ j = f → ∀ i, S' (22 + j) i = S (22 + j) i := fun j hj e => eo _ (by omega) (by omega) (by omega)
  have hlo : ∀ j : Nat, j < 16 → ¬ j = c → ∀ i, S' (6 + j) i = S (6 + j) i := fun j hj e => eo _ (by omega) (by omega) (by omega)
  refine Inv_gen hI hf hq (eo 5 (by omega) (by omega) (by omega)) (eo 3 (by omega) (by omega) (by omega) 0) hH e05 e06 e09 hfo hF (fun z => absurd (hI.off f hf z) hm0) ?_ ?_ (fun i hi => ?_) hX (fun i hi h1 => ?_) ?_
  · intro c2 hc2 hm h2
    rcases hz with z | ⟨z1, z2, z3, z4⟩
    · exact absurd z.1 hm
    · have : c2 = c := by rw [z2] at h2; omega
      subst this
      exact ⟨z3, z4⟩
  · intro t ht h2
    have := hF
    unfold finOK at this
    have h9 := this.2.2.2.2.2.2.2.2.2.2.2.2.2.2.2.2.2 h78'
    omega
  · by_cases e : i = c
    · subst e
      refine Or.inr ⟨Or.inl hl.1, hL, ?_⟩
      rcases hz with z | ⟨z1, z2, z3, z4⟩
      · exact Or.inl ⟨z.2.1, Or.inr (Or.inr (Or.inl z.2.2))⟩
      · exact Or.inr ⟨f, hf, z3, z1, Or.inl z2⟩
    · refine Or.inl ⟨hlo i hi e, fun z => ?_⟩
      rcases hI.lkL i hi with h | ⟨j, hj, g1, g2, g3⟩
      · omega
      · have : j = f := by omega
        subst this
        rcases g3 with g3 | g3
        · rw [ec] at g3; omega
        · have := hI.fin j hj
          unfold finOK at this
          have h9 := this.2.2.2.2.2.2.2.2.2.2.2.2.2.2.2.2.2 h78
          omega
  · by_cases e : i = c
    · subst e; exact hU h1
    · rw [hlo i hi e] at h1 ⊢
      exact ⟨h1, rfl⟩
  · obtain ⟨k1, k2, k3, k4, k5⟩ := hI.cnt
    refine ⟨?_, ?_, ?_, ?_, ?_⟩
    · rw [sm_one (g := fun n => w1 (S (6 + n) 0)) (c := c) 16 (fun i hi e => by simp only [hlo i hi e]), if_pos hc]; omega
    · rw [sm_one (g := fun n => w2 (S (22 + n) 0)) (c := f) 4 (fun i hi e => by simp only [hfo i hi e]), if_pos hf]; omega
    · rw [sm_one (g := fun n => w3 (S (22 + n) 0)) (c := f) 4 (fun i hi e => by simp only [hfo i hi e]), if_pos hf]; omega
    · rw [sm_one (g := fun n => S (6 + n) 2) (c := c) 16 (fun i hi e => by simp only [hlo i hi e]), if_pos hc]; omega
    · rw [sm_one (g := fun n => rv (S (6 + n) 0)) (c := c) 16 (fun i hi e => by simp only [hlo i hi e]), if_pos hc]; omega
/-- a step that touches the finder f, its caller c and the line t that it calls -/
theorem Step_two {q q' : Int} {S S' : SS} {f c t : Nat} (hI : Inv q S) (hf : f < 4) (hq : q ≤ q') (hc : c < 16) (ht : t < 16) (hct : ¬ t = c) (hm0 : ¬ S (22 + f) 0 = 0) (ec : S (22 + f) 2 = (c : Int)) (hpt : S (6 + t) 6 = (f : Int) ∨ S (6 + t) 6 = -6) (hu : S (22 + f) 0 = 7 ∨ S (22 + f) 0 = 8 → S (22 + f) 9 = (t : Int))
    (eo : ∀ k, ¬ k = 22 + f → ¬ k = 6 + c → ¬ k = 6 + t → ¬ k = 0 → ∀ j, S' k j = S k j) (hH : hdOK q' (S' 0)) (e05 : S' 0 5 = S 0 5) (e06 : S' 0 6 = S 0 6) (e09 : S 0 9 ≤ S' 0 9)
    (hF : finOK q' (S 0 6) (S' (22 + f))) (hL : linOK q' (S' (6 + c))) (hT : linOK q' (S' (6 + t)))
    (hz : (S' (22 + f) 0 = 0 ∧ S' (6 + c) 6 = -6 ∧ S' (6 + c) 0 = 10) ∨ (¬ S' (22 + f) 0 = 0 ∧ S' (22 + f) 2 = (c : Int) ∧ S' (6 + c) 6 = (f : Int) ∧ smt (S' (22 + f) 0) (S' (6 + c) 0)))
    (hy : (¬ S' (22 + f) 0 = 7 ∧ ¬ S' (22 + f) 0 = 8 ∧ S' (6 + t) 6 = -6 ∧ S' (6 + t) 0 = 0) ∨ (S' (22 + f) 9 = (t : Int) ∧ S' (6 + t) 6 = (f : Int) ∧ ((S' (22 + f) 0 = 7 ∧ S' (6 + t) 0 = 5) ∨ (S' (22 + f) 0 = 8 ∧ S' (6 + t) 0 = 7))))
    (hX : ∀ g : Nat, g < 4 → ¬ g = f → uqX S' f g) (hU : ¬ S' (6 + c) 0 = 1) (hU2 : ¬ S' (6 + t) 0 = 1)
    (d1 : S 0 9 - S 0 10 - w1 (S (6 + c) 0) - w1 (S (6 + t) 0) ≤ S' 0 9 - S' 0 10 - w1 (S' (6 + c) 0) - w1 (S' (6 + t) 0)) (d2 : S 0 10 - S 0 11 - w2 (S (22 + f) 0) ≤ S' 0 10 - S' 0 11 - w2 (S' (22 + f) 0)) (d3 : S 0 11 - S 0 12 - w3 (S (22 + f) 0) ≤ S' 0 11 - S' 0 12 - w3 (S' (22 + f) 0))
    (d4 : S (6 + c) 2 + S (6 + t) 2 - S 0 12 ≤ S' (6 + c) 2 + S' (6 + t) 2 - S' 0 12) (d5 : rv (S (6 + c) 0) + rv (S (6 + t) 0) = rv (S' (6 + c) 0) + rv (S' (6 + t) 0)) : Inv q' S' := by
  have hl := hI.lkC f hf c hc hm0 ec
  have hfo : ∀ j : Nat, j < 4 → ¬ j = f → ∀ i, S' (22 + j) i = S (22 + j) i := fun j hj e => eo _ (by omega) (by omega) (by omega) (by omega)
  have hlo : ∀ j : Nat, j < 16 → ¬ j = c → ¬ j = t → ∀ i, S' (6 + j) i = S (6 + j) i := fun j hj e e2 => eo _ (by omega) (by omega) (by omega) (by omega)
  refine Inv_gen hI hf hq (eo 5 (by omega) (by omega) (by omega) (by omega)) (eo 3 (by omega) (by omega) (by omega) (by omega) 0) hH e05 e06 e09 hfo hF (fun z => absurd (hI.off f hf z) hm0) ?_ ?_ (fun i hi => ?_) hX (fun i hi h1 => ?_) ?_
  · intro c2 hc2 hm h2
    rcases hz with z | ⟨z1, z2, z3, z4⟩
    · exact absurd z.1 hm
    · have : c2 = c := by rw [z2] at h2; omega
      subst this
      exact ⟨z3, z4⟩
  · intro t2 ht2 h2
    rcases hy with ⟨z1, z2, -⟩ | ⟨z1, z2⟩
    · have := hF
      unfold finOK at this
      have h9 := this.2.2.2.2.2.2.2.2.2.2.2.2.2.2.2.2.2 ⟨z1, z2⟩
      omega
    · have : t2 = t := by rw [z1] at h2; omega
      subst this
      exact z2
  · by_cases e : i = c
    · subst e
      refine Or.inr ⟨Or.inl hl.1, hL, ?_⟩
      rcases hz with z | ⟨z1, z2, z3, z4⟩
      · exact Or.inl ⟨z.2.1, Or.inr (Or.inr (Or.inl z.2.2))⟩
      · exact Or.inr ⟨f, hf, z3, z1, Or.inl z2⟩
    · by_cases e2 : i = t
      · subst e2
        refine Or.inr ⟨hpt, hT, ?_⟩
        rcases hy with ⟨-, -, z1, z2⟩ | ⟨z1, z2, z3⟩
        · exact Or.inl ⟨z1, Or.inl z2⟩
        · exact Or.inr ⟨f, hf, z2, by omega, Or.inr z1⟩
      · refine Or.inl ⟨hlo i hi e e2, fun z => ?_⟩
        rcases hI.lkL i hi with h | ⟨j, hj, g1, g2, g3⟩
        · omega
        · have : j = f := by omega
          subst this
          rcases g3 with g3 | g3
          · rw [ec] at g3; omega
          · have := hI.fin j hj
            unfold finOK at this
            have h9 := this.2.2.2.2.2.2.2.2.2.2.2.2.2.2.2.2.2
            by_cases h7 : S (22 + j) 0 = 7 ∨ S (22 + j) 0 = 8
            · have := hu h7
              omega
            · have := h9 ⟨fun z => h7 (Or.inl z), fun z => h7 (Or.inr z)⟩
              omega
  · by_cases e : i = c
    · subst e; exact absurd h1 hU
    · by_cases e2 : i = t
      · subst e2; exact absurd h1 hU2
      · rw [hlo i hi e e2] at h1 ⊢
        exact ⟨h1, rfl⟩
  · obtain ⟨k1, k2, k3, k4, k5⟩ := hI.cnt
    refine ⟨?_, ?_, ?_, ?_, ?_⟩
    · rw [sm_two (g := fun n => w1 (S (6 + n) 0)) hc ht hct (fun i hi e e2 => by simp only [hlo i hi e e2])]; omega
    · rw [sm_one (g := fun n => w2 (S (22 + n) 0)) (c := f) 4 (fun i hi e => by simp only [hfo i hi e]), if_pos hf]; omega
    · rw [sm_one (g := fun n => w3 (S (22 + n) 0)) (c := f) 4 (fun i hi e => by simp only [hfo i hi e]), if_pos hf]; omega
    · rw [sm_two (g := fun n => S (6 + n) 2) hc ht hct (fun i hi e e2 => by simp only [hlo i hi e e2])]; omega
    · rw [sm_two (g := fun n => rv (S (6 + n) 0)) hc ht hct (fun i hi e e2 => by simp only [hlo i hi e e2])]; omega
/-- what a finder holds nobody else holds -/
theorem hX_no {S' : SS} {f : Nat} (h : ¬ hds (S' (22 + f) 0)) : ∀ g : Nat, g < 4 → ¬ g = f → uqX S' f g := fun g _ _ z => absurd z h
theorem hX_old {q : Int} {S S' : SS} {f : Nat} (hI : Inv q S) (hf : f < 4) (hfo : ∀ j : Nat, j < 4 → ¬ j = f → ∀ i, S' (22 + j) i = S (22 + j) i) (h : hds (S (22 + f) 0)) (e3 : S' (22 + f) 3 = S (22 + f) 3) (e4 : S' (22 + f) 4 = S (22 + f) 4) : ∀ g : Nat, g < 4 → ¬ g = f → uqX S' f g := by
  intro g hg hgf _ z
  rw [e3, e4, hfo g hg hgf, hfo g hg hgf]
  rw [hfo g hg hgf] at z
  exact hI.uqX f g hf hg (fun e => hgf e.symm) h z
