-- ===== acts: lift, hang, dial =====
/-- a step that touches the finder f and its caller c -/
theorem Hang_one {q q' : Int} {S S' : SS} {f c : Nat} (hI : Inv q S) (hf : f < 4) (hq : q ≤ q') (hc : c < 16) (hm0 : ¬ S (22 + f) 0 = 0) (ec : S (22 + f) 2 = (c : Int)) (h78 : ¬ S (22 + f) 0 = 7 ∧ ¬ S (22 + f) 0 = 8)
    (eo : ∀ k, ¬ k = 22 + f → ¬ k = 6 + c → ¬ k = 0 → ∀ j, S' k j = S k j) (hH : hdOK q' (S' 0)) (e05 : S' 0 5 = S 0 5) (e06 : S' 0 6 = S 0 6) (e09 : S 0 9 ≤ S' 0 9)
    (hF : finOK q' (S 0 6) (S' (22 + f))) (h78' : ¬ S' (22 + f) 0 = 7 ∧ ¬ S' (22 + f) 0 = 8) (hL : linOK q' (S' (6 + c)))
    (hz : (S' (22 + f) 0 = 0 ∧ S' (6 + c) 6 = -6 ∧ S' (6 + c) 0 = 0) ∨ (¬ S' (22 + f) 0 = 0 ∧ S' (22 + f) 2 = (c : Int) ∧ S' (6 + c) 6 = (f : Int) ∧ smt (S' (22 + f) 0) (S' (6 + c) 0)))
    (hX : ∀ g : Nat, g < 4 → ¬ g = f → uqX S' f g) (hU : S' (6 + c) 0 = 1 → S (6 + c) 0 = 1 ∧ S' (6 + c) 7 = S (6 + c) 7)
    (d1 : S 0 9 - S 0 10 - w1 (S (6 + c) 0) ≤ S' 0 9 - S' 0 10 - w1 (S' (6 + c) 0)) (d2 : S 0 10 - S 0 11 - w2 (S (22 + f) 0) ≤ S' 0 10 - S' 0 11 - w2 (S' (22 + f) 0)) (d3 : S 0 11 - S 0 12 - w3 (S (22 + f) 0) ≤ S' 0 11 - S' 0 12 - w3 (S' (22 + f) 0))
    (d4 : S (6 + c) 2 - S 0 12 ≤ S' (6 + c) 2 - S' 0 12) (d5 : rv (S (6 + c) 0) = rv (S' (6 + c) 0)) : Inv q' S' := by
  have hl := hI.lkC f hf c hc hm0 ec
  have hfo : ∀ j : Nat, j < 4 → ¬ j = f → ∀ i, S' (22 + j) i = S (22 + j) i := fun j hj e => eo _ (by omega) (by omega) (by omega)
  have hlo : ∀ j : Nat, j < 16 → ¬ j = c → ∀ i, S' (6 + j) i = S (6 + j) i := fun j hj e => eo _ (by omega) (by omega) (by omega)
  refine Inv_gen hI hf hq (eo 5 (by omega) (by omega) (by omega)) (eo 3 (by omega) (by omega) (by omega) 0) hH e05 e06 e09 hfo hF (fun z => absurd (hI.off f hf z) hm0) ?_ ?_ (fun i hi => ?_) hX (fun i hi h1 => ?_) ?_
  · intro c2 hc2 hm h2
    rcases hz with z | ⟨z1, z2, z3, z4⟩
    · exact absurd z.1 hm
    · have : c2 = c := by rw [z2] at h2; omega
      subst this
      exact ⟨z3, z4⟩
  · intro t ht h2
    have := hF
    unfold finOK at this
    have h9 := this.2.2.2.2.2.2.2.2.2.2.2.2.2.2.2.2.2 h78'
    omega
  · by_cases e : i = c
    · subst e
      refine Or.inr ⟨Or.inl hl.1, hL, ?_⟩
      rcases hz with z | ⟨z1, z2, z3, z4⟩
      · exact Or.inl ⟨z.2.1, Or.inl z.2.2⟩
      · exact Or.inr ⟨f, hf, z3, z1, Or.inl z2⟩
    · refine Or.inl ⟨hlo i hi e, fun z => ?_⟩
      rcases hI.lkL i hi with h | ⟨j, hj, g1, g2, g3⟩
      · omega
      · have : j = f := by omega
        subst this
        rcases g3 with g3 | g3
        · rw [ec] at g3; omega
        · have := hI.fin j hj
          unfold finOK at this
          have h9 := this.2.2.2.2.2.2.2.2.2.2.2.2.2.2.2.2.2 h78
          omega
  · by_cases e : i = c
    · subst e; exact hU h1
    · rw [hlo i hi e] at h1 ⊢
      exact ⟨h1, rfl⟩
  · obtain ⟨k1, k2, k3, k4, k5⟩ := hI.cnt
    refine ⟨?_, ?_, ?_, ?_, ?_⟩
    · rw [sm_one (g := fun n => w1 (S (6 + n) 0)) (c := c) 16 (fun i hi e => by simp only [hlo i hi e]), if_pos hc]; omega
    · rw [sm_one (g := fun n => w2 (S (22 + n) 0)) (c := f) 4 (fun i hi e => by simp only [hfo i hi e]), if_pos hf]; omega
    · rw [sm_one (g := fun n => w3 (S (22 + n) 0)) (c := f) 4 (fun i hi e => by simp only [hfo i hi e]), if_pos hf]; omega
    · rw [sm_one (g := fun n => S (6 + n) 2) (c := c) 16 (fun i hi e => by simp only [hlo i hi e]), if_pos hc]; omega
    · rw [sm_one (g := fun n => rv (S (6 + n) 0)) (c := c) 16 (fun i hi e => by simp only [hlo i hi e]), if_pos hc]; omega

/-- a step that touches the finder f, its caller c and the line t that it calls -/
theorem Hang_two {q q' : Int} {S S' : SS} {f c t : Nat} (hI : Inv q S) (hf : f < 4) (hq : q ≤ q') (hc : c < 16) (ht : t < 16) (hct : ¬ t = c) (hm0 : ¬ S (22 + f) 0 = 0) (ec : S (22 + f) 2 = (c : Int)) (hpt : S (6 + t) 6 = (f : Int) ∨ S (6 + t) 6 = -6) (hu : S (22 + f) 0 = 7 ∨ S (22 + f) 0 = 8 → S (22 + f) 9 = (t : Int))
    (eo : ∀ k, ¬ k = 22 + f → ¬ k = 6 + c → ¬ k = 6 + t → ¬ k = 0 → ∀ j, S' k j = S k j) (hH : hdOK q' (S' 0)) (e05 : S' 0 5 = S 0 5) (e06 : S' 0 6 = S 0 6) (e09 : S 0 9 ≤ S' 0 9)
    (hF : finOK q' (S 0 6) (S' (22 + f))) (hL : linOK q' (S' (6 + c))) (hT : linOK q' (S' (6 + t)))
    (hz : (S' (22 + f) 0 = 0 ∧ S' (6 + c) 6 = -6 ∧ S' (6 + c) 0 = 0) ∨ (¬ S' (22 + f) 0 = 0 ∧ S' (22 + f) 2 = (c : Int) ∧ S' (6 + c) 6 = (f : Int) ∧ smt (S' (22 + f) 0) (S' (6 + c) 0)))
    (hy : (¬ S' (22 + f) 0 = 7 ∧ ¬ S' (22 + f) 0 = 8 ∧ S' (6 + t) 6 = -6 ∧ (S' (6 + t) 0 = 0 ∨ S' (6 + t) 0 = 10)) ∨ (S' (22 + f) 9 = (t : Int) ∧ S' (6 + t) 6 = (f : Int) ∧ ((S' (22 + f) 0 = 7 ∧ S' (6 + t) 0 = 5) ∨ (S' (22 + f) 0 = 8 ∧ S' (6 + t) 0 = 7))))
    (hX : ∀ g : Nat, g < 4 → ¬ g = f → uqX S' f g) (hU : ¬ S' (6 + c) 0 = 1) (hU2 : ¬ S' (6 + t) 0 = 1)
    (d1 : S 0 9 - S 0 10 - w1 (S (6 + c) 0) - w1 (S (6 + t) 0) ≤ S' 0 9 - S' 0 10 - w1 (S' (6 + c) 0) - w1 (S' (6 + t) 0)) (d2 : S 0 10 - S 0 11 - w2 (S (22 + f) 0) ≤ S' 0 10 - S' 0 11 - w2 (S' (22 + f) 0)) (d3 : S 0 11 - S 0 12 - w3 (S (22 + f) 0) ≤ S' 0 11 - S' 0 12 - w3 (S' (22 + f) 0))
    (d4 : S (6 + c) 2 + S (6 + t) 2 - S 0 12 ≤ S' (6 + c) 2 + S' (6 + t) 2 - S' 0 12) (d5 : rv (S (6 + c) 0) + rv (S (6 + t) 0) = rv (S' (6 + c) 0) + rv (S' (6 + t) 0)) : Inv q' S' := by
  have hl := hI.lkC f hf c hc hm0 ec
  have hfo : ∀ j : Nat, j < 4 → ¬ j = f → ∀ i, S' (22 + j) i = S (22 + j) i := fun j hj e => eo _ (by omega) (by omega) (by omega) (by omega)
  have hlo : ∀ j : Nat, j < 16 → ¬ j = c → ¬ j = t → ∀ i, S' (6 + j) i = S (6 + j) i := fun j hj e e2 => eo _ (by omega) (by omega) (by omega) (by omega)
  refine Inv_gen hI hf hq (eo 5 (by omega) (by omega) (by omega) (by omega)) (eo 3 (by omega) (by omega) (by omega) (by omega) 0) hH e05 e06 e09 hfo hF (fun z => absurd (hI.off f hf z) hm0) ?_ ?_ (fun i hi => ?_) hX (fun i hi h1 => ?_) ?_
  · intro c2 hc2 hm h2
    rcases hz with z | ⟨z1, z2, z3, z4⟩
    · exact absurd z.1 hm
    · have : c2 = c := by rw [z2] at h2; omega
      subst this
      exact ⟨z3, z4⟩
  · intro t2 ht2 h2
    rcases hy with ⟨z1, z2, -⟩ | ⟨z1, z2⟩
    · have := hF
      unfold finOK at this
      have h9 := this.2.2.2.2.2.2.2.2.2.2.2.2.2.2.2.2.2 ⟨z1, z2⟩
      omega
    · have : t2 = t := by rw [z1] at h2; omega
      subst this
      exact z2
  · by_cases e : i = c
    · subst e
      refine Or.inr ⟨Or.inl hl.1, hL, ?_⟩
      rcases hz with z | ⟨z1, z2, z3, z4⟩
      · exact Or.inl ⟨z.2.1, Or.inl z.2.2⟩
      · exact Or.inr ⟨f, hf, z3, z1, Or.inl z2⟩
    · by_cases e2 : i = t
      · subst e2
        refine Or.inr ⟨hpt, hT, ?_⟩
        rcases hy with ⟨-, -, z1, z2⟩ | ⟨z1, z2, z3⟩
        · exact Or.inl ⟨z1, by omega⟩
        · exact Or.inr ⟨f, hf, z2, by omega, Or.inr z1⟩
      · refine Or.inl ⟨hlo i hi e e2, fun z => ?_⟩
        rcases hI.lkL i hi with h | ⟨j, hj, g1, g2, g3⟩
        · omega
        · have : j = f := by omega
          subst this
          rcases g3 with g3 | g3
          · rw [ec] at g3; omega
          · have := hI.fin j hj
            unfold finOK at this
            have h9 := this.2.2.2.2.2.2.2.2.2.2.2.2.2.2.2.2.2
            by_cases h7 : S (22 + j) 0 = 7 ∨ S (22 + j) 0 = 8
            · have := hu h7
              omega
            · have := h9 ⟨fun z => h7 (Or.inl z), fun z => h7 (Or.inr z)⟩
              omega
  · by_cases e : i = c
    · subst e; exact absurd h1 hU
    · by_cases e2 : i = t
      · subst e2; exact absurd h1 hU2
      · rw [hlo i hi e e2] at h1 ⊢
        exact ⟨h1, rfl⟩
  · obtain ⟨k1, k2, k3, k4, k5⟩ := hI.cnt
    refine ⟨?_, ?_, ?_, ?_, ?_⟩
    · rw [sm_two (g := fun n => w1 (S (6 + n) 0)) hc ht hct (fun i hi e e2 => by simp only [hlo i hi e e2])]; omega
    · rw [sm_one (g := fun n => w2 (S (22 + n) 0)) (c := f) 4 (fun i hi e => by simp only [hfo i hi e]), if_pos hf]; omega
    · rw [sm_one (g := fun n => w3 (S (22 + n) 0)) (c := f) 4 (fun i hi e => by simp only [hfo i hi e]), if_pos hf]; omega
    · rw [sm_two (g := fun n => S (6 + n) 2) hc ht hct (fun i hi e e2 => by simp only [hlo i hi e e2])]; omega
    · rw [sm_two (g := fun n => rv (S (6 + n) 0)) hc ht hct (fun i hi e e2 => by simp only [hlo i hi e e2])]; omega

def f_lift (S : SS) (k : Nat) : SS := if S k 1 = 0 then (if S k 0 = 0 then up (up (up (up (up S k 1 1) k 0 1) k 3 0) 0 9 (S 0 9 + 1)) k 7 (S 0 9 + 1) else up S k 1 1) else S
def r_lift (S : SS) (k : Nat) : Int := if S k 1 = 0 then (if S k 0 = 0 then 1 else S k 0) else -5
def f_rel (S : SS) (k t : Nat) : SS := if S t 0 = 5 ∨ S t 0 = 7 then (if S t 1 = 0 then bfr (lvc S t 0) k else bfr (lvc (up S t 3 6) t 10) k) else bfr S k
def lxI (a : Int) : Nat := if a < 0 then 3 else 6 + a.toNat
def f_hang (S : SS) (k : Nat) : SS :=
  if S k 1 = 0 then S else if S k 0 = 5 ∨ S k 0 = 7 then up S k 1 0 else if S k 6 = -6 then lvc (up S k 1 0) k 0
  else lvc (f_rel (up S k 1 0) (22 + (S k 6).toNat) (lxI (S (22 + (S k 6).toNat) 9))) k 0
def r_hang (S : SS) (k : Nat) : Int := if S k 1 = 0 then -5 else S k 0
def dapp (d c : Int) (p : Int32) : Int := (en d ||| (p <<< (4 * en c &&& 31))).toInt
def f_dial (S : SS) (k : Nat) (p : Int32) : SS := up (up S k 4 (dapp (S k 4) (S k 5) p)) k 5 (S k 5 + 1)
theorem q_called {L : CS} {s : Int} {K : Int32 → Prop} (h0 : L 0 = en s) (b0 : 0 ≤ s ∧ s < 1000) : wp_X2_isCalledByAnother L K = K (if s = 5 ∨ s = 7 then 1 else 0) := by
  unfold wp_X2_isCalledByAnother
  rw [h0, e_5 (by omega) (by omega), e_7 (by omega) (by omega)]
  by_cases a : s = 5
  · simp [a]
  · by_cases b : s = 7
    · simp [b]
    · simp [a, b]
section AC
variable {S : SS} {X : ES} {q : Int} {n : Nat} {K : Int32 → ES → Prop}
theorem w_lift (h : Ag S X) (hq : 0 ≤ q ∧ q < 1000000) (hI : Inv q S) (hn : n < 16) (hK : ∀ X', Ag (f_lift S (6 + n)) X' → K (en (r_lift S (6 + n))) X') : wp_X0_liftLine X (en (n : Int)) K := by
  have hl := hI.lin n hn
  unfold linOK at hl
  have h0 := hI.hd
  unfold hdOK at h0
  have r0 := h.l (k := 6 + n) (by omega) (j := 0) (by decide)
  have r1 := h.l (k := 6 + n) (by omega) (j := 1) (by decide)
  have r9 := h.h (j := 9) (by decide) (by decide)
  have n1 : ¬ 0 = 6 + n := by omega
  have n2 : ¬ 6 + n = 0 := by omega
  have key : S (6 + n) 1 = 0 → ∀ Z, Ag (f_lift S (6 + n)) Z → K (Z (6 + n) 0) Z := fun e Z hZ => by
    rw [hZ.l (by omega) (by decide), show f_lift S (6 + n) (6 + n) 0 = r_lift S (6 + n) by
      rw [f_lift, r_lift, if_pos e, if_pos e]
      split <;> simp [upA, n2]]
    exact hK Z hZ
  unfold wp_X0_liftLine
  simp only [forall_eq]
  rw [lix_en (by omega) (by omega), Int.toNat_natCast]
  refine ⟨fun e => ⟨fun e2 => ?_, fun e2 => ?_⟩, fun e => ?_⟩
  · rw [r1, e_0 (by omega) (by omega)] at e
    rw [vuS, pk_un (by decide), r0, e_0 (by omega) (by omega)] at e2
    rw [f_lift, if_pos e, if_pos e2] at key
    refine key e _ ?_
    repeat' first | exact h | refine Ag.up ?_ ?_ | refine Ag.slf ?_
    all_goals first | rfl | (simp [vuA, updA, n1, n2, r9, en_s]; done)
  · rw [r1, e_0 (by omega) (by omega)] at e
    rw [vuS, pk_un (by decide), r0, e_0 (by omega) (by omega)] at e2
    rw [f_lift, if_pos e, if_neg e2] at key
    exact key e _ (h.slf.up rfl)
  · rw [r1, e_0 (by omega) (by omega)] at e
    rw [f_lift, if_neg e, r_lift, if_neg e] at hK
    exact hK X h
theorem w_hang (h : Ag S X) (hq : 0 ≤ q ∧ q < 1000000) (hI : Inv q S) (hn : n < 16) (hK : ∀ X', Ag (f_hang S (6 + n)) X' → K (en (r_hang S (6 + n))) X') : wp_X0_hangLine X (en (n : Int)) K := by
  have hl := hI.lin n hn
  unfold linOK at hl
  have r0 := h.l (k := 6 + n) (by omega) (j := 0) (by decide)
  have r1 := h.l (k := 6 + n) (by omega) (j := 1) (by decide)
  have r6 := h.l (k := 6 + n) (by omega) (j := 6) (by decide)
  have a0 : va_up X (6 + n) (upd (X (6 + n)) 1 0) (6 + n) 0 = en (S (6 + n) 0) := by rw [vuS, pk_un (by decide), r0]
  have a6 : va_up X (6 + n) (upd (X (6 + n)) 1 0) (6 + n) 6 = en (S (6 + n) 6) := by rw [vuS, pk_un (by decide), r6]
  have hA1 : Ag (up S (6 + n) 1 0) (va_up X (6 + n) (upd (X (6 + n)) 1 0)) := h.slf.up rfl
  unfold wp_X0_hangLine
  rw [lix_en (by omega) (by omega), Int.toNat_natCast]
  simp only [forall_eq]
  rw [q_called a0 (by omega), a6, e_m6 (by omega) (by omega), r0, r1, e_0 (by omega) (by omega)]
  rw [r_hang] at hK
  refine ⟨fun e => ?_, fun e => ?_⟩
  · rw [f_hang, if_pos e, if_pos e] at hK
    exact hK X h
  · rw [f_hang, if_neg e, if_neg e] at hK
    by_cases c : S (6 + n) 0 = 5 ∨ S (6 + n) 0 = 7
    · rw [if_pos c] at hK ⊢
      exact ⟨fun z => absurd z (by decide), fun _ => hK _ hA1⟩
    · rw [if_neg c] at hK ⊢
      refine ⟨fun _ => ⟨fun e2 => ?_, fun e2 => ?_⟩, fun z => absurd rfl z⟩
      · rw [if_pos e2] at hK
        simp only [wp_X2_leaveCall, forall_eq]
        refine hK _ ?_
        repeat' first | exact hA1 | refine Ag.up ?_ ?_ | refine Ag.slf ?_
        all_goals rfl
      · rw [if_neg e2] at hK
        obtain ⟨f, hf⟩ := Int.eq_ofNat_of_zero_le (a := S (6 + n) 6) (by omega)
        have hf4 : f < 4 := by omega
        have hz := hI.fin f hf4
        unfold finOK at hz
        rw [hf, Int.toNat_natCast] at hK
        rw [hf, fix_en (by omega) (by omega), Int.toNat_natCast]
        have n3 : ¬ 22 + f = 6 + n := by omega
        have r9 : va_up X (6 + n) (upd (X (6 + n)) 1 0) (22 + f) 9 = en (S (22 + f) 9) := by rw [vuN n3, h.f (by omega) (by decide)]
        -- the call that is let go
        obtain ⟨t, ht⟩ : ∃ t : Nat, t = lxI (S (22 + f) 9) := ⟨_, rfl⟩
        have htl : lix (en (S (22 + f) 9)) = t := by
          rw [ht, lxI]
          by_cases e3 : S (22 + f) 9 < 0
          · rw [if_pos e3, show S (22 + f) 9 = -6 by omega]; exact lix_no
          · rw [if_neg e3, lix_en (by omega) (by omega)]
        have htr : t = 3 ∨ (6 ≤ t ∧ t < 22) := by
          rw [ht, lxI]; split <;> omega
        have hA1t : ∀ j, j = 0 ∨ (6 ≤ t ∧ j < 9) → va_up X (6 + n) (upd (X (6 + n)) 1 0) t j = en (up S (6 + n) 1 0 t j) := fun j hj => by
          rcases htr with z | z
          · rcases hj with rfl | hj
            · rw [z]; exact hA1.n
            · omega
          · rcases hj with rfl | hj
            · exact hA1.l z (by decide)
            · exact hA1.l z hj.2
        have b0 : 0 ≤ up S (6 + n) 1 0 t 0 ∧ up S (6 + n) 1 0 t 0 < 1000 := by
          rw [upA, if_neg (by omega)]
          rcases htr with z | z
          · rw [z, hI.no]; omega
          · have := hI.lin (t - 6) (by omega)
            rw [show 6 + (t - 6) = t by omega] at this
            unfold linOK at this
            omega
        have fin : ∀ (S2 : SS) (Z : ES), f_rel (up S (6 + n) 1 0) (22 + f) t = bfr S2 (22 + f) → Ag (lvc (bfr S2 (22 + f)) (6 + n) 0) Z → K (en (S (6 + n) 0)) Z := by
          intro S2 Z he h2
          rw [← ht, he] at hK
          exact hK Z h2
        unfold wp_X0_release
        rw [r9, htl, q_called (hA1t 0 (Or.inl rfl)) b0, q_called (hA1t 0 (Or.inl rfl)) b0]
        by_cases g : up S (6 + n) 1 0 t 0 = 5 ∨ up S (6 + n) 1 0 t 0 = 7
        · have ht6 : 6 ≤ t ∧ t < 22 := by
            rcases htr with z | z
            · rw [z] at g
              rw [upA, if_neg (by omega), hI.no] at g
              omega
            · exact z
          have hl2 := hI.lin (t - 6) (by omega)
          rw [show 6 + (t - 6) = t by omega] at hl2
          unfold linOK at hl2
          have b1 : up S (6 + n) 1 0 t 1 = 0 ∨ up S (6 + n) 1 0 t 1 = 1 := by
            rw [upA]; split
            · exact Or.inl rfl
            · exact hl2.2.1
          rw [if_pos g, hA1t 1 (Or.inr ⟨ht6.1, by decide⟩), e_0 (by omega) (by omega)]
          refine ⟨fun z => absurd z (by decide), fun _ => ⟨fun e3 => ⟨fun z => absurd z (by decide), fun _ => ?_⟩, fun e3 => ?_⟩⟩
          · simp only [wp_X1_becomeFree, wp_X1_become, wp_X2_leaveCall, forall_eq]
            refine fin (lvc (up S (6 + n) 1 0) t 0) _ (by rw [f_rel, if_pos g, if_pos e3]) ?_
            repeat' first | exact hA1 | refine Ag.up ?_ ?_ | refine Ag.slf ?_
            all_goals rfl
          · simp only [wp_X1_becomeFree, wp_X1_become, wp_X2_leaveCall, forall_eq]
            refine fin (lvc (up (up S (6 + n) 1 0) t 3 6) t 10) _ (by rw [f_rel, if_pos g, if_neg e3]) ?_
            repeat' first | exact hA1 | refine Ag.up ?_ ?_ | refine Ag.slf ?_
            all_goals rfl
        · rw [if_neg g]
          refine ⟨fun _ => ⟨fun _ => ?_, fun z => absurd rfl z⟩, fun z => absurd rfl z⟩
          simp only [wp_X1_becomeFree, wp_X1_become, wp_X2_leaveCall, forall_eq]
          refine fin (up S (6 + n) 1 0) _ (by rw [f_rel, if_neg g]) ?_
          repeat' first | exact hA1 | refine Ag.up ?_ ?_ | refine Ag.slf ?_
          all_goals rfl
theorem w_dial (h : Ag S X) (hq : 0 ≤ q ∧ q < 1000000) (hI : Inv q S) (hn : n < 16) (hs : S (6 + n) 0 = 2) (hd : S (6 + n) 5 < 4) (p : Int32) (hK : ∀ X', Ag (f_dial S (6 + n) p) X' → K (en (S (6 + n) 5 + 1)) X') : wp_X0_dialDigit X (en (n : Int)) p K := by
  have hl := hI.lin n hn
  unfold linOK at hl
  have r0 := h.l (k := 6 + n) (by omega) (j := 0) (by decide)
  have r4 := h.l (k := 6 + n) (by omega) (j := 4) (by decide)
  have r5 := h.l (k := 6 + n) (by omega) (j := 5) (by decide)
  have key : ∀ Z, Ag (f_dial S (6 + n) p) Z → K (Z (6 + n) 5) Z := fun Z hZ => by
    rw [hZ.l (by omega) (by decide), show f_dial S (6 + n) p (6 + n) 5 = S (6 + n) 5 + 1 by simp [f_dial, upA]]
    exact hK Z hZ
  unfold wp_X0_dialDigit
  rw [lix_en (by omega) (by omega), Int.toNat_natCast]
  simp only [wp_X2_appendDigit, forall_eq]
  refine ⟨fun _ => ⟨fun _ => key _ ?_, fun z => absurd ?_ z⟩, fun z => absurd (by rw [r0, hs]; rfl) z⟩
  · rw [f_dial]
    refine (h.slf.up ?_).up ?_
    · rw [dapp, en_of, r4, r5]
    · rw [pk_un (by decide), r5, en_s]
  · rw [r5, show (4 : Int32) = en 4 from rfl, en_lt (by omega) (by omega) (by omega) (by omega)]
    exact hd
-- what holds stays
theorem Inv.mono {q q' : Int} (hI : Inv q S) (hq : q ≤ q') : Inv q' S := by
  obtain ⟨a, b, c, d, e, r⟩ := hI
  refine ⟨?_, b, c, fun f hf => finOK_mono hq (d f hf), fun n hn => linOK_mono hq (e n hn), r⟩
  unfold hdOK at a ⊢
  omega
theorem i_lift (hI : Inv q S) (hn : n < 16) : Inv (q + 1) (f_lift S (6 + n)) := by
  have hl := hI.lin n hn
  unfold linOK at hl
  have h0 := hI.hd
  unfold hdOK at h0
  have n1 : ¬ 0 = 6 + n := by omega
  have n2 : ¬ 6 + n = 0 := by omega
  unfold f_lift
  by_cases e : S (6 + n) 1 = 0
  · rw [if_pos e]
    by_cases e2 : S (6 + n) 0 = 0
    · rw [if_pos e2]
      have hp : S (6 + n) 6 = -6 := by omega
      refine Inv_line hI (by omega) hn (fun k a b j => by simp [upA, a, b]) ?_ (by simp [upA, n1]) (by simp [upA, n1]) (by simp [upA, n1]; omega) (by simp [upA, n1]) (by simp [upA, n1]) (by simp [upA, n1]) hp (by simp [upA, n2]; exact hp) (by simp [upA, n2]) ?_ (by simp [upA, n2]) (fun _ => by simp [upA, n1, n2]; omega) (by simp [upA, n1, n2, e2, w1])
      · unfold hdOK
        simp [upA, n1]
        omega
      · unfold linOK
        simp [upA, n2]
        omega
    · rw [if_neg e2]
      refine Inv_same hI (by omega) hn (fun k a b j => by simp [upA, a]) ?_ (by simp [upA, n1]) (by simp [upA, n1]) (by simp [upA, n1]) (by simp [upA, n1]) (by simp [upA, n1]) (by simp [upA, n1]) (by simp [upA]) (by simp [upA]) (by simp [upA]) (by simp [upA]) ?_
      · unfold hdOK
        simp [upA, n1]
        omega
      · unfold linOK
        simp [upA]
        omega
  · rw [if_neg e]; exact hI.mono (by omega)
theorem i_dial (hI : Inv q S) (hn : n < 16) (hs : S (6 + n) 0 = 2) (hd : S (6 + n) 5 < 4) (p : Int32) : Inv q (f_dial S (6 + n) p) := by
  have hl := hI.lin n hn
  unfold linOK at hl
  have h0 := hI.hd
  unfold hdOK at h0
  have n1 : ¬ 0 = 6 + n := by omega
  unfold f_dial
  refine Inv_same hI (by omega) hn (fun k a b j => by simp [upA, a]) ?_ (by simp [upA, n1]) (by simp [upA, n1]) (by simp [upA, n1]) (by simp [upA, n1]) (by simp [upA, n1]) (by simp [upA, n1]) (by simp [upA]) (by simp [upA]) (by simp [upA]) (by simp [upA]) ?_
  · unfold hdOK
    simp [upA, n1]
    omega
  · unfold linOK
    simp [upA]
    omega
end AC
