-- ===== questions =====
theorem q_in {a x b : Int} {K : Int32 → Prop} (h1 : a ≤ x) (h2 : x ≤ b) (h3 : -2147483648 ≤ a) (h4 : b < 2147483648) (hK : K 1) : wp_X4_isWithin (en x) (en a) (en b) K := by
  unfold wp_X4_isWithin
  rw [en_lt (by omega) (by omega) (by omega) (by omega), en_lt (by omega) (by omega) (by omega) (by omega)]
  exact ⟨fun z => by omega, fun _ => ⟨fun z => by omega, fun _ => hK⟩⟩
section QU
variable {S : SS} {X : ES} {q : Int} {o n f : Nat} {K : Int32 → Prop}
theorem q_isl (hn : n < 16) (hK : K 1) : wp_X4_isLine (en (n : Int)) K := q_in (a := 0) (b := 15) (by omega) (by omega) (by omega) (by omega) hK
theorem g_finder0 (h : Ag S (vw (o + 1) X)) (hI : Inv q S) (hf : (f : Int) < S 0 5) (hK : K (en (S (22 + f) 0))) : wp_X4_finder o X (en (f : Int)) 0 K := by
  have h0 := hI.hd
  unfold hdOK at h0
  have e5 : X (o + 1) 5 - 1 = en (S 0 5 - 1) := by rw [show X (o + 1) 5 = en (S 0 5) from h.h (by decide) (by decide), en_p]
  unfold wp_X4_finder
  rw [e5]
  refine q_in (a := 0) (by omega) (by omega) (by omega) (by omega) ⟨fun z => absurd z (by decide), fun _ => ?_⟩
  rw [fix_en (by omega) (by omega), Int.toNat_natCast]
  unfold wp_X1_numberFor
  refine ⟨fun _ => ?_, fun z => absurd rfl z⟩
  rw [show X (o + 1 + (22 + f)) 0 = en (S (22 + f) 0) from h.f (k := 22 + f) (by omega) (by decide)]
  exact hK
theorem g_finder1 (h : Ag S (vw (o + 1) X)) (hI : Inv q S) (hf : (f : Int) < S 0 5) (hK : K (en (S (22 + f) 1))) : wp_X4_finder o X (en (f : Int)) 1 K := by
  have h0 := hI.hd
  unfold hdOK at h0
  have e5 : X (o + 1) 5 - 1 = en (S 0 5 - 1) := by rw [show X (o + 1) 5 = en (S 0 5) from h.h (by decide) (by decide), en_p]
  unfold wp_X4_finder
  rw [e5]
  refine q_in (a := 0) (by omega) (by omega) (by omega) (by omega) ⟨fun z => absurd z (by decide), fun _ => ?_⟩
  rw [fix_en (by omega) (by omega), Int.toNat_natCast]
  unfold wp_X1_numberFor
  refine ⟨fun z => absurd z (by decide), fun _ => ⟨fun _ => ?_, fun z => absurd rfl z⟩⟩
  rw [show X (o + 1 + (22 + f)) 1 = en (S (22 + f) 1) from h.f (k := 22 + f) (by omega) (by decide)]
  exact hK
theorem g_finder2 (h : Ag S (vw (o + 1) X)) (hI : Inv q S) (hf : (f : Int) < S 0 5) (hK : K (en (S (22 + f) 2))) : wp_X4_finder o X (en (f : Int)) 2 K := by
  have h0 := hI.hd
  unfold hdOK at h0
  have e5 : X (o + 1) 5 - 1 = en (S 0 5 - 1) := by rw [show X (o + 1) 5 = en (S 0 5) from h.h (by decide) (by decide), en_p]
  unfold wp_X4_finder
  rw [e5]
  refine q_in (a := 0) (by omega) (by omega) (by omega) (by omega) ⟨fun z => absurd z (by decide), fun _ => ?_⟩
  rw [fix_en (by omega) (by omega), Int.toNat_natCast]
  unfold wp_X1_numberFor
  refine ⟨fun z => absurd z (by decide), fun _ => ⟨fun z => absurd z (by decide), fun _ => ⟨fun _ => ?_, fun z => absurd rfl z⟩⟩⟩
  rw [show X (o + 1 + (22 + f)) 2 = en (S (22 + f) 2) from h.f (k := 22 + f) (by omega) (by decide)]
  exact hK
theorem g_finder3 (h : Ag S (vw (o + 1) X)) (hI : Inv q S) (hf : (f : Int) < S 0 5) (hK : K (en (S (22 + f) 3))) : wp_X4_finder o X (en (f : Int)) 3 K := by
  have h0 := hI.hd
  unfold hdOK at h0
  have e5 : X (o + 1) 5 - 1 = en (S 0 5 - 1) := by rw [show X (o + 1) 5 = en (S 0 5) from h.h (by decide) (by decide), en_p]
  unfold wp_X4_finder
  rw [e5]
  refine q_in (a := 0) (by omega) (by omega) (by omega) (by omega) ⟨fun z => absurd z (by decide), fun _ => ?_⟩
  rw [fix_en (by omega) (by omega), Int.toNat_natCast]
  unfold wp_X1_numberFor
  refine ⟨fun z => absurd z (by decide), fun _ => ⟨fun z => absurd z (by decide), fun _ => ⟨fun z => absurd z (by decide), fun _ => ⟨fun _ => ?_, fun z => absurd rfl z⟩⟩⟩⟩
  rw [show X (o + 1 + (22 + f)) 3 = en (S (22 + f) 3) from h.f (k := 22 + f) (by omega) (by decide)]
  exact hK
theorem g_finder4 (h : Ag S (vw (o + 1) X)) (hI : Inv q S) (hf : (f : Int) < S 0 5) (hK : K (en (S (22 + f) 4))) : wp_X4_finder o X (en (f : Int)) 4 K := by
  have h0 := hI.hd
  unfold hdOK at h0
  have e5 : X (o + 1) 5 - 1 = en (S 0 5 - 1) := by rw [show X (o + 1) 5 = en (S 0 5) from h.h (by decide) (by decide), en_p]
  unfold wp_X4_finder
  rw [e5]
  refine q_in (a := 0) (by omega) (by omega) (by omega) (by omega) ⟨fun z => absurd z (by decide), fun _ => ?_⟩
  rw [fix_en (by omega) (by omega), Int.toNat_natCast]
  unfold wp_X1_numberFor
  refine ⟨fun z => absurd z (by decide), fun _ => ⟨fun z => absurd z (by decide), fun _ => ⟨fun z => absurd z (by decide), fun _ => ⟨fun z => absurd z (by decide), fun _ => ⟨fun _ => ?_, fun z => absurd rfl z⟩⟩⟩⟩⟩
  rw [show X (o + 1 + (22 + f)) 4 = en (S (22 + f) 4) from h.f (k := 22 + f) (by omega) (by decide)]
  exact hK
theorem g_finder5 (h : Ag S (vw (o + 1) X)) (hI : Inv q S) (hf : (f : Int) < S 0 5) (hK : K (en (S (22 + f) 5))) : wp_X4_finder o X (en (f : Int)) 5 K := by
  have h0 := hI.hd
  unfold hdOK at h0
  have e5 : X (o + 1) 5 - 1 = en (S 0 5 - 1) := by rw [show X (o + 1) 5 = en (S 0 5) from h.h (by decide) (by decide), en_p]
  unfold wp_X4_finder
  rw [e5]
  refine q_in (a := 0) (by omega) (by omega) (by omega) (by omega) ⟨fun z => absurd z (by decide), fun _ => ?_⟩
  rw [fix_en (by omega) (by omega), Int.toNat_natCast]
  unfold wp_X1_numberFor
  refine ⟨fun z => absurd z (by decide), fun _ => ⟨fun z => absurd z (by decide), fun _ => ⟨fun z => absurd z (by decide), fun _ => ⟨fun z => absurd z (by decide), fun _ => ⟨fun z => absurd z (by decide), fun _ => ⟨fun _ => ?_, fun z => absurd rfl z⟩⟩⟩⟩⟩⟩
  rw [show X (o + 1 + (22 + f)) 5 = en (S (22 + f) 5) from h.f (k := 22 + f) (by omega) (by decide)]
  exact hK
theorem g_finder6 (h : Ag S (vw (o + 1) X)) (hI : Inv q S) (hf : (f : Int) < S 0 5) (hK : K (en (S (22 + f) 7))) : wp_X4_finder o X (en (f : Int)) 6 K := by
  have h0 := hI.hd
  unfold hdOK at h0
  have e5 : X (o + 1) 5 - 1 = en (S 0 5 - 1) := by rw [show X (o + 1) 5 = en (S 0 5) from h.h (by decide) (by decide), en_p]
  unfold wp_X4_finder
  rw [e5]
  refine q_in (a := 0) (by omega) (by omega) (by omega) (by omega) ⟨fun z => absurd z (by decide), fun _ => ?_⟩
  rw [fix_en (by omega) (by omega), Int.toNat_natCast]
  unfold wp_X1_numberFor
  refine ⟨fun z => absurd z (by decide), fun _ => ⟨fun z => absurd z (by decide), fun _ => ⟨fun z => absurd z (by decide), fun _ => ⟨fun z => absurd z (by decide), fun _ => ⟨fun z => absurd z (by decide), fun _ => ⟨fun z => absurd z (by decide), fun _ => ⟨fun _ => ?_, fun z => absurd rfl z⟩⟩⟩⟩⟩⟩⟩
  rw [show X (o + 1 + (22 + f)) 7 = en (S (22 + f) 7) from h.f (k := 22 + f) (by omega) (by decide)]
  exact hK
theorem g_finder7 (h : Ag S (vw (o + 1) X)) (hI : Inv q S) (hf : (f : Int) < S 0 5) (hK : K (en (S (22 + f) 8))) : wp_X4_finder o X (en (f : Int)) 7 K := by
  have h0 := hI.hd
  unfold hdOK at h0
  have e5 : X (o + 1) 5 - 1 = en (S 0 5 - 1) := by rw [show X (o + 1) 5 = en (S 0 5) from h.h (by decide) (by decide), en_p]
  unfold wp_X4_finder
  rw [e5]
  refine q_in (a := 0) (by omega) (by omega) (by omega) (by omega) ⟨fun z => absurd z (by decide), fun _ => ?_⟩
  rw [fix_en (by omega) (by omega), Int.toNat_natCast]
  unfold wp_X1_numberFor
  refine ⟨fun z => absurd z (by decide), fun _ => ⟨fun z => absurd z (by decide), fun _ => ⟨fun z => absurd z (by decide), fun _ => ⟨fun z => absurd z (by decide), fun _ => ⟨fun z => absurd z (by decide), fun _ => ⟨fun z => absurd z (by decide), fun _ => ⟨fun z => absurd z (by decide), fun _ => ⟨fun _ => ?_, fun z => absurd rfl z⟩⟩⟩⟩⟩⟩⟩⟩
  rw [show X (o + 1 + (22 + f)) 8 = en (S (22 + f) 8) from h.f (k := 22 + f) (by omega) (by decide)]
  exact hK
theorem g_line0 (h : Ag S (vw (o + 1) X)) (hn : n < 16) (hK : K (en (S (6 + n) 0))) : wp_X4_line o X (en (n : Int)) 0 K := by
  unfold wp_X4_line
  refine q_isl hn ⟨fun z => absurd z (by decide), fun _ => ?_⟩
  unfold wp_X0_numberOfLine
  refine ⟨fun _ => ?_, fun z => absurd rfl z⟩
  rw [lix_en (by omega) (by omega), Int.toNat_natCast, h.l (k := 6 + n) (by omega) (by decide)]
  exact hK
theorem g_line2 (h : Ag S (vw (o + 1) X)) (hn : n < 16) (hK : K (en (S (6 + n) 6))) : wp_X4_line o X (en (n : Int)) 2 K := by
  unfold wp_X4_line
  refine q_isl hn ⟨fun z => absurd z (by decide), fun _ => ?_⟩
  unfold wp_X0_numberOfLine
  refine ⟨fun z => absurd z (by decide), fun _ => ⟨fun z => absurd z (by decide), fun _ => ⟨fun _ => ?_, fun z => absurd rfl z⟩⟩⟩
  rw [lix_en (by omega) (by omega), Int.toNat_natCast, h.l (k := 6 + n) (by omega) (by decide)]
  exact hK
theorem g_line4 (h : Ag S (vw (o + 1) X)) (hn : n < 16) (hK : K (en (S (6 + n) 5))) : wp_X4_line o X (en (n : Int)) 4 K := by
  unfold wp_X4_line
  refine q_isl hn ⟨fun z => absurd z (by decide), fun _ => ?_⟩
  unfold wp_X0_numberOfLine
  refine ⟨fun z => absurd z (by decide), fun _ => ⟨fun z => absurd z (by decide), fun _ => ⟨fun z => absurd z (by decide), fun _ => ⟨fun z => absurd z (by decide), fun _ => ⟨fun _ => ?_, fun z => absurd rfl z⟩⟩⟩⟩⟩
  rw [lix_en (by omega) (by omega), Int.toNat_natCast, h.l (k := 6 + n) (by omega) (by decide)]
  exact hK
theorem g_line5 (h : Ag S (vw (o + 1) X)) (hn : n < 16) (hK : K (en (S (6 + n) 2))) : wp_X4_line o X (en (n : Int)) 5 K := by
  unfold wp_X4_line
  refine q_isl hn ⟨fun z => absurd z (by decide), fun _ => ?_⟩
  unfold wp_X0_numberOfLine
  refine ⟨fun z => absurd z (by decide), fun _ => ⟨fun z => absurd z (by decide), fun _ => ⟨fun z => absurd z (by decide), fun _ => ⟨fun z => absurd z (by decide), fun _ => ⟨fun z => absurd z (by decide), fun _ => ⟨fun _ => ?_, fun z => absurd rfl z⟩⟩⟩⟩⟩⟩
  rw [lix_en (by omega) (by omega), Int.toNat_natCast, h.l (k := 6 + n) (by omega) (by decide)]
  exact hK
theorem g_line1 (h : Ag S (vw (o + 1) X)) (hI : Inv q S) (hn : n < 16) (hK : K (en (S (6 + n) 1))) : wp_X4_line o X (en (n : Int)) 1 K := by
  have hl := hI.lin n hn
  unfold linOK at hl
  unfold wp_X4_line
  refine q_isl hn ⟨fun z => absurd z (by decide), fun _ => ?_⟩
  unfold wp_X0_numberOfLine
  refine ⟨fun z => absurd z (by decide), fun _ => ⟨fun _ => ?_, fun z => absurd rfl z⟩⟩
  rw [lix_en (by omega) (by omega), Int.toNat_natCast, h.l (k := 6 + n) (by omega) (by decide), e_0 (by omega) (by omega)]
  rcases hl.2.1 with e | e <;> rw [e] at hK ⊢
  · exact ⟨fun _ => hK, fun z => absurd rfl z⟩
  · exact ⟨fun z => absurd z (by decide), fun _ => hK⟩
theorem q_calls {L : CS} {s : Int} {K : Int32 → Prop} (h0 : L 0 = en s) (b0 : 0 ≤ s ∧ s < 1000) : wp_X2_callsAnother L K = K (if s = 4 ∨ s = 6 then 1 else 0) := by
  unfold wp_X2_callsAnother
  rw [h0, e_4 (by omega) (by omega), e_6 (by omega) (by omega)]
  by_cases a : s = 4
  · simp [a]
  · by_cases b : s = 6
    · simp [b]
    · simp [a, b]
/-- the partner of a line in a call -/
theorem g_line3 (h : Ag S (vw (o + 1) X)) (hI : Inv q S) (hn : n < 16) (hf : f < 4) (hlk : S (6 + n) 6 = (f : Int)) {v : Int} (hv : ((S (6 + n) 0 = 4 ∨ S (6 + n) 0 = 6) ∧ v = S (22 + f) 9) ∨ ((S (6 + n) 0 = 5 ∨ S (6 + n) 0 = 7) ∧ v = S (22 + f) 2)) (hK : K (en v)) : wp_X4_line o X (en (n : Int)) 3 K := by
  have hl := hI.lin n hn
  unfold linOK at hl
  have r0 : vw (o + 1) X (6 + n) 0 = en (S (6 + n) 0) := h.l (k := 6 + n) (by omega) (by decide)
  unfold wp_X4_line
  refine q_isl hn ⟨fun z => absurd z (by decide), fun _ => ?_⟩
  unfold wp_X0_numberOfLine
  refine ⟨fun z => absurd z (by decide), fun _ => ⟨fun z => absurd z (by decide), fun _ => ⟨fun z => absurd z (by decide), fun _ => ⟨fun _ => ?_, fun z => absurd rfl z⟩⟩⟩⟩
  rw [lix_en (by omega) (by omega), Int.toNat_natCast]
  unfold wp_X0_partnerOf
  rw [q_calls r0 (by omega), q_called r0 (by omega), h.l (k := 6 + n) (j := 6) (by omega) (by decide), hlk, fix_en (by omega) (by omega), Int.toNat_natCast, h.f (k := 22 + f) (j := 9) (by omega) (by decide), h.f (k := 22 + f) (j := 2) (by omega) (by decide)]
  rcases hv with ⟨a, b⟩ | ⟨a, b⟩
  · rw [if_pos a, ← b]
    exact ⟨fun z => absurd z (by decide), fun _ => hK⟩
  · rw [if_neg (by omega), if_pos a, ← b]
    exact ⟨fun _ => ⟨fun z => absurd z (by decide), fun _ => hK⟩, fun z => absurd rfl z⟩
/-- whether a line waits and isn't sought -/
def uI (S : SS) (n : Nat) : Int := if S (6 + n) 0 = 1 ∧ S (6 + n) 6 = -6 then 1 else 0
def bef (S : SS) (n m : Nat) : Int := if (S (6 + m) 0 = 1 ∧ S (6 + m) 6 = -6) ∧ S (6 + m) 7 < S (6 + n) 7 then 1 else 0
def plc (S : SS) (n : Nat) : Int := if S (6 + n) 0 = 1 ∧ S (6 + n) 6 = -6 then sm (bef S n) 16 else -6
theorem bef_rng (n m : Nat) : 0 ≤ bef S n m ∧ bef S n m ≤ 1 := by unfold bef; split <;> omega
theorem sm_rng {g : Nat → Int} {b : Int} (h : ∀ i, 0 ≤ g i ∧ g i ≤ b) : ∀ n : Nat, 0 ≤ sm g n ∧ sm g n ≤ b * n
  | 0 => by simp [sm]
  | n + 1 => by
    have a := sm_rng h n
    have c := h n
    simp only [sm]
    have e : b * ((n + 1 : Nat) : Int) = b * n + b := by rw [Int.natCast_add, Int.mul_add]; simp
    omega
theorem w_plc (h : Ag S (vw (o + 1) X)) (hq : 0 ≤ q ∧ q < 1000000) (hI : Inv q S) (hn : n < 16) : ∀ (m i : Nat) (v : Int), i + m = 16 → v = sm (bef S n) i → K (en (sm (bef S n) 16)) → wpl_X0_placeOf_14 (vw (o + 1) X) (6 + n) K (fun j _ => K j) (m + 1) (en v) (en (i : Int))
  | 0, i, v, h1, h2, hK => by
    have e : i = 16 := by omega
    subst e
    rw [wpl_X0_placeOf_14, h2]
    exact ⟨fun _ => hK, fun z => absurd (show (16 : Int32) ≤ 16 by decide) z⟩
  | m + 1, i, v, h1, h2, hK => by
    have hl := hI.lin i (by omega)
    unfold linOK at hl
    have hl2 := hI.lin n hn
    unfold linOK at hl2
    have r0 : vw (o + 1) X (6 + i) 0 = en (S (6 + i) 0) := h.l (k := 6 + i) (by omega) (by decide)
    have r6 : vw (o + 1) X (6 + i) 6 = en (S (6 + i) 6) := h.l (k := 6 + i) (by omega) (by decide)
    have hs := sm_rng (g := bef S n) (b := 1) (fun j => bef_rng n j) i
    rw [wpl_X0_placeOf_14]
    refine ⟨fun z => absurd z ?_, fun _ => ?_⟩
    · rw [show (16 : Int32) = en 16 from rfl, en_le (by omega) (by omega) (by omega) (by omega)]
      omega
    · rw [lix_en (by omega) (by omega), Int.toNat_natCast, q_wait r0 r6 (by omega) (by omega), h.l (k := 6 + n) (j := 7) (by omega) (by decide), h.l (k := 6 + i) (j := 7) (by omega) (by decide), en_le (by omega) (by omega) (by omega) (by omega)]
      simp only [forall_eq]
      rw [show en (i : Int) + 1 = en ((i + 1 : Nat) : Int) from en_s _, en_s]
      have e1 : sm (bef S n) (i + 1) = v + bef S n i := by rw [h2]; rfl
      by_cases a : S (6 + i) 0 = 1 ∧ S (6 + i) 6 = -6
      · rw [if_pos a]
        refine ⟨fun z => absurd z (by decide), fun _ => ⟨fun e => ?_, fun e => ?_⟩⟩
        · exact w_plc h hq hI hn m (i + 1) v (by omega) (by rw [e1, bef, if_neg (fun z => by omega)]; omega) hK
        · exact w_plc h hq hI hn m (i + 1) (v + 1) (by omega) (by rw [e1, bef, if_pos ⟨a, by omega⟩]) hK
      · rw [if_neg a]
        exact ⟨fun _ => w_plc h hq hI hn m (i + 1) v (by omega) (by rw [e1, bef, if_neg (fun z => a z.1)]; omega) hK, fun z => absurd rfl z⟩
theorem g_line7 (h : Ag S (vw (o + 1) X)) (hq : 0 ≤ q ∧ q < 1000000) (hI : Inv q S) (hn : n < 16) (hK : K (en (plc S n))) : wp_X4_line o X (en (n : Int)) 7 K := by
  have hl := hI.lin n hn
  unfold linOK at hl
  have r0 : vw (o + 1) X (6 + n) 0 = en (S (6 + n) 0) := h.l (k := 6 + n) (by omega) (by decide)
  have r6 : vw (o + 1) X (6 + n) 6 = en (S (6 + n) 6) := h.l (k := 6 + n) (by omega) (by decide)
  unfold wp_X4_line
  refine q_isl hn ⟨fun z => absurd z (by decide), fun _ => ?_⟩
  unfold wp_X0_numberOfLine
  refine ⟨fun z => absurd z (by decide), fun _ => ⟨fun z => absurd z (by decide), fun _ => ⟨fun z => absurd z (by decide), fun _ => ⟨fun z => absurd z (by decide), fun _ => ⟨fun z => absurd z (by decide), fun _ => ⟨fun z => absurd z (by decide), fun _ => ⟨fun z => absurd z (by decide), fun _ => ⟨fun _ => ?_, fun z => absurd rfl z⟩⟩⟩⟩⟩⟩⟩⟩
  rw [lix_en (by omega) (by omega), Int.toNat_natCast]
  unfold wp_X0_placeOf
  rw [q_wait r0 r6 (by omega) (by omega)]
  unfold plc at hK
  by_cases a : S (6 + n) 0 = 1 ∧ S (6 + n) 6 = -6
  · rw [if_pos a] at hK ⊢
    exact ⟨fun z => absurd z (by decide), fun _ => ⟨17, w_plc h hq hI hn 16 0 0 rfl rfl hK⟩⟩
  · rw [if_neg a] at hK ⊢
    exact ⟨fun _ => hK, fun z => absurd rfl z⟩
theorem g_count0 (h : Ag S (vw (o + 1) X)) (hK : K (en (S 0 7))) : wp_X4_count o X 0 K := by
  unfold wp_X4_count
  refine ⟨fun z => absurd z (by decide), fun _ => ?_⟩
  unfold wp_X0_numberFor
  refine ⟨fun _ => ?_, fun z => absurd rfl z⟩
  rw [h.h (by decide) (by decide)]
  exact hK
theorem g_count1 (h : Ag S (vw (o + 1) X)) (hK : K (en (S 0 5))) : wp_X4_count o X 1 K := by
  unfold wp_X4_count
  refine ⟨fun z => absurd z (by decide), fun _ => ?_⟩
  unfold wp_X0_numberFor
  refine ⟨fun z => absurd z (by decide), fun _ => ⟨fun _ => ?_, fun z => absurd rfl z⟩⟩
  rw [h.h (by decide) (by decide)]
  exact hK
theorem g_count2 (h : Ag S (vw (o + 1) X)) (hK : K (en (S 0 6))) : wp_X4_count o X 2 K := by
  unfold wp_X4_count
  refine ⟨fun z => absurd z (by decide), fun _ => ?_⟩
  unfold wp_X0_numberFor
  refine ⟨fun z => absurd z (by decide), fun _ => ⟨fun z => absurd z (by decide), fun _ => ⟨fun _ => ?_, fun z => absurd rfl z⟩⟩⟩
  rw [h.h (by decide) (by decide)]
  exact hK
theorem g_count6 (h : Ag S (vw (o + 1) X)) (hK : K (en (S 0 9))) : wp_X4_count o X 6 K := by
  unfold wp_X4_count
  refine ⟨fun z => absurd z (by decide), fun _ => ?_⟩
  unfold wp_X0_numberFor
  refine ⟨fun z => absurd z (by decide), fun _ => ⟨fun z => absurd z (by decide), fun _ => ⟨fun z => absurd z (by decide), fun _ => ⟨fun z => absurd z (by decide), fun _ => ⟨fun z => absurd z (by decide), fun _ => ⟨fun z => absurd z (by decide), fun _ => ⟨fun _ => ?_, fun z => absurd rfl z⟩⟩⟩⟩⟩⟩⟩
  rw [h.h (by decide) (by decide)]
  exact hK
theorem g_count7 (h : Ag S (vw (o + 1) X)) (hK : K (en (S 0 10))) : wp_X4_count o X 7 K := by
  unfold wp_X4_count
  refine ⟨fun z => absurd z (by decide), fun _ => ?_⟩
  unfold wp_X0_numberFor
  refine ⟨fun z => absurd z (by decide), fun _ => ⟨fun z => absurd z (by decide), fun _ => ⟨fun z => absurd z (by decide), fun _ => ⟨fun z => absurd z (by decide), fun _ => ⟨fun z => absurd z (by decide), fun _ => ⟨fun z => absurd z (by decide), fun _ => ⟨fun z => absurd z (by decide), fun _ => ⟨fun _ => ?_, fun z => absurd rfl z⟩⟩⟩⟩⟩⟩⟩⟩
  rw [h.h (by decide) (by decide)]
  exact hK
theorem g_count8 (h : Ag S (vw (o + 1) X)) (hK : K (en (S 0 11))) : wp_X4_count o X 8 K := by
  unfold wp_X4_count
  refine ⟨fun z => absurd z (by decide), fun _ => ?_⟩
  unfold wp_X0_numberFor
  refine ⟨fun z => absurd z (by decide), fun _ => ⟨fun z => absurd z (by decide), fun _ => ⟨fun z => absurd z (by decide), fun _ => ⟨fun z => absurd z (by decide), fun _ => ⟨fun z => absurd z (by decide), fun _ => ⟨fun z => absurd z (by decide), fun _ => ⟨fun z => absurd z (by decide), fun _ => ⟨fun z => absurd z (by decide), fun _ => ⟨fun _ => ?_, fun z => absurd rfl z⟩⟩⟩⟩⟩⟩⟩⟩⟩
  rw [h.h (by decide) (by decide)]
  exact hK
theorem g_count9 (h : Ag S (vw (o + 1) X)) (hK : K (en (S 0 12))) : wp_X4_count o X 9 K := by
  unfold wp_X4_count
  refine ⟨fun z => absurd z (by decide), fun _ => ?_⟩
  unfold wp_X0_numberFor
  refine ⟨fun z => absurd z (by decide), fun _ => ⟨fun z => absurd z (by decide), fun _ => ⟨fun z => absurd z (by decide), fun _ => ⟨fun z => absurd z (by decide), fun _ => ⟨fun z => absurd z (by decide), fun _ => ⟨fun z => absurd z (by decide), fun _ => ⟨fun z => absurd z (by decide), fun _ => ⟨fun z => absurd z (by decide), fun _ => ⟨fun z => absurd z (by decide), fun _ => ⟨fun _ => ?_, fun z => absurd rfl z⟩⟩⟩⟩⟩⟩⟩⟩⟩⟩
  rw [h.h (by decide) (by decide)]
  exact hK
theorem g_count15 (h : Ag S (vw (o + 1) X)) (hK : K (en (S 5 0))) : wp_X4_count o X 15 K := by
  unfold wp_X4_count
  refine ⟨fun z => absurd z (by decide), fun _ => ?_⟩
  unfold wp_X0_numberFor
  refine ⟨fun z => absurd z (by decide), fun _ => ⟨fun z => absurd z (by decide), fun _ => ⟨fun z => absurd z (by decide), fun _ => ⟨fun z => absurd z (by decide), fun _ => ⟨fun z => absurd z (by decide), fun _ => ⟨fun z => absurd z (by decide), fun _ => ⟨fun z => absurd z (by decide), fun _ => ⟨fun z => absurd z (by decide), fun _ => ⟨fun z => absurd z (by decide), fun _ => ⟨fun z => absurd z (by decide), fun _ => ⟨fun z => absurd z (by decide), fun _ => ⟨fun z => absurd z (by decide), fun _ => ⟨fun z => absurd z (by decide), fun _ => ⟨fun z => absurd z (by decide), fun _ => ?_⟩⟩⟩⟩⟩⟩⟩⟩⟩⟩⟩⟩⟩⟩
  rw [show (15 : Int32) - 15 = 0 by decide, stg_0, h.s (by decide)]
  exact hK
theorem g_count16 (h : Ag S (vw (o + 1) X)) (hK : K (en (S 5 1))) : wp_X4_count o X 16 K := by
  unfold wp_X4_count
  refine ⟨fun z => absurd z (by decide), fun _ => ?_⟩
  unfold wp_X0_numberFor
  refine ⟨fun z => absurd z (by decide), fun _ => ⟨fun z => absurd z (by decide), fun _ => ⟨fun z => absurd z (by decide), fun _ => ⟨fun z => absurd z (by decide), fun _ => ⟨fun z => absurd z (by decide), fun _ => ⟨fun z => absurd z (by decide), fun _ => ⟨fun z => absurd z (by decide), fun _ => ⟨fun z => absurd z (by decide), fun _ => ⟨fun z => absurd z (by decide), fun _ => ⟨fun z => absurd z (by decide), fun _ => ⟨fun z => absurd z (by decide), fun _ => ⟨fun z => absurd z (by decide), fun _ => ⟨fun z => absurd z (by decide), fun _ => ⟨fun z => absurd z (by decide), fun _ => ?_⟩⟩⟩⟩⟩⟩⟩⟩⟩⟩⟩⟩⟩⟩
  rw [show (16 : Int32) - 15 = 1 by decide, stg_1, h.s (by decide)]
  exact hK
theorem g_count18 (h : Ag S (vw (o + 1) X)) (hK : K (en (S 5 3))) : wp_X4_count o X 18 K := by
  unfold wp_X4_count
  refine ⟨fun z => absurd z (by decide), fun _ => ?_⟩
  unfold wp_X0_numberFor
  refine ⟨fun z => absurd z (by decide), fun _ => ⟨fun z => absurd z (by decide), fun _ => ⟨fun z => absurd z (by decide), fun _ => ⟨fun z => absurd z (by decide), fun _ => ⟨fun z => absurd z (by decide), fun _ => ⟨fun z => absurd z (by decide), fun _ => ⟨fun z => absurd z (by decide), fun _ => ⟨fun z => absurd z (by decide), fun _ => ⟨fun z => absurd z (by decide), fun _ => ⟨fun z => absurd z (by decide), fun _ => ⟨fun z => absurd z (by decide), fun _ => ⟨fun z => absurd z (by decide), fun _ => ⟨fun z => absurd z (by decide), fun _ => ⟨fun z => absurd z (by decide), fun _ => ?_⟩⟩⟩⟩⟩⟩⟩⟩⟩⟩⟩⟩⟩⟩
  rw [show (18 : Int32) - 15 = 3 by decide, stg_3, h.s (by decide)]
  exact hK
def frI (S : SS) (f : Nat) : Int := if S (22 + f) 0 = 0 then 1 else 0
def hdI (S : SS) (f : Nat) : Int := if 5 ≤ S (22 + f) 0 ∧ S (22 + f) 0 ≤ 8 then 1 else 0
theorem w_free (h : Ag S (vw (o + 1) X)) (hI : Inv q S) : ∀ (m i : Nat) (v : Int), (i : Int) + m = S 0 5 → v = sm (frI S) i → K (en (sm (frI S) (S 0 5).toNat)) → wpl_X0_freeFinders_4 (vw (o + 1) X) K (fun j _ => K j) (m + 1) (en v) (en (i : Int))
  | 0, i, v, h1, h2, hK => by
    have h0 := hI.hd
    unfold hdOK at h0
    rw [wpl_X0_freeFinders_4, h.h (by decide) (by decide), en_le (by omega) (by omega) (by omega) (by omega)]
    rw [show (S 0 5).toNat = i by omega, ← h2] at hK
    exact ⟨fun _ => hK, fun z => by omega⟩
  | m + 1, i, v, h1, h2, hK => by
    have h0 := hI.hd
    unfold hdOK at h0
    have hz := hI.fin i (by omega)
    unfold finOK at hz
    rw [wpl_X0_freeFinders_4, h.h (by decide) (by decide), en_le (by omega) (by omega) (by omega) (by omega)]
    refine ⟨fun z => by omega, fun _ => ?_⟩
    rw [fix_en (by omega) (by omega), Int.toNat_natCast, h.f (k := 22 + i) (by omega) (by decide), e_0 (by omega) (by omega)]
    simp only [forall_eq]
    rw [show en (i : Int) + 1 = en ((i + 1 : Nat) : Int) from en_s _, en_s]
    have e1 : sm (frI S) (i + 1) = v + frI S i := by rw [h2]; rfl
    refine ⟨fun e => ?_, fun e => ?_⟩
    · exact w_free h hI m (i + 1) (v + 1) (by omega) (by rw [e1, frI, if_pos e]) hK
    · exact w_free h hI m (i + 1) v (by omega) (by rw [e1, frI, if_neg e]; omega) hK
theorem g_count3 (h : Ag S (vw (o + 1) X)) (hI : Inv q S) (hK : K (en (sm (frI S) (S 0 5).toNat))) : wp_X4_count o X 3 K := by
  have h0 := hI.hd
  unfold hdOK at h0
  unfold wp_X4_count
  refine ⟨fun z => absurd z (by decide), fun _ => ?_⟩
  unfold wp_X0_numberFor
  refine ⟨fun z => absurd z (by decide), fun _ => ⟨fun z => absurd z (by decide), fun _ => ⟨fun z => absurd z (by decide), fun _ => ⟨fun _ => ?_, fun z => absurd rfl z⟩⟩⟩⟩
  exact ⟨(S 0 5).toNat + 1, w_free h hI (S 0 5).toNat 0 0 (by omega) rfl hK⟩
theorem w_held (h : Ag S (vw (o + 1) X)) (hI : Inv q S) : ∀ (m i : Nat) (v : Int), (i : Int) + m = S 0 5 → v = 4 * S 0 6 - sm (hdI S) i → K (en (4 * S 0 6 - sm (hdI S) (S 0 5).toNat)) → wpl_X0_freeConnectors_9 (vw (o + 1) X) K (fun j _ => K j) (m + 1) (en v) (en (i : Int))
  | 0, i, v, h1, h2, hK => by
    have h0 := hI.hd
    unfold hdOK at h0
    rw [wpl_X0_freeConnectors_9, h.h (by decide) (by decide), en_le (by omega) (by omega) (by omega) (by omega)]
    rw [show (S 0 5).toNat = i by omega, ← h2] at hK
    exact ⟨fun _ => hK, fun z => by omega⟩
  | m + 1, i, v, h1, h2, hK => by
    have h0 := hI.hd
    unfold hdOK at h0
    have hz := hI.fin i (by omega)
    unfold finOK at hz
    rw [wpl_X0_freeConnectors_9, h.h (by decide) (by decide), en_le (by omega) (by omega) (by omega) (by omega)]
    refine ⟨fun z => by omega, fun _ => ?_⟩
    rw [fix_en (by omega) (by omega), Int.toNat_natCast, q_hold (h.f (k := 22 + i) (by omega) (by decide)) (by omega) (by omega)]
    simp only [forall_eq]
    rw [show en (i : Int) + 1 = en ((i + 1 : Nat) : Int) from en_s _, show en v + (-1) = en (v - 1) from by rw [show (-1 : Int32) = en (-1) from rfl, en_add]; rfl]
    have e1 : 4 * S 0 6 - sm (hdI S) (i + 1) = v - hdI S i := by rw [h2]; simp only [sm]; omega
    by_cases e : 5 ≤ S (22 + i) 0 ∧ S (22 + i) 0 ≤ 8
    · rw [if_pos e]
      exact ⟨fun z => absurd z (by decide), fun _ => w_held h hI m (i + 1) (v - 1) (by omega) (by rw [e1, hdI, if_pos e]) hK⟩
    · rw [if_neg e]
      exact ⟨fun _ => w_held h hI m (i + 1) v (by omega) (by rw [e1, hdI, if_neg e]; omega) hK, fun z => absurd rfl z⟩
theorem g_count4 (h : Ag S (vw (o + 1) X)) (hI : Inv q S) (hK : K (en (4 * S 0 6 - sm (hdI S) (S 0 5).toNat))) : wp_X4_count o X 4 K := by
  have h0 := hI.hd
  unfold hdOK at h0
  unfold wp_X4_count
  refine ⟨fun z => absurd z (by decide), fun _ => ?_⟩
  unfold wp_X0_numberFor
  refine ⟨fun z => absurd z (by decide), fun _ => ⟨fun z => absurd z (by decide), fun _ => ⟨fun z => absurd z (by decide), fun _ => ⟨fun z => absurd z (by decide), fun _ => ⟨fun _ => ?_, fun z => absurd rfl z⟩⟩⟩⟩⟩
  unfold wp_X0_freeConnectors
  intro v ev
  rw [h.h (by decide) (by decide), show (4 : Int32) = en 4 from rfl, en_mul] at ev
  subst ev
  exact ⟨(S 0 5).toNat + 1, w_held h hI (S 0 5).toNat 0 (4 * S 0 6) (by omega) (by simp [sm]) hK⟩
theorem w_sum {P : Prop} {g : Nat → Int} {wl : Nat → Int32 → Int32 → Prop} (h0 : ∀ (m i : Nat) (v : Int), i < 16 → wl m (en (v + g i)) (en ((i + 1 : Nat) : Int)) → wl (m + 1) (en v) (en (i : Int))) (h1 : ∀ v : Int, v = sm g 16 → P → wl 1 (en v) 16) : ∀ (m i : Nat) (v : Int), i + m = 16 → v = sm g i → P → wl (m + 1) (en v) (en (i : Int))
  | 0, i, v, e, h2, hP => by
    have e : i = 16 := by omega
    subst e
    exact h1 v h2 hP
  | m + 1, i, v, e, h2, hP => h0 (m + 1) i v (by omega) (w_sum h0 h1 m (i + 1) (v + g i) (by omega) (by rw [h2]; rfl) hP)
theorem g_count5 (h : Ag S (vw (o + 1) X)) (hK : K (en (sm (fun n => S (6 + n) 2) 16))) : wp_X4_count o X 5 K := by
  unfold wp_X4_count
  refine ⟨fun z => absurd z (by decide), fun _ => ?_⟩
  unfold wp_X0_numberFor
  refine ⟨fun z => absurd z (by decide), fun _ => ⟨fun z => absurd z (by decide), fun _ => ⟨fun z => absurd z (by decide), fun _ => ⟨fun z => absurd z (by decide), fun _ => ⟨fun z => absurd z (by decide), fun _ => ⟨fun _ => ?_, fun z => absurd rfl z⟩⟩⟩⟩⟩⟩
  refine ⟨17, w_sum (P := K (en (sm (fun n => S (6 + n) 2) 16))) (g := fun n => S (6 + n) 2) (wl := fun m a b => wpl_X0_sumOfMeters_4 (vw (o + 1) X) K (fun j _ => K j) m a b) (fun m i v hi hw => ?_) (fun v hv hP => ?_) 16 0 0 rfl rfl hK⟩
  · rw [wpl_X0_sumOfMeters_4]
    refine ⟨fun z => absurd z ?_, fun _ => ?_⟩
    · rw [show (16 : Int32) = en 16 from rfl, en_le (by omega) (by omega) (by omega) (by omega)]
      omega
    · simp only [forall_eq]
      rw [lix_en (by omega) (by omega), Int.toNat_natCast, h.l (k := 6 + i) (by omega) (by decide), en_add, show en (i : Int) + 1 = en ((i + 1 : Nat) : Int) from en_s _]
      exact hw
  · subst hv
    rw [wpl_X0_sumOfMeters_4]
    exact ⟨fun _ => hP, fun z => absurd (show (16 : Int32) ≤ 16 by decide) z⟩
theorem g_count13 (h : Ag S (vw (o + 1) X)) (hI : Inv q S) (hK : K (en (sm (fun n => S (6 + n) 1) 16))) : wp_X4_count o X 13 K := by
  unfold wp_X4_count
  refine ⟨fun z => absurd z (by decide), fun _ => ?_⟩
  unfold wp_X0_numberFor
  refine ⟨fun z => absurd z (by decide), fun _ => ⟨fun z => absurd z (by decide), fun _ => ⟨fun z => absurd z (by decide), fun _ => ⟨fun z => absurd z (by decide), fun _ => ⟨fun z => absurd z (by decide), fun _ => ⟨fun z => absurd z (by decide), fun _ => ⟨fun z => absurd z (by decide), fun _ => ⟨fun z => absurd z (by decide), fun _ => ⟨fun z => absurd z (by decide), fun _ => ⟨fun z => absurd z (by decide), fun _ => ⟨fun z => absurd z (by decide), fun _ => ⟨fun z => absurd z (by decide), fun _ => ⟨fun z => absurd z (by decide), fun _ => ⟨fun _ => ?_, fun z => absurd rfl z⟩⟩⟩⟩⟩⟩⟩⟩⟩⟩⟩⟩⟩⟩
  refine ⟨17, w_sum (P := K (en (sm (fun n => S (6 + n) 1) 16))) (g := fun n => S (6 + n) 1) (wl := fun m a b => wpl_X0_liftedLines_4 (vw (o + 1) X) K (fun j _ => K j) m a b) (fun m i v hi hw => ?_) (fun v hv hP => ?_) 16 0 0 rfl rfl hK⟩
  · have hl := hI.lin i hi
    unfold linOK at hl
    rw [wpl_X0_liftedLines_4]
    refine ⟨fun z => absurd z ?_, fun _ => ?_⟩
    · rw [show (16 : Int32) = en 16 from rfl, en_le (by omega) (by omega) (by omega) (by omega)]
      omega
    · simp only [forall_eq]
      rw [lix_en (by omega) (by omega), Int.toNat_natCast, h.l (k := 6 + i) (by omega) (by decide), e_0 (by omega) (by omega), show en (i : Int) + 1 = en ((i + 1 : Nat) : Int) from en_s _, en_s]
      have hw : wpl_X0_liftedLines_4 (vw (o + 1) X) K (fun j _ => K j) m (en (v + S (6 + i) 1)) (en ((i + 1 : Nat) : Int)) := hw
      rcases hl.2.1 with e | e <;> rw [e] at hw ⊢
      · exact ⟨fun _ => by rw [show v + 0 = v by omega] at hw; exact hw, fun z => absurd rfl z⟩
      · exact ⟨fun z => absurd z (by decide), fun _ => hw⟩
  · subst hv
    rw [wpl_X0_liftedLines_4]
    exact ⟨fun _ => hP, fun z => absurd (show (16 : Int32) ≤ 16 by decide) z⟩
theorem g_conn (h : Ag S (vw (o + 1) X)) (hq : 0 ≤ q ∧ q < 1000000) (hI : Inv q S) {a b : Int} (h1 : 1 ≤ a ∧ a ≤ 4) (h2 : 0 ≤ b ∧ b < S 0 6) (hK : K (en (hld S a b))) : wp_X4_connector o X (en a) (en b) K := by
  have h0 := hI.hd
  unfold hdOK at h0
  have e6 : X (o + 1) 6 - 1 = en (S 0 6 - 1) := by rw [show X (o + 1) 6 = en (S 0 6) from h.h (by decide) (by decide), en_p]
  unfold wp_X4_connector
  rw [e6]
  refine q_in (a := 1) (b := 4) (by omega) (by omega) (by omega) (by omega) ⟨fun z => absurd z (by decide), fun _ => ?_⟩
  refine q_in (a := 0) (by omega) (by omega) (by omega) (by omega) ⟨fun z => absurd z (by decide), fun _ => ?_⟩
  exact q_holder h hq hI (by omega) (by omega) hK
/-- a connector that is held has one holder -/
theorem hldF_at (hI : Inv q S) (hf : f < 4) (hh : hds (S (22 + f) 0)) : ∀ (m i : Nat), i ≤ f → f < i + m → i + m ≤ 4 → hldF S (S (22 + f) 3) (S (22 + f) 4) m i = (f : Int)
  | 0, i, h1, h2, _ => by omega
  | m + 1, i, h1, h2, h3 => by
    rw [hldF]
    by_cases e : i = f
    · subst e
      unfold hds at hh
      rw [if_pos ⟨hh, rfl, rfl⟩]
    · rw [if_neg (fun z => hI.uqX i f (by omega) hf e z.1 hh z.2)]
      exact hldF_at hI hf hh m (i + 1) (by omega) (by omega) (by omega)
theorem hld_at (hI : Inv q S) (hf : (f : Int) < S 0 5) (hh : hds (S (22 + f) 0)) : hld S (S (22 + f) 3) (S (22 + f) 4) = (f : Int) := by
  have h0 := hI.hd
  unfold hdOK at h0
  exact hldF_at hI (by omega) hh _ 0 (by omega) (by omega) (by omega)
theorem g_traceN (h : Ag S (vw (o + 1) X)) (hI : Inv q S) (hn : n < 16) {w : Int} (hw : 0 ≤ w ∧ w ≤ 2) (hs : ¬ (S (6 + n) 0 = 5 ∨ S (6 + n) 0 = 7)) (hK : K (-6)) : wp_X4_trace o X (en (n : Int)) (en w) K := by
  have hl := hI.lin n hn
  unfold linOK at hl
  have r0 : vw (o + 1) X (6 + n) 0 = en (S (6 + n) 0) := h.l (k := 6 + n) (by omega) (by decide)
  unfold wp_X4_trace
  refine q_isl hn ⟨fun z => absurd z (by decide), fun _ => ?_⟩
  refine q_in (a := 0) (b := 2) (by omega) (by omega) (by omega) (by omega) ⟨fun z => absurd z (by decide), fun _ => ?_⟩
  unfold wp_X0_traceFrom
  rw [lix_en (by omega) (by omega), Int.toNat_natCast, q_called r0 (by omega), if_neg hs]
  exact ⟨fun _ => hK, fun z => absurd rfl z⟩
theorem g_traceY (h : Ag S (vw (o + 1) X)) (hI : Inv q S) (hn : n < 16) (hf : f < 4) (hlk : S (6 + n) 6 = (f : Int)) (hs : S (6 + n) 0 = 5 ∨ S (6 + n) 0 = 7) {w : Int} {v : Int} (hw : (w = 0 ∧ v = S (22 + f) 4) ∨ (w = 1 ∧ v = (f : Int)) ∨ (w = 2 ∧ v = S (22 + f) 2)) (hK : K (en v)) : wp_X4_trace o X (en (n : Int)) (en w) K := by
  have hl := hI.lin n hn
  unfold linOK at hl
  have r0 : vw (o + 1) X (6 + n) 0 = en (S (6 + n) 0) := h.l (k := 6 + n) (by omega) (by decide)
  unfold wp_X4_trace
  refine q_isl hn ⟨fun z => absurd z (by decide), fun _ => ?_⟩
  refine q_in (a := 0) (b := 2) (by omega) (by omega) (by omega) (by omega) ⟨fun z => absurd z (by decide), fun _ => ?_⟩
  unfold wp_X0_traceFrom
  rw [lix_en (by omega) (by omega), Int.toNat_natCast, q_called r0 (by omega), if_pos hs, e_1 (by omega) (by omega), e_0 (by omega) (by omega), h.l (k := 6 + n) (j := 6) (by omega) (by decide), hlk, fix_en (by omega) (by omega), Int.toNat_natCast, h.f (k := 22 + f) (j := 4) (by omega) (by decide), h.f (k := 22 + f) (j := 2) (by omega) (by decide)]
  refine ⟨fun z => absurd z (by decide), fun _ => ⟨fun e => ?_, fun e => ⟨fun e2 => ?_, fun e2 => ?_⟩⟩⟩
  · rcases hw with ⟨a, b⟩ | ⟨a, b⟩ | ⟨a, b⟩
    · omega
    · rw [← b]; exact hK
    · omega
  · rcases hw with ⟨a, b⟩ | ⟨a, b⟩ | ⟨a, b⟩
    · rw [← b]; exact hK
    · omega
    · omega
  · rcases hw with ⟨a, b⟩ | ⟨a, b⟩ | ⟨a, b⟩
    · omega
    · omega
    · rw [← b]; exact hK
end QU
