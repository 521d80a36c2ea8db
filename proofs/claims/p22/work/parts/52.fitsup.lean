-- ===== fits: what it counts =====
theorem sm_ge {g : Nat → Int} (h : ∀ i, 0 ≤ g i) : ∀ n : Nat, 0 ≤ sm g n
  | 0 => by simp [sm]
  | n + 1 => by
    have a := sm_ge h n
    have b := h n
    simp only [sm]
    omega
section PM
variable {S : SS} {q : Int}
/-- the lines that wait and were lifted before b; the sum of their places' bits -/
def wC (S : SS) (b : Int) (n : Nat) : Int := if (S (6 + n) 0 = 1 ∧ S (6 + n) 6 = -6) ∧ S (6 + n) 7 < b then 1 else 0
def wA (S : SS) (b : Int) (n : Nat) : Int := if (S (6 + n) 0 = 1 ∧ S (6 + n) 6 = -6) ∧ S (6 + n) 7 < b then (2 : Int) ^ (sm (bef S n) 16).toNat else 0
theorem wC_rng (b : Int) (n : Nat) : 0 ≤ wC S b n ∧ wC S b n ≤ 1 := by unfold wC; split <;> omega
theorem wA_step (hI : Inv q S) (b : Nat) (h : sm (wA S b) 16 = (2 : Int) ^ (sm (wC S b) 16).toNat - 1) : sm (wA S ((b + 1 : Nat) : Int)) 16 = (2 : Int) ^ (sm (wC S ((b + 1 : Nat) : Int)) 16).toNat - 1 := by
  by_cases he : ∃ n : Nat, n < 16 ∧ (S (6 + n) 0 = 1 ∧ S (6 + n) 6 = -6) ∧ S (6 + n) 7 = (b : Int)
  · obtain ⟨n, hn, hu, ht⟩ := he
    have ho : ∀ i : Nat, i < 16 → ¬ i = n → (((S (6 + i) 0 = 1 ∧ S (6 + i) 6 = -6) ∧ S (6 + i) 7 < ((b + 1 : Nat) : Int)) ↔ ((S (6 + i) 0 = 1 ∧ S (6 + i) 6 = -6) ∧ S (6 + i) 7 < (b : Int))) := fun i hi hin => by
      refine ⟨fun z => ⟨z.1, ?_⟩, fun z => ⟨z.1, by omega⟩⟩
      have := hI.uqT.1 i n hi hn hin z.1.1 hu.1
      omega
    have e1 := sm_one (g := wA S b) (g' := wA S ((b + 1 : Nat) : Int)) (c := n) 16 (fun i hi hin => by simp only [wA, ho i hi hin])
    have e2 := sm_one (g := wC S b) (g' := wC S ((b + 1 : Nat) : Int)) (c := n) 16 (fun i hi hin => by simp only [wC, ho i hi hin])
    rw [if_pos hn] at e1 e2
    have a1 : wA S b n = 0 := by unfold wA; rw [if_neg (fun z => by omega)]
    have a2 : wA S ((b + 1 : Nat) : Int) n = (2 : Int) ^ (sm (bef S n) 16).toNat := by unfold wA; rw [if_pos ⟨hu, by omega⟩]
    have a3 : wC S b n = 0 := by unfold wC; rw [if_neg (fun z => by omega)]
    have a4 : wC S ((b + 1 : Nat) : Int) n = 1 := by unfold wC; rw [if_pos ⟨hu, by omega⟩]
    have a5 : sm (bef S n) 16 = sm (wC S b) 16 := sm_eq 16 (fun i hi => by simp only [bef, wC, ht])
    have a6 := sm_rng (g := wC S b) (b := 1) (fun i => wC_rng _ i) 16
    rw [e1, e2, a1, a2, a3, a4, a5, h]
    have a7 : (sm (wC S b) 16 + (1 - 0)).toNat = (sm (wC S b) 16).toNat + 1 := by omega
    rw [a7, Int.pow_succ]
    omega
  · have ho : ∀ i : Nat, i < 16 → (((S (6 + i) 0 = 1 ∧ S (6 + i) 6 = -6) ∧ S (6 + i) 7 < ((b + 1 : Nat) : Int)) ↔ ((S (6 + i) 0 = 1 ∧ S (6 + i) 6 = -6) ∧ S (6 + i) 7 < (b : Int))) := fun i hi => by
      refine ⟨fun z => ⟨z.1, ?_⟩, fun z => ⟨z.1, by omega⟩⟩
      have : ¬ S (6 + i) 7 = (b : Int) := fun y => he ⟨i, hi, z.1, y⟩
      omega
    rw [sm_eq (g := wA S b) (g' := wA S ((b + 1 : Nat) : Int)) 16 (fun i hi => by simp only [wA, ho i hi]), sm_eq (g := wC S b) (g' := wC S ((b + 1 : Nat) : Int)) 16 (fun i hi => by simp only [wC, ho i hi])]
    exact h
theorem wA_all (hI : Inv q S) : ∀ b : Nat, sm (wA S b) 16 = (2 : Int) ^ (sm (wC S b) 16).toNat - 1
  | 0 => by
    have hl : ∀ i : Nat, i < 16 → 0 ≤ S (6 + i) 7 := fun i hi => by
      have := hI.lin i hi
      unfold linOK at this
      omega
    rw [sm_0 (g := wA S ((0 : Nat) : Int)) 16 (fun i hi => by unfold wA; rw [if_neg (fun z => by have := hl i hi; omega)]), sm_0 (g := wC S ((0 : Nat) : Int)) 16 (fun i hi => by unfold wC; rw [if_neg (fun z => by have := hl i hi; omega)])]
    rfl
  | b + 1 => wA_step hI b (wA_all hI b)
/-- the bits of the places -/
def wB (S : SS) (n : Nat) : Int := if S (6 + n) 0 = 1 ∧ S (6 + n) 6 = -6 then (2 : Int) ^ (sm (bef S n) 16).toNat else 0
theorem wB_sum (hI : Inv q S) (hq : 0 ≤ q) : ∃ k : Nat, k ≤ 16 ∧ sm (wB S) 16 = (2 : Int) ^ k - 1 := by
  have h := wA_all hI (q.toNat + 1)
  have hl : ∀ i : Nat, i < 16 → S (6 + i) 7 ≤ q := fun i hi => by
    have := hI.lin i hi
    unfold linOK at this
    omega
  have e : sm (wB S) 16 = sm (wA S ((q.toNat + 1 : Nat) : Int)) 16 := sm_eq 16 (fun i hi => by
    unfold wB wA
    have := hl i hi
    by_cases c : S (6 + i) 0 = 1 ∧ S (6 + i) 6 = -6
    · rw [if_pos c, if_pos ⟨c, by omega⟩]
    · rw [if_neg c, if_neg (fun z => c z.1)])
  have a6 := sm_rng (g := wC S ((q.toNat + 1 : Nat) : Int)) (b := 1) (fun i => wC_rng _ i) 16
  exact ⟨_, by omega, e.trans h⟩
theorem bits_ok {k : Nat} (hk : k ≤ 16) : en ((2 : Int) ^ k - 1) &&& (en ((2 : Int) ^ k - 1) + 1) = 0 := by
  rcases (by omega : k = 0 ∨ k = 1 ∨ k = 2 ∨ k = 3 ∨ k = 4 ∨ k = 5 ∨ k = 6 ∨ k = 7 ∨ k = 8 ∨ k = 9 ∨ k = 10 ∨ k = 11 ∨ k = 12 ∨ k = 13 ∨ k = 14 ∨ k = 15 ∨ k = 16) with z | z | z | z | z | z | z | z | z | z | z | z | z | z | z | z | z <;> subst z <;> decide
theorem shl_ok {p : Int} (h : 0 ≤ p ∧ p ≤ 16) : (1 : Int32) <<< (en p &&& 31) = en ((2 : Int) ^ p.toNat) := by
  rcases (by omega : p = 0 ∨ p = 1 ∨ p = 2 ∨ p = 3 ∨ p = 4 ∨ p = 5 ∨ p = 6 ∨ p = 7 ∨ p = 8 ∨ p = 9 ∨ p = 10 ∨ p = 11 ∨ p = 12 ∨ p = 13 ∨ p = 14 ∨ p = 15 ∨ p = 16) with z | z | z | z | z | z | z | z | z | z | z | z | z | z | z | z | z <;> subst z <;> decide
/-- which finder a line has -/
def ow1 (S : SS) (n f : Nat) : Int := if ¬ S (22 + f) 0 = 0 ∧ S (22 + f) 2 = (n : Int) then 1 else 0
def own (S : SS) (k n : Nat) : Int := sm (ow1 S n) k
theorem own_spec (hI : Inv q S) {n : Nat} (hn : n < 16) : ∀ k : Nat, k ≤ 4 → (own S k n = 0 ∧ ∀ f : Nat, f < k → ¬ (¬ S (22 + f) 0 = 0 ∧ S (22 + f) 2 = (n : Int))) ∨ (own S k n = 1 ∧ ∃ f : Nat, f < k ∧ ¬ S (22 + f) 0 = 0 ∧ S (22 + f) 2 = (n : Int))
  | 0, _ => Or.inl ⟨rfl, fun f hf => by omega⟩
  | k + 1, hk => by
    have e : own S (k + 1) n = own S k n + ow1 S n k := rfl
    by_cases c : ¬ S (22 + k) 0 = 0 ∧ S (22 + k) 2 = (n : Int)
    · have e1 : ow1 S n k = 1 := by unfold ow1; rw [if_pos c]
      rcases own_spec hI hn k (by omega) with ⟨a, b⟩ | ⟨a, f, b1, b2, b3⟩
      · exact Or.inr ⟨by omega, k, by omega, c⟩
      · have g1 := (hI.lkC k (by omega) n hn c.1 c.2).1
        have g2 := (hI.lkC f (by omega) n hn b2 b3).1
        omega
    · have e1 : ow1 S n k = 0 := by unfold ow1; rw [if_neg c]
      rcases own_spec hI hn k (by omega) with ⟨a, b⟩ | ⟨a, f, b1, b2, b3⟩
      · refine Or.inl ⟨by omega, fun f hf => ?_⟩
        by_cases z : f = k
        · subst z; exact c
        · exact b f (by omega)
      · exact Or.inr ⟨by omega, f, by omega, b2, b3⟩
/-- behind the last finder -/
theorem own_all (hI : Inv q S) {n : Nat} (hn : n < 16) : (own S (S 0 5).toNat n = 0 ∧ (S (6 + n) 0 = 0 ∨ S (6 + n) 0 = 5 ∨ S (6 + n) 0 = 7 ∨ S (6 + n) 0 = 10 ∨ S (6 + n) 0 = 11 ∨ (S (6 + n) 0 = 1 ∧ S (6 + n) 6 = -6))) ∨ (own S (S 0 5).toNat n = 1 ∧ (S (6 + n) 0 = 2 ∨ S (6 + n) 0 = 3 ∨ S (6 + n) 0 = 4 ∨ S (6 + n) 0 = 6 ∨ S (6 + n) 0 = 8 ∨ S (6 + n) 0 = 9 ∨ (S (6 + n) 0 = 1 ∧ ¬ S (6 + n) 6 = -6))) := by
  have h0 := hI.hd
  unfold hdOK at h0
  have hl := hI.lin n hn
  unfold linOK at hl
  rcases own_spec hI hn (S 0 5).toNat (by omega) with ⟨a, b⟩ | ⟨a, f, b1, b2, b3⟩
  · refine Or.inl ⟨a, ?_⟩
    rcases hI.lkL n hn with g | ⟨f, hf, g1, g2, g3⟩
    · omega
    · have hfn : (f : Int) < S 0 5 := by
        by_cases z : S 0 5 ≤ (f : Int)
        · exact absurd (hI.off f hf z) g2
        · omega
      rcases g3 with g3 | g3
      · exact absurd ⟨g2, g3⟩ (b f (by omega))
      · have := (hI.lkT f hf n hn g3).2
        omega
  · refine Or.inr ⟨a, ?_⟩
    have g := hI.lkC f (by omega) n hn b2 b3
    obtain ⟨g1, g2⟩ := g
    unfold smt at g2
    omega
end PM
theorem en_div {a b : Int} (h1 : 0 ≤ a) (h2 : a < 2147483648) (h3 : 0 < b) (h4 : b < 2147483648) : en a / en b = en (a / b) := by
  obtain ⟨n, rfl⟩ := Int.eq_ofNat_of_zero_le h1
  obtain ⟨m, rfl⟩ := Int.eq_ofNat_of_zero_le (Int.le_of_lt h3)
  rw [en_nat, en_nat, pk_div (by omega) (by omega) (by omega), ← en_nat, Int.natCast_ediv]
theorem vp_en {n N : Nat} (h : n < N) (hN : N < 2 ^ 31) : vp_in (en (n : Int)) N := by rw [en_nat]; exact vp_in_nI h hN
theorem cl_en {n : Nat} (h : n < 1000) : (en (n : Int)).toNatClampNeg = n := by rw [en_clamp (by omega) (by omega), Int.toNat_natCast]
