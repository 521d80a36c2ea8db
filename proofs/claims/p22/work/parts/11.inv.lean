-- ===== what holds of the numbers between calls =====
def finOK (q nc : Int) (F : Nat → Int) : Prop :=
  (0 ≤ F 0 ∧ F 0 ≤ 9) ∧ (0 ≤ F 1 ∧ F 1 < 16) ∧ (0 ≤ F 7 ∧ F 7 ≤ q) ∧ (0 ≤ F 8 ∧ F 8 ≤ q) ∧ (0 ≤ F 3 ∧ F 3 ≤ 16) ∧ (0 ≤ F 5 ∧ F 5 ≤ 16) ∧ (0 ≤ F 6 ∧ F 6 ≤ 16) ∧
  (F 0 = 0 → F 2 = -6) ∧ (¬ F 0 = 0 → 0 ≤ F 2 ∧ F 2 < 16) ∧
  (F 0 < 3 → F 3 = 0) ∧ (F 0 = 3 → 1 ≤ F 5 ∧ F 3 + F 5 ≤ 16) ∧ (4 ≤ F 0 ∧ F 0 ≤ 8 → 1 ≤ F 3 ∧ F 3 ≤ 4) ∧
  (F 0 < 4 ∨ F 0 = 9 → F 4 = -6) ∧ (4 ≤ F 0 ∧ F 0 ≤ 8 → 0 ≤ F 4 ∧ F 4 < nc) ∧
  (F 0 < 6 → F 6 = 0) ∧ (F 0 = 6 → 1 ≤ F 5 ∧ F 6 + F 5 ≤ 16) ∧
  (F 0 = 7 ∨ F 0 = 8 → 0 ≤ F 9 ∧ F 9 < 16 ∧ F 3 = F 9 / 4 + 1) ∧ (¬ F 0 = 7 ∧ ¬ F 0 = 8 → F 9 = -6)
def linOK (q : Int) (L : Nat → Int) : Prop :=
  (0 ≤ L 0 ∧ L 0 ≤ 11) ∧ (L 1 = 0 ∨ L 1 = 1) ∧ (0 ≤ L 2 ∧ L 2 ≤ q) ∧ (0 ≤ L 5 ∧ L 5 ≤ 4) ∧ (L 6 = -6 ∨ (0 ≤ L 6 ∧ L 6 < 4)) ∧ (0 ≤ L 7 ∧ L 7 ≤ q) ∧ (0 ≤ L 8 ∧ L 8 ≤ q) ∧
  (L 0 = 0 → L 1 = 0 ∧ L 5 = 0 ∧ L 6 = -6) ∧ (¬ L 0 = 0 ∧ ¬ L 0 = 5 ∧ ¬ L 0 = 7 → L 1 = 1)
def hdOK (q : Int) (H : Nat → Int) : Prop :=
  (1 ≤ H 5 ∧ H 5 ≤ 4) ∧ (1 ≤ H 6 ∧ H 6 ≤ 3) ∧ (0 ≤ H 7 ∧ H 7 ≤ q) ∧ (-1 ≤ H 8 ∧ H 8 < H 5) ∧ (0 ≤ H 12 ∧ H 12 ≤ q) ∧ (0 ≤ H 11 ∧ H 11 ≤ q) ∧ (0 ≤ H 10 ∧ H 10 ≤ q) ∧ (0 ≤ H 9 ∧ H 9 ≤ q) ∧ (0 ≤ H 13 ∧ H 13 ≤ q) ∧ (0 ≤ H 14 ∧ H 14 ≤ q) ∧ (0 ≤ H 15 ∧ H 15 ≤ q)
def setOK (T : Nat → Int) : Prop := (1 ≤ T 0 ∧ T 0 ≤ 200) ∧ (1 ≤ T 1 ∧ T 1 ≤ 200) ∧ (1 ≤ T 2 ∧ T 2 ≤ 200) ∧ (1 ≤ T 3 ∧ T 3 ≤ 200) ∧ (1 ≤ T 4 ∧ T 4 ≤ 200)
/-- a finder's state fits its caller's -/
def smt (m st : Int) : Prop := (m = 1 ∧ st = 1) ∨ (m = 2 ∧ st = 2) ∨ (3 ≤ m ∧ m ≤ 6 ∧ st = 3) ∨ (m = 7 ∧ st = 4) ∨ (m = 8 ∧ st = 6) ∨ (m = 9 ∧ (st = 8 ∨ st = 9))
def lkC (S : SS) (f : Nat) : Prop := ∀ c : Nat, c < 16 → ¬ S (22 + f) 0 = 0 → S (22 + f) 2 = (c : Int) → S (6 + c) 6 = (f : Int) ∧ smt (S (22 + f) 0) (S (6 + c) 0)
def lkT (S : SS) (f : Nat) : Prop := ∀ t : Nat, t < 16 → S (22 + f) 9 = (t : Int) → S (6 + t) 6 = (f : Int) ∧ ((S (22 + f) 0 = 7 ∧ S (6 + t) 0 = 5) ∨ (S (22 + f) 0 = 8 ∧ S (6 + t) 0 = 7))
def lkL (S : SS) (n : Nat) : Prop := (S (6 + n) 6 = -6 ∧ (S (6 + n) 0 = 0 ∨ S (6 + n) 0 = 1 ∨ S (6 + n) 0 = 10 ∨ S (6 + n) 0 = 11)) ∨ ∃ f : Nat, f < 4 ∧ S (6 + n) 6 = (f : Int) ∧ ¬ S (22 + f) 0 = 0 ∧ (S (22 + f) 2 = (n : Int) ∨ S (22 + f) 9 = (n : Int))
def hds (m : Int) : Prop := 5 ≤ m ∧ m ≤ 8
def uqX (S : SS) (f g : Nat) : Prop := hds (S (22 + f) 0) → hds (S (22 + g) 0) → ¬ (S (22 + f) 3 = S (22 + g) 3 ∧ S (22 + f) 4 = S (22 + g) 4)
def uqT (S : SS) : Prop := (∀ n m : Nat, n < 16 → m < 16 → ¬ n = m → S (6 + n) 0 = 1 → S (6 + m) 0 = 1 → ¬ S (6 + n) 7 = S (6 + m) 7) ∧ ∀ n : Nat, n < 16 → S (6 + n) 0 = 1 → S (6 + n) 7 ≤ S 0 9
/-- sums over the first n -/
def sm (g : Nat → Int) : Nat → Int
  | 0 => 0
  | n + 1 => sm g n + g n
def rv (s : Int) : Int := if s = 5 ∨ s = 7 then 1 else if s = 4 ∨ s = 6 then -1 else 0
def w1 (s : Int) : Int := if s = 1 then 1 else 0
def w2 (m : Int) : Int := if 2 ≤ m ∧ m ≤ 6 then 1 else 0
def w3 (m : Int) : Int := if m = 7 then 1 else 0
def cnt (S : SS) : Prop :=
  S 0 10 + sm (fun n => w1 (S (6 + n) 0)) 16 ≤ S 0 9 ∧
  S 0 11 + sm (fun f => w2 (S (22 + f) 0)) 4 ≤ S 0 10 ∧
  S 0 12 + sm (fun f => w3 (S (22 + f) 0)) 4 ≤ S 0 11 ∧
  S 0 12 ≤ sm (fun n => S (6 + n) 2) 16 ∧
  sm (fun n => rv (S (6 + n) 0)) 16 = 0
def Inv (q : Int) (S : SS) : Prop :=
  hdOK q (S 0) ∧ setOK (S 5) ∧ S 3 0 = 0 ∧ (∀ f : Nat, f < 4 → finOK q (S 0 6) (S (22 + f))) ∧ (∀ n : Nat, n < 16 → linOK q (S (6 + n))) ∧ (∀ f : Nat, f < 4 → S 0 5 ≤ (f : Int) → S (22 + f) 0 = 0) ∧
  (∀ f : Nat, f < 4 → lkC S f) ∧ (∀ f : Nat, f < 4 → lkT S f) ∧ (∀ n : Nat, n < 16 → lkL S n) ∧ (∀ f g : Nat, f < 4 → g < 4 → ¬ f = g → uqX S f g) ∧ uqT S ∧ cnt S
section IP
variable {q : Int} {S : SS}
theorem Inv.hd (h : Inv q S) : hdOK q (S 0) := h.1
theorem Inv.set (h : Inv q S) : setOK (S 5) := h.2.1
theorem Inv.no (h : Inv q S) : S 3 0 = 0 := h.2.2.1
theorem Inv.fin (h : Inv q S) : ∀ f : Nat, f < 4 → finOK q (S 0 6) (S (22 + f)) := h.2.2.2.1
theorem Inv.lin (h : Inv q S) : ∀ n : Nat, n < 16 → linOK q (S (6 + n)) := h.2.2.2.2.1
theorem Inv.off (h : Inv q S) : ∀ f : Nat, f < 4 → S 0 5 ≤ (f : Int) → S (22 + f) 0 = 0 := h.2.2.2.2.2.1
theorem Inv.lkC (h : Inv q S) : ∀ f : Nat, f < 4 → lkC S f := h.2.2.2.2.2.2.1
theorem Inv.lkT (h : Inv q S) : ∀ f : Nat, f < 4 → lkT S f := h.2.2.2.2.2.2.2.1
theorem Inv.lkL (h : Inv q S) : ∀ n : Nat, n < 16 → lkL S n := h.2.2.2.2.2.2.2.2.1
theorem Inv.uqX (h : Inv q S) : ∀ f g : Nat, f < 4 → g < 4 → ¬ f = g → uqX S f g := h.2.2.2.2.2.2.2.2.2.1
theorem Inv.uqT (h : Inv q S) : uqT S := h.2.2.2.2.2.2.2.2.2.2.1
theorem Inv.cnt (h : Inv q S) : cnt S := h.2.2.2.2.2.2.2.2.2.2.2
/-- the caller of a finder -/
theorem Inv.cal (h : Inv q S) {f : Nat} (hf : f < 4) (hm : ¬ S (22 + f) 0 = 0) : ∃ c : Nat, c < 16 ∧ S (22 + f) 2 = (c : Int) ∧ (S (22 + f) 2).toNat = c ∧ S (6 + c) 6 = (f : Int) ∧ smt (S (22 + f) 0) (S (6 + c) 0) := by
  have h1 := h.fin f hf
  unfold finOK at h1
  obtain ⟨c, hc⟩ := Int.eq_ofNat_of_zero_le (a := S (22 + f) 2) (by omega)
  exact ⟨c, by omega, hc, by omega, h.lkC f hf c (by omega) hm hc⟩
/-- the line that a finder rings or talks to -/
theorem Inv.tgt (h : Inv q S) {f : Nat} (hf : f < 4) (hm : S (22 + f) 0 = 7 ∨ S (22 + f) 0 = 8) : ∃ t : Nat, t < 16 ∧ S (22 + f) 9 = (t : Int) ∧ (S (22 + f) 9).toNat = t ∧ S (6 + t) 6 = (f : Int) ∧ ((S (22 + f) 0 = 7 ∧ S (6 + t) 0 = 5) ∨ (S (22 + f) 0 = 8 ∧ S (6 + t) 0 = 7)) := by
  have h1 := h.fin f hf
  unfold finOK at h1
  obtain ⟨t, ht⟩ := Int.eq_ofNat_of_zero_le (a := S (22 + f) 9) (by omega)
  exact ⟨t, by omega, ht, by omega, h.lkT f hf t (by omega) ht⟩
theorem Inv.ne (h : Inv q S) {f c t : Nat} (hf : f < 4) (hc : c < 16) (ht : t < 16) (hm : S (22 + f) 0 = 7 ∨ S (22 + f) 0 = 8) (ec : S (22 + f) 2 = (c : Int)) (et : S (22 + f) 9 = (t : Int)) : ¬ t = c := by
  intro e
  subst e
  have a := (h.lkC f hf t ht (by omega) ec).2
  have b := (h.lkT f hf t ht et).2
  unfold smt at a
  omega
end IP
