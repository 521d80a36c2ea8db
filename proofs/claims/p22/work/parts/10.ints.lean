-- ===== the pure side: the exchange's numbers as integers =====
abbrev SS : Type := Nat → Nat → Int
def en (a : Int) : Int32 := Int32.ofInt a
theorem en_toInt {a : Int} (h1 : -2147483648 ≤ a) (h2 : a < 2147483648) : (en a).toInt = a := Int32.toInt_ofInt_of_le (by omega) (by omega)
theorem en_of (x : Int32) : en x.toInt = x := Int32.ofInt_toInt x
theorem en_eq {a b : Int} (h1 : -2147483648 ≤ a) (h2 : a < 2147483648) (h3 : -2147483648 ≤ b) (h4 : b < 2147483648) : en a = en b ↔ a = b :=
  ⟨fun h => by have := congrArg Int32.toInt h; rwa [en_toInt h1 h2, en_toInt h3 h4] at this, congrArg en⟩
theorem en_lt {a b : Int} (h1 : -2147483648 ≤ a) (h2 : a < 2147483648) (h3 : -2147483648 ≤ b) (h4 : b < 2147483648) : en a < en b ↔ a < b := by
  rw [Int32.lt_iff_toInt_lt, en_toInt h1 h2, en_toInt h3 h4]
theorem en_le {a b : Int} (h1 : -2147483648 ≤ a) (h2 : a < 2147483648) (h3 : -2147483648 ≤ b) (h4 : b < 2147483648) : en a ≤ en b ↔ a ≤ b := by
  rw [Int32.le_iff_toInt_le, en_toInt h1 h2, en_toInt h3 h4]
theorem en_add (a b : Int) : en a + en b = en (a + b) := (Int32.ofInt_add a b).symm
theorem en_sub (a b : Int) : en a - en b = en (a - b) := (Int32.ofInt_sub a b).symm
theorem en_mul (a b : Int) : en a * en b = en (a * b) := (Int32.ofInt_mul a b).symm
theorem en_nat (n : Nat) : en (n : Int) = nI n := Int32.ofInt_eq_ofNat
theorem en_s (a : Int) : en a + 1 = en (a + 1) := en_add a 1
theorem en_p (a : Int) : en a - 1 = en (a - 1) := en_sub a 1
theorem en_clamp {a : Int} (h1 : 0 ≤ a) (h2 : a < 2147483648) : (en a).toNatClampNeg = a.toNat := by
  show (en a).toInt.toNat = a.toNat
  rw [en_toInt (by omega) h2]
theorem en_neg {a : Int} (h1 : 0 ≤ a) (h2 : a < 2147483648) : ¬ en a < 0 := fun h => by
  have h3 : en a < en 0 := h
  rw [en_lt (by omega) (by omega) (by omega) (by omega)] at h3
  omega
theorem lix_en {a : Int} (h1 : 0 ≤ a) (h2 : a < 16) : lix (en a) = 6 + a.toNat := by
  unfold lix
  have h3 : ¬ (16 : Int32) ≤ en a := fun h => by
    have h3 : en 16 ≤ en a := h
    rw [en_le (by omega) (by omega) (by omega) (by omega)] at h3
    omega
  rw [if_neg (fun h => h.elim (en_neg h1 (by omega)) h3), en_clamp h1 (by omega)]
theorem fix_en {a : Int} (h1 : 0 ≤ a) (h2 : a < 4) : fix (en a) = 22 + a.toNat := by
  unfold fix
  have h3 : ¬ (4 : Int32) ≤ en a := fun h => by
    have h3 : en 4 ≤ en a := h
    rw [en_le (by omega) (by omega) (by omega) (by omega)] at h3
    omega
  rw [if_neg (fun h => h.elim (en_neg h1 (by omega)) h3), en_clamp h1 (by omega)]
theorem lix_no : lix (-6) = 3 := by decide
theorem fix_no : fix (-6) = 4 := by decide
theorem vuA (f : ES) (k j : Nat) (x : CS) : va_up f k x j = if j = k then x else f j := rfl
theorem updA (f : CS) (k j : Nat) (x : Int32) : upd f k x j = if j = k then x else f j := rfl
def up (S : SS) (k j : Nat) (v : Int) : SS := fun a b => if a = k ∧ b = j then v else S a b
theorem upA (S : SS) (k j : Nat) (v : Int) (a b : Nat) : up S k j v a b = if a = k ∧ b = j then v else S a b := rfl
/-- the places that count -/
def rl (k j : Nat) : Prop := (k = 0 ∧ 5 ≤ j ∧ j < 16) ∨ (k = 3 ∧ j = 0) ∨ (k = 5 ∧ j < 5) ∨ (6 ≤ k ∧ k < 22 ∧ j < 9) ∨ (22 ≤ k ∧ k < 26 ∧ j < 10)
def Ag (S : SS) (X : ES) : Prop := ∀ k j, rl k j → X k j = en (S k j)
theorem Ag.slf {S : SS} {X : ES} {k : Nat} (h : Ag S X) : Ag S (va_up X k (X k)) := by rw [vuSelf]; exact h
theorem Ag.up {S : SS} {X : ES} {R : CS} {k j : Nat} {x : Int32} {v : Int} (h : Ag S (va_up X k R)) (hx : x = en v) : Ag (up S k j v) (va_up X k (upd R j x)) := by
  intro a b hab
  have h1 := h a b hab
  rw [vuA] at h1 ⊢
  by_cases e : a = k
  · rw [if_pos e] at h1 ⊢
    rw [updA, upA]
    by_cases e2 : b = j
    · rw [if_pos e2, if_pos ⟨e, e2⟩, hx]
    · rw [if_neg e2, if_neg (fun z => e2 z.2), h1]
  · rw [if_neg e] at h1 ⊢
    rw [upA, if_neg (fun z => e z.1), h1]
theorem Ag.h {S : SS} {X : ES} (h : Ag S X) {j : Nat} (h1 : 5 ≤ j) (h2 : j < 16) : X 0 j = en (S 0 j) := h _ _ (Or.inl ⟨rfl, h1, h2⟩)
theorem Ag.s {S : SS} {X : ES} (h : Ag S X) {j : Nat} (h1 : j < 5) : X 5 j = en (S 5 j) := h _ _ (Or.inr (Or.inr (Or.inl ⟨rfl, h1⟩)))
theorem Ag.l {S : SS} {X : ES} (h : Ag S X) {k : Nat} (hk : 6 ≤ k ∧ k < 22) {j : Nat} (h1 : j < 9) : X k j = en (S k j) := h _ _ (Or.inr (Or.inr (Or.inr (Or.inl ⟨hk.1, hk.2, h1⟩))))
theorem Ag.f {S : SS} {X : ES} (h : Ag S X) {k : Nat} (hk : 22 ≤ k ∧ k < 26) {j : Nat} (h1 : j < 10) : X k j = en (S k j) := h _ _ (Or.inr (Or.inr (Or.inr (Or.inr ⟨hk.1, hk.2, h1⟩))))
theorem Ag.n {S : SS} {X : ES} (h : Ag S X) : X 3 0 = en (S 3 0) := h _ _ (Or.inr (Or.inl ⟨rfl, rfl⟩))
-- ===== what the class does, as functions of the numbers =====
def bcm (S : SS) (k : Nat) (m : Int) : SS := up (up (up S k 0 m) k 7 0) k 8 0
def bfr (S : SS) (k : Nat) : SS := up (up (up (up (up (up (bcm S k 0) k 2 (-6)) k 3 0) k 4 (-6)) k 5 0) k 6 0) k 9 (-6)
def lvc (S : SS) (k : Nat) (p : Int) : SS := up (up (up (up (up S k 0 p) k 6 (-6)) k 8 0) k 4 0) k 5 0
def sndV (S : SS) (k c : Nat) : SS := up (up (up (up (up (bcm S k 9) k 4 (-6)) k 9 (-6)) c 0 9) c 3 3) 0 14 (S 0 14 + 1)
def sndB (S : SS) (k c : Nat) (r : Int) : SS := up (up (up (up (up (bcm S k 9) k 4 (-6)) k 9 (-6)) c 0 8) c 3 r) 0 13 (S 0 13 + 1)
def f_seek (S : SS) (k c : Nat) : SS := if S k 1 = S k 2 then up (up (bcm S k 2) c 0 2) 0 10 (S 0 10 + 1) else up S k 1 ((S k 1 + 1) % 16)
def dgt (d : Int) : Int := (en d &&& 15).toInt
def dsh (d : Int) : Int := (((en d).toUInt32 >>> ((4 : Int32).toUInt32 &&& Int32.toUInt32 31)).toInt32).toInt
def pls (d : Int) : Int := if dgt d = 0 then 10 else dgt d
def f_await (S : SS) (k c : Nat) (m : Int) : SS :=
  if S c 5 ≤ 0 then (if S k 7 + 1 < S 5 0 then up S k 7 (S k 7 + 1) else up (lvc (up (bfr (up S k 7 (S k 7 + 1)) k) c 3 5) c 10) 0 15 (S 0 15 + 1))
  else up (up (up (up (bcm S k m) c 4 (dsh (S c 4))) c 5 (S c 5 - 1)) k 5 (pls (S c 4))) c 0 3
def f_rise (S : SS) (k c : Nat) : SS :=
  if S k 5 - 1 ≤ 0 then (if S k 3 + 1 ≤ 4 then up (bcm (up (up S k 5 (S k 5 - 1)) k 3 (S k 3 + 1)) k 4) k 4 0 else sndV (up (up S k 5 (S k 5 - 1)) k 3 (S k 3 + 1)) k c)
  else up (up S k 5 (S k 5 - 1)) k 3 (S k 3 + 1)
def hldF (S : SS) (l n : Int) : Nat → Nat → Int
  | 0, _ => -6
  | m + 1, i => if (5 ≤ S (22 + i) 0 ∧ S (22 + i) 0 ≤ 8) ∧ S (22 + i) 3 = l ∧ S (22 + i) 4 = n then (i : Int) else hldF S l n m (i + 1)
def hld (S : SS) (l n : Int) : Int := hldF S l n (S 0 5).toNat 0
def f_hunt (S : SS) (k c : Nat) : SS :=
  if hld S (S k 3) (S k 4) = -6 then bcm S k 5
  else if S k 4 + 1 < S 0 6 then up S k 4 (S k 4 + 1) else sndB (up S k 4 (S k 4 + 1)) k c 2
def f_call (S : SS) (k c t : Nat) (v : Int) : SS := up (up (up (up (up (bcm S k 7) k 9 v) c 0 4) t 0 5) t 6 (S c 6)) 0 11 (S 0 11 + 1)
def f_stepOn (S : SS) (k c : Nat) : SS :=
  if S k 5 - 1 ≤ 0 then (if S k 6 + 1 ≤ 4 then
      (if S (6 + (4 * (S k 3 - 1) + (S k 6 + 1) - 1).toNat) 0 = 0 then f_call (up (up S k 5 (S k 5 - 1)) k 6 (S k 6 + 1)) k c (6 + (4 * (S k 3 - 1) + (S k 6 + 1) - 1).toNat) (4 * (S k 3 - 1) + (S k 6 + 1) - 1)
       else sndB (up (up S k 5 (S k 5 - 1)) k 6 (S k 6 + 1)) k c 1)
    else sndV (up (up S k 5 (S k 5 - 1)) k 6 (S k 6 + 1)) k c)
  else up (up S k 5 (S k 5 - 1)) k 6 (S k 6 + 1)
def f_ring (S : SS) (k c t : Nat) : SS :=
  if S t 1 = 0 then (if S k 7 + 1 < S 5 1 then up S k 7 (S k 7 + 1) else lvc (sndB (up S k 7 (S k 7 + 1)) k c 4) t 0)
  else up (up (up (up (bcm S k 8) c 0 6) t 0 7) c 2 (S c 2 + 1)) 0 12 (S 0 12 + 1)
def f_mt (S : SS) (c : Nat) (tm pr me : Int) : SS := if tm % pr = 0 then up S c 2 (me + 1) else S
def f_talk (S : SS) (k c t : Nat) : SS :=
  if S t 1 = 0 then (if S k 8 + 1 < S 5 3 then f_mt (up (up S k 8 (S k 8 + 1)) k 7 (S k 7 + 1)) c (S k 7 + 1) (S 5 2) (S c 2)
    else lvc (lvc (up (bfr (up S k 8 (S k 8 + 1)) k) c 3 6) c 10) t 0)
  else f_mt (up (up S k 8 0) k 7 (S k 7 + 1)) c (S k 7 + 1) (S 5 2) (S c 2)
def f_sound (S : SS) (k c : Nat) : SS := if S k 7 + 1 < S 5 0 then up S k 7 (S k 7 + 1) else lvc (bfr (up S k 7 (S k 7 + 1)) k) c 10
def stp (S : SS) (k c t : Nat) : SS :=
  if S k 0 = 1 then f_seek S k c else if S k 0 = 2 then f_await S k c 3 else if S k 0 = 3 then f_rise S k c else if S k 0 = 4 then f_hunt S k c
  else if S k 0 = 5 then f_await S k c 6 else if S k 0 = 6 then f_stepOn S k c else if S k 0 = 7 then f_ring S k c t else if S k 0 = 8 then f_talk S k c t else if S k 0 = 9 then f_sound S k c else S
def stpF (S : SS) (f : Nat) : SS := stp S (22 + f) (6 + (S (22 + f) 2).toNat) (6 + (S (22 + f) 9).toNat)
def stpN (S : SS) : Nat → SS
  | 0 => S
  | n + 1 => stpF (stpN S n) n
def nfN (S : SS) (i : Int) : Int := if S 0 8 + i < S 0 5 then S 0 8 + i else S 0 8 + i - S 0 5
def nfF (S : SS) : Nat → Int → Int
  | 0, _ => -6
  | m + 1, i => if S (22 + (nfN S i).toNat) 0 = 0 then nfN S i else nfF S m (i + 1)
def nfr (S : SS) : Int := nfF S (S 0 5).toNat 1
def fwF (S : SS) : Nat → Nat → Int → Int
  | 0, _, w => w
  | m + 1, i, w => if S (6 + i) 0 = 1 ∧ S (6 + i) 6 = -6 ∧ (w = -6 ∨ S (6 + i) 7 < S (6 + w.toNat) 7) then fwF S m (i + 1) i else fwF S m (i + 1) w
def fw (S : SS) : Int := fwF S 16 0 (-6)
def allot (S : SS) : SS :=
  if nfr S = -6 then S else if fw S = -6 then S
  else up (up (up (bcm S (22 + (nfr S).toNat) 1) (22 + (nfr S).toNat) 2 (fw S)) (6 + (fw S).toNat) 6 (nfr S)) 0 8 (nfr S)
def pk1 (S : SS) (c : Nat) (h : Int) : SS :=
  if S c 0 = 10 then (if S c 8 + 1 < h then up S c 8 (S c 8 + 1) else up (up (up S c 8 (S c 8 + 1)) c 0 11) c 8 0) else S
def pkN (S : SS) (h : Int) : Nat → SS
  | 0 => S
  | n + 1 => pk1 (pkN S h n) (6 + n) h
def stepd (S : SS) : SS := stpN S (S 0 5).toNat
def parkd (S : SS) : SS := pkN S (S 5 4) 16
def tick (S : SS) : SS := up (parkd (allot (stepd S))) 0 7 (parkd (allot (stepd S)) 0 7 + 1)
