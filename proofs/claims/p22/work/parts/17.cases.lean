-- ===== a step by its cases =====
theorem stp_el {P : SS → Prop} {S : SS} {k c t : Nat}
    (b1 : S k 0 = 1 → S k 1 = S k 2 → P (up (up (bcm S k 2) c 0 2) 0 10 (S 0 10 + 1)))
    (b2 : S k 0 = 1 → ¬ S k 1 = S k 2 → P (up S k 1 ((S k 1 + 1) % 16)))
    (b3 : S k 0 = 2 → S c 5 ≤ 0 → S k 7 + 1 < S 5 0 → P (up S k 7 (S k 7 + 1)))
    (b4 : S k 0 = 2 → S c 5 ≤ 0 → ¬ S k 7 + 1 < S 5 0 → P (up (lvc (up (bfr (up S k 7 (S k 7 + 1)) k) c 3 5) c 10) 0 15 (S 0 15 + 1)))
    (b5 : S k 0 = 2 → ¬ S c 5 ≤ 0 → P (up (up (up (up (bcm S k 3) c 4 (dsh (S c 4))) c 5 (S c 5 - 1)) k 5 (pls (S c 4))) c 0 3))
    (b6 : S k 0 = 5 → S c 5 ≤ 0 → S k 7 + 1 < S 5 0 → P (up S k 7 (S k 7 + 1)))
    (b7 : S k 0 = 5 → S c 5 ≤ 0 → ¬ S k 7 + 1 < S 5 0 → P (up (lvc (up (bfr (up S k 7 (S k 7 + 1)) k) c 3 5) c 10) 0 15 (S 0 15 + 1)))
    (b8 : S k 0 = 5 → ¬ S c 5 ≤ 0 → P (up (up (up (up (bcm S k 6) c 4 (dsh (S c 4))) c 5 (S c 5 - 1)) k 5 (pls (S c 4))) c 0 3))
    (b9 : S k 0 = 3 → S k 5 - 1 ≤ 0 → S k 3 + 1 ≤ 4 → P (up (bcm (up (up S k 5 (S k 5 - 1)) k 3 (S k 3 + 1)) k 4) k 4 0))
    (b10 : S k 0 = 3 → S k 5 - 1 ≤ 0 → ¬ S k 3 + 1 ≤ 4 → P (sndV (up (up S k 5 (S k 5 - 1)) k 3 (S k 3 + 1)) k c))
    (b11 : S k 0 = 3 → ¬ S k 5 - 1 ≤ 0 → P ((up (up S k 5 (S k 5 - 1)) k 3 (S k 3 + 1))))
    (b12 : S k 0 = 4 → hld S (S k 3) (S k 4) = -6 → P (bcm S k 5))
    (b13 : S k 0 = 4 → ¬ hld S (S k 3) (S k 4) = -6 → S k 4 + 1 < S 0 6 → P (up S k 4 (S k 4 + 1)))
    (b14 : S k 0 = 4 → ¬ hld S (S k 3) (S k 4) = -6 → ¬ S k 4 + 1 < S 0 6 → P (sndB (up S k 4 (S k 4 + 1)) k c 2))
    (b15 : S k 0 = 6 → S k 5 - 1 ≤ 0 → S k 6 + 1 ≤ 4 → S (6 + (4 * (S k 3 - 1) + (S k 6 + 1) - 1).toNat) 0 = 0 → P (f_call (up (up S k 5 (S k 5 - 1)) k 6 (S k 6 + 1)) k c (6 + (4 * (S k 3 - 1) + (S k 6 + 1) - 1).toNat) (4 * (S k 3 - 1) + (S k 6 + 1) - 1)))
    (b16 : S k 0 = 6 → S k 5 - 1 ≤ 0 → S k 6 + 1 ≤ 4 → ¬ S (6 + (4 * (S k 3 - 1) + (S k 6 + 1) - 1).toNat) 0 = 0 → P (sndB (up (up S k 5 (S k 5 - 1)) k 6 (S k 6 + 1)) k c 1))
    (b17 : S k 0 = 6 → S k 5 - 1 ≤ 0 → ¬ S k 6 + 1 ≤ 4 → P (sndV (up (up S k 5 (S k 5 - 1)) k 6 (S k 6 + 1)) k c))
    (b18 : S k 0 = 6 → ¬ S k 5 - 1 ≤ 0 → P ((up (up S k 5 (S k 5 - 1)) k 6 (S k 6 + 1))))
    (b19 : S k 0 = 7 → S t 1 = 0 → S k 7 + 1 < S 5 1 → P (up S k 7 (S k 7 + 1)))
    (b20 : S k 0 = 7 → S t 1 = 0 → ¬ S k 7 + 1 < S 5 1 → P (lvc (sndB (up S k 7 (S k 7 + 1)) k c 4) t 0))
    (b21 : S k 0 = 7 → ¬ S t 1 = 0 → P (up (up (up (up (bcm S k 8) c 0 6) t 0 7) c 2 (S c 2 + 1)) 0 12 (S 0 12 + 1)))
    (b22 : S k 0 = 8 → S t 1 = 0 → S k 8 + 1 < S 5 3 → (S k 7 + 1) % S 5 2 = 0 → P (up (up (up S k 8 (S k 8 + 1)) k 7 (S k 7 + 1)) c 2 (S c 2 + 1)))
    (b23 : S k 0 = 8 → S t 1 = 0 → S k 8 + 1 < S 5 3 → ¬ (S k 7 + 1) % S 5 2 = 0 → P ((up (up S k 8 (S k 8 + 1)) k 7 (S k 7 + 1))))
    (b24 : S k 0 = 8 → S t 1 = 0 → ¬ S k 8 + 1 < S 5 3 → P (lvc (lvc (up (bfr (up S k 8 (S k 8 + 1)) k) c 3 6) c 10) t 0))
    (b25 : S k 0 = 8 → ¬ S t 1 = 0 → (S k 7 + 1) % S 5 2 = 0 → P (up (up (up S k 8 0) k 7 (S k 7 + 1)) c 2 (S c 2 + 1)))
    (b26 : S k 0 = 8 → ¬ S t 1 = 0 → ¬ (S k 7 + 1) % S 5 2 = 0 → P ((up (up S k 8 0) k 7 (S k 7 + 1))))
    (b27 : S k 0 = 9 → S k 7 + 1 < S 5 0 → P (up S k 7 (S k 7 + 1)))
    (b28 : S k 0 = 9 → ¬ S k 7 + 1 < S 5 0 → P (lvc (bfr (up S k 7 (S k 7 + 1)) k) c 10))
    (b0 : ¬ S k 0 = 1 → ¬ S k 0 = 2 → ¬ S k 0 = 3 → ¬ S k 0 = 4 → ¬ S k 0 = 5 → ¬ S k 0 = 6 → ¬ S k 0 = 7 → ¬ S k 0 = 8 → ¬ S k 0 = 9 → P S) : P (stp S k c t) := by
  unfold stp
  by_cases em : S k 0 = 1
  · rw [if_pos em]
    unfold f_seek
    by_cases e0 : S k 1 = S k 2
    · rw [if_pos e0]
      exact b1 em e0
    · rw [if_neg e0]
      exact b2 em e0
  rw [if_neg em]; have m1 := em; clear em
  by_cases em : S k 0 = 2
  · rw [if_pos em]
    unfold f_await
    by_cases e0 : S c 5 ≤ 0
    · rw [if_pos e0]
      by_cases e1 : S k 7 + 1 < S 5 0
      · rw [if_pos e1]
        exact b3 em e0 e1
      · rw [if_neg e1]
        exact b4 em e0 e1
    · rw [if_neg e0]
      exact b5 em e0
  rw [if_neg em]; have m2 := em; clear em
  by_cases em : S k 0 = 3
  · rw [if_pos em]
    unfold f_rise
    by_cases e0 : S k 5 - 1 ≤ 0
    · rw [if_pos e0]
      by_cases e1 : S k 3 + 1 ≤ 4
      · rw [if_pos e1]
        exact b9 em e0 e1
      · rw [if_neg e1]
        exact b10 em e0 e1
    · rw [if_neg e0]
      exact b11 em e0
  rw [if_neg em]; have m3 := em; clear em
  by_cases em : S k 0 = 4
  · rw [if_pos em]
    unfold f_hunt
    by_cases e0 : hld S (S k 3) (S k 4) = -6
    · rw [if_pos e0]
      exact b12 em e0
    · rw [if_neg e0]
      by_cases e1 : S k 4 + 1 < S 0 6
      · rw [if_pos e1]
        exact b13 em e0 e1
      · rw [if_neg e1]
        exact b14 em e0 e1
  rw [if_neg em]; have m4 := em; clear em
  by_cases em : S k 0 = 5
  · rw [if_pos em]
    unfold f_await
    by_cases e0 : S c 5 ≤ 0
    · rw [if_pos e0]
      by_cases e1 : S k 7 + 1 < S 5 0
      · rw [if_pos e1]
        exact b6 em e0 e1
      · rw [if_neg e1]
        exact b7 em e0 e1
    · rw [if_neg e0]
      exact b8 em e0
  rw [if_neg em]; have m5 := em; clear em
  by_cases em : S k 0 = 6
  · rw [if_pos em]
    unfold f_stepOn
    by_cases e0 : S k 5 - 1 ≤ 0
    · rw [if_pos e0]
      by_cases e1 : S k 6 + 1 ≤ 4
      · rw [if_pos e1]
        by_cases e2 : S (6 + (4 * (S k 3 - 1) + (S k 6 + 1) - 1).toNat) 0 = 0
        · rw [if_pos e2]
          exact b15 em e0 e1 e2
        · rw [if_neg e2]
          exact b16 em e0 e1 e2
      · rw [if_neg e1]
        exact b17 em e0 e1
    · rw [if_neg e0]
      exact b18 em e0
  rw [if_neg em]; have m6 := em; clear em
  by_cases em : S k 0 = 7
  · rw [if_pos em]
    unfold f_ring
    by_cases e0 : S t 1 = 0
    · rw [if_pos e0]
      by_cases e1 : S k 7 + 1 < S 5 1
      · rw [if_pos e1]
        exact b19 em e0 e1
      · rw [if_neg e1]
        exact b20 em e0 e1
    · rw [if_neg e0]
      exact b21 em e0
  rw [if_neg em]; have m7 := em; clear em
  by_cases em : S k 0 = 8
  · rw [if_pos em]
    unfold f_talk f_mt
    by_cases e0 : S t 1 = 0
    · rw [if_pos e0]
      by_cases e1 : S k 8 + 1 < S 5 3
      · rw [if_pos e1]
        by_cases e2 : (S k 7 + 1) % S 5 2 = 0
        · rw [if_pos e2]
          exact b22 em e0 e1 e2
        · rw [if_neg e2]
          exact b23 em e0 e1 e2
      · rw [if_neg e1]
        exact b24 em e0 e1
    · rw [if_neg e0]
      by_cases e1 : (S k 7 + 1) % S 5 2 = 0
      · rw [if_pos e1]
        exact b25 em e0 e1
      · rw [if_neg e1]
        exact b26 em e0 e1
  rw [if_neg em]; have m8 := em; clear em
  by_cases em : S k 0 = 9
  · rw [if_pos em]
    unfold f_sound
    by_cases e0 : S k 7 + 1 < S 5 0
    · rw [if_pos e0]
      exact b27 em e0
    · rw [if_neg e0]
      exact b28 em e0
  rw [if_neg em]; have m9 := em; clear em
  exact b0 m1 m2 m3 m4 m5 m6 m7 m8 m9
section SC
variable {q : Int} {S : SS} {f : Nat}
theorem stpF_0 (h : S (22 + f) 0 = 0) : stpF S f = S := by
  rw [stpF, stp, if_neg (by omega), if_neg (by omega), if_neg (by omega), if_neg (by omega), if_neg (by omega), if_neg (by omega), if_neg (by omega), if_neg (by omega), if_neg (by omega)]
theorem stp_fin (hI : Inv q S) (hf : f < 4) {j : Nat} (hj : j < 4) (hjf : ¬ j = f) (i : Nat) : stpF S f (22 + j) i = S (22 + j) i := by
  have hz := hI.fin f hf
  unfold finOK at hz
  have n1 : ¬ 22 + j = 22 + f := by omega
  have n2 : ¬ 22 + j = 6 + (S (22 + f) 2).toNat := by omega
  have n3 : ¬ 22 + j = 6 + (S (22 + f) 9).toNat := by omega
  have n4 : ¬ 22 + j = 0 := by omega
  refine stp_el (P := fun Y => Y (22 + j) i = S (22 + j) i) ?_ ?_ ?_ ?_ ?_ ?_ ?_ ?_ ?_ ?_ ?_ ?_ ?_ ?_ ?_ ?_ ?_ ?_ ?_ ?_ ?_ ?_ ?_ ?_ ?_ ?_ ?_ ?_ ?_ <;> intros <;> first
    | (simp only [upA, bcm, bfr, lvc, sndV, sndB, f_call, n1, n2, n3, n4, false_and, if_false]; done)
    | (have n5 : ¬ 22 + j = 6 + (4 * (S (22 + f) 3 - 1) + (S (22 + f) 6 + 1) - 1).toNat := by omega
       simp only [upA, bcm, bfr, lvc, sndV, sndB, f_call, n1, n2, n3, n4, n5, false_and, if_false]; done)
theorem stp_l1 {i : Nat} (hf : f < 4) (hi : i < 16) : stpF S f (6 + i) 1 = S (6 + i) 1 := by
  have n1 : ¬ 6 + i = 22 + f := by omega
  have n4 : ¬ 6 + i = 0 := by omega
  refine stp_el (P := fun Y => Y (6 + i) 1 = S (6 + i) 1) ?_ ?_ ?_ ?_ ?_ ?_ ?_ ?_ ?_ ?_ ?_ ?_ ?_ ?_ ?_ ?_ ?_ ?_ ?_ ?_ ?_ ?_ ?_ ?_ ?_ ?_ ?_ ?_ ?_ <;> intros <;> simp [upA, bcm, bfr, lvc, sndV, sndB, f_call, n1, n4]
theorem stp_hd {j : Nat} (hj : j < 10) : stpF S f 0 j = S 0 j := by
  have n1 : ¬ 0 = 22 + f := by omega
  have n2 : ∀ x, ¬ 0 = 6 + x := fun x => by omega
  have n3 : ¬ j = 10 := by omega
  have n4 : ¬ j = 11 := by omega
  have n5 : ¬ j = 12 := by omega
  have n6 : ¬ j = 13 := by omega
  have n7 : ¬ j = 14 := by omega
  have n8 : ¬ j = 15 := by omega
  refine stp_el (P := fun Y => Y 0 j = S 0 j) ?_ ?_ ?_ ?_ ?_ ?_ ?_ ?_ ?_ ?_ ?_ ?_ ?_ ?_ ?_ ?_ ?_ ?_ ?_ ?_ ?_ ?_ ?_ ?_ ?_ ?_ ?_ ?_ ?_ <;> intros <;> simp only [upA, bcm, bfr, lvc, sndV, sndB, f_call, n1, n2, n3, n4, n5, n6, n7, n8, false_and, and_false, if_false]
theorem stp_set {j : Nat} : stpF S f 5 j = S 5 j := by
  have n1 : ¬ 5 = 22 + f := by omega
  have n2 : ∀ x, ¬ 5 = 6 + x := fun x => by omega
  have n3 : ¬ 5 = 0 := by omega
  refine stp_el (P := fun Y => Y 5 j = S 5 j) ?_ ?_ ?_ ?_ ?_ ?_ ?_ ?_ ?_ ?_ ?_ ?_ ?_ ?_ ?_ ?_ ?_ ?_ ?_ ?_ ?_ ?_ ?_ ?_ ?_ ?_ ?_ ?_ ?_ <;> intros <;> simp only [upA, bcm, bfr, lvc, sndV, sndB, f_call, n1, n2, n3, false_and, and_false, if_false]
/-- a line's state is never WAITING but it was -/
theorem stp_c0 {i : Nat} (hf : f < 4) (hi : i < 16) (h : stpF S f (6 + i) 0 = 1) : S (6 + i) 0 = 1 := by
  have n1 : ¬ 6 + i = 22 + f := by omega
  have n4 : ¬ 6 + i = 0 := by omega
  revert h
  refine stp_el (P := fun Y => Y (6 + i) 0 = 1 → S (6 + i) 0 = 1) ?_ ?_ ?_ ?_ ?_ ?_ ?_ ?_ ?_ ?_ ?_ ?_ ?_ ?_ ?_ ?_ ?_ ?_ ?_ ?_ ?_ ?_ ?_ ?_ ?_ ?_ ?_ ?_ ?_ <;> intros <;> rename_i h <;> first | exact h | (simp (decide := true) only [upA, bcm, bfr, lvc, sndV, sndB, f_call, n1, n4, and_true, and_false, false_and, if_false, reduceCtorEq, Nat.reduceEqDiff] at h; first | exact h | (split at h <;> first | exact h | omega | (split at h <;> first | exact h | omega)))
/-- lines that don't belong to the finder stay as they are, but for an IDLE one that it rings -/
theorem stp_keep (hI : Inv q S) (hf : f < 4) {i : Nat} (hi : i < 16) (h1 : ¬ S (6 + i) 6 = (f : Int)) (h2 : ¬ S (6 + i) 0 = 0) (j : Nat) : stpF S f (6 + i) j = S (6 + i) j := by
  by_cases z : S (22 + f) 0 = 0
  · rw [stpF_0 z]
  obtain ⟨c, hc, ec, ec2, elk, esm⟩ := hI.cal hf z
  have n1 : ¬ 6 + i = 22 + f := by omega
  have n4 : ¬ 6 + i = 0 := by omega
  have n2 : ¬ 6 + i = 6 + (S (22 + f) 2).toNat := fun e => h1 (by rw [e, ec2]; exact elk)
  have n3 : S (22 + f) 0 = 7 ∨ S (22 + f) 0 = 8 → ¬ 6 + i = 6 + (S (22 + f) 9).toNat := fun e e2 => by
    obtain ⟨t, ht, et, et2, g1, -⟩ := hI.tgt hf e
    exact h1 (by rw [e2, et2]; exact g1)
  refine stp_el (P := fun Y => Y (6 + i) j = S (6 + i) j) ?_ ?_ ?_ ?_ ?_ ?_ ?_ ?_ ?_ ?_ ?_ ?_ ?_ ?_ ?_ ?_ ?_ ?_ ?_ ?_ ?_ ?_ ?_ ?_ ?_ ?_ ?_ ?_ ?_ <;> intros <;> rename_i e0 e1 <;> first
    | (simp only [upA, bcm, bfr, lvc, sndV, sndB, f_call, n1, n2, n4, false_and, if_false]; done)
    | (have n5 := n3 (by omega); simp only [upA, bcm, bfr, lvc, sndV, sndB, f_call, n1, n2, n4, n5, false_and, if_false]; done)
    | (have n6 : ¬ 6 + i = 6 + (4 * (S (22 + f) 3 - 1) + (S (22 + f) 6 + 1) - 1).toNat := fun e => h2 (by rw [e]; assumption)
       simp only [upA, bcm, bfr, lvc, sndV, sndB, f_call, n1, n2, n4, n6, false_and, if_false]; done)
    | omega
/-- the state that follows from what was; -1: nothing is told -/
def due (S : SS) (f : Nat) : Int :=
  if S (22 + f) 0 = 1 then (if S (22 + f) 1 = S (22 + f) 2 then 2 else 1)
  else if S (22 + f) 0 = 2 then (if 0 < S (6 + (S (22 + f) 2).toNat) 5 then 3 else if S 5 0 ≤ S (22 + f) 7 + 1 then 0 else 2)
  else if S (22 + f) 0 = 3 then (if 1 < S (22 + f) 5 then 3 else if S (22 + f) 3 < 4 then 4 else 9)
  else if S (22 + f) 0 = 5 then (if 0 < S (6 + (S (22 + f) 2).toNat) 5 then 6 else if S 5 0 ≤ S (22 + f) 7 + 1 then 0 else 5)
  else if S (22 + f) 0 = 6 then (if 1 < S (22 + f) 5 then 6 else -1)
  else if S (22 + f) 0 = 7 then (if S (6 + (S (22 + f) 9).toNat) 1 = 1 then 8 else if S 5 1 ≤ S (22 + f) 7 + 1 then 9 else 7)
  else if S (22 + f) 0 = 8 then (if S (6 + (S (22 + f) 9).toNat) 1 = 0 ∧ S 5 3 ≤ S (22 + f) 8 + 1 then 0 else 8)
  else if S (22 + f) 0 = 9 then (if S 5 0 ≤ S (22 + f) 7 + 1 then 0 else 9) else -1
theorem due_1 (h : S (22 + f) 0 = 1) : due S f = (if S (22 + f) 1 = S (22 + f) 2 then 2 else 1) := by rw [due, if_pos h]
theorem due_2 (h : S (22 + f) 0 = 2) : due S f = (if 0 < S (6 + (S (22 + f) 2).toNat) 5 then 3 else if S 5 0 ≤ S (22 + f) 7 + 1 then 0 else 2) := by rw [due, if_neg (by omega), if_pos h]
theorem due_3 (h : S (22 + f) 0 = 3) : due S f = (if 1 < S (22 + f) 5 then 3 else if S (22 + f) 3 < 4 then 4 else 9) := by rw [due, if_neg (by omega), if_neg (by omega), if_pos h]
theorem due_4 (h : S (22 + f) 0 = 4) : due S f = -1 := by rw [due, if_neg (by omega), if_neg (by omega), if_neg (by omega), if_neg (by omega), if_neg (by omega), if_neg (by omega), if_neg (by omega), if_neg (by omega)]
theorem due_5 (h : S (22 + f) 0 = 5) : due S f = (if 0 < S (6 + (S (22 + f) 2).toNat) 5 then 6 else if S 5 0 ≤ S (22 + f) 7 + 1 then 0 else 5) := by rw [due, if_neg (by omega), if_neg (by omega), if_neg (by omega), if_pos h]
theorem due_6 (h : S (22 + f) 0 = 6) : due S f = (if 1 < S (22 + f) 5 then 6 else -1) := by rw [due, if_neg (by omega), if_neg (by omega), if_neg (by omega), if_neg (by omega), if_pos h]
theorem due_7 (h : S (22 + f) 0 = 7) : due S f = (if S (6 + (S (22 + f) 9).toNat) 1 = 1 then 8 else if S 5 1 ≤ S (22 + f) 7 + 1 then 9 else 7) := by rw [due, if_neg (by omega), if_neg (by omega), if_neg (by omega), if_neg (by omega), if_neg (by omega), if_pos h]
theorem due_8 (h : S (22 + f) 0 = 8) : due S f = (if S (6 + (S (22 + f) 9).toNat) 1 = 0 ∧ S 5 3 ≤ S (22 + f) 8 + 1 then 0 else 8) := by rw [due, if_neg (by omega), if_neg (by omega), if_neg (by omega), if_neg (by omega), if_neg (by omega), if_neg (by omega), if_pos h]
theorem due_9 (h : S (22 + f) 0 = 9) : due S f = (if S 5 0 ≤ S (22 + f) 7 + 1 then 0 else 9) := by rw [due, if_neg (by omega), if_neg (by omega), if_neg (by omega), if_neg (by omega), if_neg (by omega), if_neg (by omega), if_neg (by omega), if_pos h]
theorem due_0 (h1 : ¬ S (22 + f) 0 = 1) (h2 : ¬ S (22 + f) 0 = 2) (h3 : ¬ S (22 + f) 0 = 3) (h5 : ¬ S (22 + f) 0 = 5) (h6 : ¬ S (22 + f) 0 = 6) (h7 : ¬ S (22 + f) 0 = 7) (h8 : ¬ S (22 + f) 0 = 8) (h9 : ¬ S (22 + f) 0 = 9) : due S f = -1 := by rw [due, if_neg h1, if_neg h2, if_neg h3, if_neg h5, if_neg h6, if_neg h7, if_neg h8, if_neg h9]
theorem stp_due (hI : Inv q S) (hf : f < 4) (hd : 0 ≤ due S f) : stpF S f (22 + f) 0 = due S f := by
  have h78 : S (22 + f) 0 = 7 ∨ S (22 + f) 0 = 8 → S (6 + (S (22 + f) 9).toNat) 1 = 0 ∨ S (6 + (S (22 + f) 9).toNat) 1 = 1 := fun e => by
    obtain ⟨t, ht, et, et2, g1, -⟩ := hI.tgt hf e
    have := hI.lin t ht
    unfold linOK at this
    rw [et2]; exact this.2.1
  have hz := hI.fin f hf
  unfold finOK at hz
  have hz2 : 0 ≤ S (22 + f) 3 ∧ 0 ≤ S (22 + f) 6 ∧ (S (22 + f) 0 = 6 → 1 ≤ S (22 + f) 3 ∧ S (22 + f) 3 ≤ 4) := by omega
  have a1 : ¬ 22 + f = 6 + (S (22 + f) 2).toNat := by omega
  have a2 : ¬ 22 + f = 6 + (S (22 + f) 9).toNat := by omega
  have a3 : ¬ 22 + f = 0 := by omega
  clear hz
  revert hd
  refine stp_el (P := fun Y => 0 ≤ due S f → Y (22 + f) 0 = due S f) ?_ ?_ ?_ ?_ ?_ ?_ ?_ ?_ ?_ ?_ ?_ ?_ ?_ ?_ ?_ ?_ ?_ ?_ ?_ ?_ ?_ ?_ ?_ ?_ ?_ ?_ ?_ ?_ ?_
  · intro em e0 hd
    rw [due_1 em] at hd ⊢
    simp (decide := true) only [upA, bcm, bfr, lvc, sndV, sndB, f_call, a1, a2, a3, false_and, and_self, and_true, and_false, if_false, if_true, Nat.reduceEqDiff, reduceCtorEq]
    (repeat' split) <;> omega
  · intro em e0 hd
    rw [due_1 em] at hd ⊢
    simp (decide := true) only [upA, bcm, bfr, lvc, sndV, sndB, f_call, a1, a2, a3, false_and, and_self, and_true, and_false, if_false, if_true, Nat.reduceEqDiff, reduceCtorEq]
    (repeat' split) <;> omega
  · intro em e0 e1 hd
    rw [due_2 em] at hd ⊢
    simp (decide := true) only [upA, bcm, bfr, lvc, sndV, sndB, f_call, a1, a2, a3, false_and, and_self, and_true, and_false, if_false, if_true, Nat.reduceEqDiff, reduceCtorEq]
    (repeat' split) <;> omega
  · intro em e0 e1 hd
    rw [due_2 em] at hd ⊢
    simp (decide := true) only [upA, bcm, bfr, lvc, sndV, sndB, f_call, a1, a2, a3, false_and, and_self, and_true, and_false, if_false, if_true, Nat.reduceEqDiff, reduceCtorEq]
    (repeat' split) <;> omega
  · intro em e0 hd
    rw [due_2 em] at hd ⊢
    simp (decide := true) only [upA, bcm, bfr, lvc, sndV, sndB, f_call, a1, a2, a3, false_and, and_self, and_true, and_false, if_false, if_true, Nat.reduceEqDiff, reduceCtorEq]
    (repeat' split) <;> omega
  · intro em e0 e1 hd
    rw [due_5 em] at hd ⊢
    simp (decide := true) only [upA, bcm, bfr, lvc, sndV, sndB, f_call, a1, a2, a3, false_and, and_self, and_true, and_false, if_false, if_true, Nat.reduceEqDiff, reduceCtorEq]
    (repeat' split) <;> omega
  · intro em e0 e1 hd
    rw [due_5 em] at hd ⊢
    simp (decide := true) only [upA, bcm, bfr, lvc, sndV, sndB, f_call, a1, a2, a3, false_and, and_self, and_true, and_false, if_false, if_true, Nat.reduceEqDiff, reduceCtorEq]
    (repeat' split) <;> omega
  · intro em e0 hd
    rw [due_5 em] at hd ⊢
    simp (decide := true) only [upA, bcm, bfr, lvc, sndV, sndB, f_call, a1, a2, a3, false_and, and_self, and_true, and_false, if_false, if_true, Nat.reduceEqDiff, reduceCtorEq]
    (repeat' split) <;> omega
  · intro em e0 e1 hd
    rw [due_3 em] at hd ⊢
    simp (decide := true) only [upA, bcm, bfr, lvc, sndV, sndB, f_call, a1, a2, a3, false_and, and_self, and_true, and_false, if_false, if_true, Nat.reduceEqDiff, reduceCtorEq]
    (repeat' split) <;> omega
  · intro em e0 e1 hd
    rw [due_3 em] at hd ⊢
    simp (decide := true) only [upA, bcm, bfr, lvc, sndV, sndB, f_call, a1, a2, a3, false_and, and_self, and_true, and_false, if_false, if_true, Nat.reduceEqDiff, reduceCtorEq]
    (repeat' split) <;> omega
  · intro em e0 hd
    rw [due_3 em] at hd ⊢
    simp (decide := true) only [upA, bcm, bfr, lvc, sndV, sndB, f_call, a1, a2, a3, false_and, and_self, and_true, and_false, if_false, if_true, Nat.reduceEqDiff, reduceCtorEq]
    (repeat' split) <;> omega
  · intro em e0 hd
    rw [due_4 em] at hd ⊢
    omega
  · intro em e0 e1 hd
    rw [due_4 em] at hd ⊢
    omega
  · intro em e0 e1 hd
    rw [due_4 em] at hd ⊢
    omega
  · intro em e0 e1 e2 hd
    rw [due_6 em] at hd ⊢
    have a4 : ¬ 22 + f = 6 + (4 * (S (22 + f) 3 - 1) + (S (22 + f) 6 + 1) - 1).toNat := by omega
    rw [if_neg (by omega)] at hd
    omega
  · intro em e0 e1 e2 hd
    rw [due_6 em] at hd ⊢
    simp (decide := true) only [upA, bcm, bfr, lvc, sndV, sndB, f_call, a1, a2, a3, false_and, and_self, and_true, and_false, if_false, if_true, Nat.reduceEqDiff, reduceCtorEq]
    (repeat' split) <;> omega
  · intro em e0 e1 hd
    rw [due_6 em] at hd ⊢
    simp (decide := true) only [upA, bcm, bfr, lvc, sndV, sndB, f_call, a1, a2, a3, false_and, and_self, and_true, and_false, if_false, if_true, Nat.reduceEqDiff, reduceCtorEq]
    (repeat' split) <;> omega
  · intro em e0 hd
    rw [due_6 em] at hd ⊢
    simp (decide := true) only [upA, bcm, bfr, lvc, sndV, sndB, f_call, a1, a2, a3, false_and, and_self, and_true, and_false, if_false, if_true, Nat.reduceEqDiff, reduceCtorEq]
    (repeat' split) <;> omega
  · intro em e0 e1 hd
    rw [due_7 em] at hd ⊢
    have h1 := h78 (by omega)
    simp (decide := true) only [upA, bcm, bfr, lvc, sndV, sndB, f_call, a1, a2, a3, false_and, and_self, and_true, and_false, if_false, if_true, Nat.reduceEqDiff, reduceCtorEq]
    (repeat' split) <;> omega
  · intro em e0 e1 hd
    rw [due_7 em] at hd ⊢
    have h1 := h78 (by omega)
    simp (decide := true) only [upA, bcm, bfr, lvc, sndV, sndB, f_call, a1, a2, a3, false_and, and_self, and_true, and_false, if_false, if_true, Nat.reduceEqDiff, reduceCtorEq]
    (repeat' split) <;> omega
  · intro em e0 hd
    rw [due_7 em] at hd ⊢
    have h1 := h78 (by omega)
    simp (decide := true) only [upA, bcm, bfr, lvc, sndV, sndB, f_call, a1, a2, a3, false_and, and_self, and_true, and_false, if_false, if_true, Nat.reduceEqDiff, reduceCtorEq]
    (repeat' split) <;> omega
  · intro em e0 e1 e2 hd
    rw [due_8 em] at hd ⊢
    have h1 := h78 (by omega)
    simp (decide := true) only [upA, bcm, bfr, lvc, sndV, sndB, f_call, a1, a2, a3, false_and, and_self, and_true, and_false, if_false, if_true, Nat.reduceEqDiff, reduceCtorEq]
    (repeat' split) <;> omega
  · intro em e0 e1 e2 hd
    rw [due_8 em] at hd ⊢
    have h1 := h78 (by omega)
    simp (decide := true) only [upA, bcm, bfr, lvc, sndV, sndB, f_call, a1, a2, a3, false_and, and_self, and_true, and_false, if_false, if_true, Nat.reduceEqDiff, reduceCtorEq]
    (repeat' split) <;> omega
  · intro em e0 e1 hd
    rw [due_8 em] at hd ⊢
    have h1 := h78 (by omega)
    simp (decide := true) only [upA, bcm, bfr, lvc, sndV, sndB, f_call, a1, a2, a3, false_and, and_self, and_true, and_false, if_false, if_true, Nat.reduceEqDiff, reduceCtorEq]
    (repeat' split) <;> omega
  · intro em e0 e1 hd
    rw [due_8 em] at hd ⊢
    have h1 := h78 (by omega)
    simp (decide := true) only [upA, bcm, bfr, lvc, sndV, sndB, f_call, a1, a2, a3, false_and, and_self, and_true, and_false, if_false, if_true, Nat.reduceEqDiff, reduceCtorEq]
    (repeat' split) <;> omega
  · intro em e0 e1 hd
    rw [due_8 em] at hd ⊢
    have h1 := h78 (by omega)
    simp (decide := true) only [upA, bcm, bfr, lvc, sndV, sndB, f_call, a1, a2, a3, false_and, and_self, and_true, and_false, if_false, if_true, Nat.reduceEqDiff, reduceCtorEq]
    (repeat' split) <;> omega
  · intro em e0 hd
    rw [due_9 em] at hd ⊢
    simp (decide := true) only [upA, bcm, bfr, lvc, sndV, sndB, f_call, a1, a2, a3, false_and, and_self, and_true, and_false, if_false, if_true, Nat.reduceEqDiff, reduceCtorEq]
    (repeat' split) <;> omega
  · intro em e0 hd
    rw [due_9 em] at hd ⊢
    simp (decide := true) only [upA, bcm, bfr, lvc, sndV, sndB, f_call, a1, a2, a3, false_and, and_self, and_true, and_false, if_false, if_true, Nat.reduceEqDiff, reduceCtorEq]
    (repeat' split) <;> omega
  · intro m1 m2 m3 m4 m5 m6 m7 m8 m9 hd
    rw [due_0 m1 m2 m3 m5 m6 m7 m8 m9] at hd
    omega
end SC
