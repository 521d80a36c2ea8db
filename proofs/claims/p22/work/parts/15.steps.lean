-- ===== each step keeps what holds =====
theorem fin_1 {q nc : Int} {F : Nat → Int} (h : finOK q nc F) (e : F 0 = 1) : (0 ≤ F 1 ∧ F 1 < 16) ∧ (0 ≤ F 7 ∧ F 7 ≤ q) ∧ (0 ≤ F 8 ∧ F 8 ≤ q) ∧ (0 ≤ F 5 ∧ F 5 ≤ 16) ∧ (0 ≤ F 2 ∧ F 2 < 16) ∧ F 3 = 0 ∧ F 4 = -6 ∧ F 6 = 0 ∧ F 9 = -6 := by
  unfold finOK at h; omega
theorem fin_2 {q nc : Int} {F : Nat → Int} (h : finOK q nc F) (e : F 0 = 2) : (0 ≤ F 1 ∧ F 1 < 16) ∧ (0 ≤ F 7 ∧ F 7 ≤ q) ∧ (0 ≤ F 8 ∧ F 8 ≤ q) ∧ (0 ≤ F 5 ∧ F 5 ≤ 16) ∧ (0 ≤ F 2 ∧ F 2 < 16) ∧ F 3 = 0 ∧ F 4 = -6 ∧ F 6 = 0 ∧ F 9 = -6 := by
  unfold finOK at h; omega
theorem fin_3 {q nc : Int} {F : Nat → Int} (h : finOK q nc F) (e : F 0 = 3) : (0 ≤ F 1 ∧ F 1 < 16) ∧ (0 ≤ F 7 ∧ F 7 ≤ q) ∧ (0 ≤ F 8 ∧ F 8 ≤ q) ∧ (0 ≤ F 2 ∧ F 2 < 16) ∧ 0 ≤ F 3 ∧ 1 ≤ F 5 ∧ F 3 + F 5 ≤ 16 ∧ F 4 = -6 ∧ F 6 = 0 ∧ F 9 = -6 := by
  unfold finOK at h; omega
theorem fin_45 {q nc : Int} {F : Nat → Int} (h : finOK q nc F) (e : F 0 = 4 ∨ F 0 = 5) : (0 ≤ F 1 ∧ F 1 < 16) ∧ (0 ≤ F 7 ∧ F 7 ≤ q) ∧ (0 ≤ F 8 ∧ F 8 ≤ q) ∧ (0 ≤ F 5 ∧ F 5 ≤ 16) ∧ (0 ≤ F 2 ∧ F 2 < 16) ∧ (1 ≤ F 3 ∧ F 3 ≤ 4) ∧ (0 ≤ F 4 ∧ F 4 < nc) ∧ F 6 = 0 ∧ F 9 = -6 := by
  unfold finOK at h; omega
theorem fin_6 {q nc : Int} {F : Nat → Int} (h : finOK q nc F) (e : F 0 = 6) : (0 ≤ F 1 ∧ F 1 < 16) ∧ (0 ≤ F 7 ∧ F 7 ≤ q) ∧ (0 ≤ F 8 ∧ F 8 ≤ q) ∧ (0 ≤ F 2 ∧ F 2 < 16) ∧ (1 ≤ F 3 ∧ F 3 ≤ 4) ∧ (0 ≤ F 4 ∧ F 4 < nc) ∧ 0 ≤ F 6 ∧ 1 ≤ F 5 ∧ F 6 + F 5 ≤ 16 ∧ F 9 = -6 := by
  unfold finOK at h; omega
theorem fin_78 {q nc : Int} {F : Nat → Int} (h : finOK q nc F) (e : F 0 = 7 ∨ F 0 = 8) : (0 ≤ F 1 ∧ F 1 < 16) ∧ (0 ≤ F 7 ∧ F 7 ≤ q) ∧ (0 ≤ F 8 ∧ F 8 ≤ q) ∧ (0 ≤ F 5 ∧ F 5 ≤ 16) ∧ (0 ≤ F 6 ∧ F 6 ≤ 16) ∧ (0 ≤ F 2 ∧ F 2 < 16) ∧ (1 ≤ F 3 ∧ F 3 ≤ 4) ∧ (0 ≤ F 4 ∧ F 4 < nc) ∧ F 3 = F 9 / 4 + 1 := by
  unfold finOK at h; omega
theorem fin_9 {q nc : Int} {F : Nat → Int} (h : finOK q nc F) (e : F 0 = 9) : (0 ≤ F 1 ∧ F 1 < 16) ∧ (0 ≤ F 7 ∧ F 7 ≤ q) ∧ (0 ≤ F 8 ∧ F 8 ≤ q) ∧ (0 ≤ F 5 ∧ F 5 ≤ 16) ∧ (0 ≤ F 6 ∧ F 6 ≤ 16) ∧ (0 ≤ F 2 ∧ F 2 < 16) ∧ (0 ≤ F 3 ∧ F 3 ≤ 16) ∧ F 4 = -6 ∧ F 9 = -6 := by
  unfold finOK at h; omega
theorem lin_own {q : Int} {L : Nat → Int} (h : linOK q L) (e : ¬ L 0 = 0 ∧ ¬ L 0 = 5 ∧ ¬ L 0 = 7) : L 1 = 1 ∧ (0 ≤ L 2 ∧ L 2 ≤ q) ∧ (0 ≤ L 5 ∧ L 5 ≤ 4) ∧ (0 ≤ L 7 ∧ L 7 ≤ q) ∧ (0 ≤ L 8 ∧ L 8 ≤ q) := by
  unfold linOK at h; omega
theorem pls_rng (d : Int) : 1 ≤ pls d ∧ pls d ≤ 15 := by
  have h : 0 ≤ dgt d ∧ dgt d ≤ 15 := by
    unfold dgt
    obtain ⟨j, hj, e⟩ := pk_andE (en d) (m := 15) 4 (by decide)
    rw [e, nI_toInt (by omega)]
    omega
  unfold pls
  by_cases e : dgt d = 0
  · rw [if_pos e]; omega
  · rw [if_neg e]; omega
section ST
variable {q : Int} {S : SS} {f c t : Nat}
theorem i_seek (hI : Inv q S) (hf : f < 4) (hc : c < 16) (ec : S (22 + f) 2 = (c : Int)) (hm : S (22 + f) 0 = 1) : Inv (q + 1) (f_seek S (22 + f) (6 + c)) := by
  have hl := hI.lkC f hf c hc (by omega) ec
  obtain ⟨hl6, hls⟩ := hl
  unfold smt at hls
  have g := fin_1 (hI.fin f hf) hm
  have gl := lin_own (hI.lin c hc) (by omega)
  have h0 := hI.hd
  unfold hdOK at h0
  have hnf : ¬ S 0 5 ≤ (f : Int) := fun z => absurd (hI.off f hf z) (by omega)
  have N1 : ¬ 22 + f = 6 + c := by omega
  have N2 : ¬ 6 + c = 22 + f := by omega
  have N3 : ¬ 0 = 22 + f := by omega
  have N4 : ¬ 0 = 6 + c := by omega
  unfold f_seek
  split
  · rename_i e
    obtain ⟨S', eS⟩ : ∃ z : SS, z = up (up (bcm S (22 + f) 2) (6 + c) 0 2) 0 10 (S 0 10 + 1) := ⟨_, rfl⟩
    rw [← eS]
    have F0 : S' (22 + f) 0 = 2 := by rw [eS]; simp [upA, bcm, bfr, lvc, sndV, sndB, f_call, f_mt, N1, N2, N3, N4]
    have F1 : S' (22 + f) 1 = S (22 + f) 1 := by rw [eS]; simp [upA, bcm, bfr, lvc, sndV, sndB, f_call, f_mt, N1, N2, N3, N4]
    have F2 : S' (22 + f) 2 = S (22 + f) 2 := by rw [eS]; simp [upA, bcm, bfr, lvc, sndV, sndB, f_call, f_mt, N1, N2, N3, N4]
    have F3 : S' (22 + f) 3 = S (22 + f) 3 := by rw [eS]; simp [upA, bcm, bfr, lvc, sndV, sndB, f_call, f_mt, N1, N2, N3, N4]
    have F4 : S' (22 + f) 4 = S (22 + f) 4 := by rw [eS]; simp [upA, bcm, bfr, lvc, sndV, sndB, f_call, f_mt, N1, N2, N3, N4]
    have F5 : S' (22 + f) 5 = S (22 + f) 5 := by rw [eS]; simp [upA, bcm, bfr, lvc, sndV, sndB, f_call, f_mt, N1, N2, N3, N4]
    have F6 : S' (22 + f) 6 = S (22 + f) 6 := by rw [eS]; simp [upA, bcm, bfr, lvc, sndV, sndB, f_call, f_mt, N1, N2, N3, N4]
    have F7 : S' (22 + f) 7 = 0 := by rw [eS]; simp [upA, bcm, bfr, lvc, sndV, sndB, f_call, f_mt, N1, N2, N3, N4]
    have F8 : S' (22 + f) 8 = 0 := by rw [eS]; simp [upA, bcm, bfr, lvc, sndV, sndB, f_call, f_mt, N1, N2, N3, N4]
    have F9 : S' (22 + f) 9 = S (22 + f) 9 := by rw [eS]; simp [upA, bcm, bfr, lvc, sndV, sndB, f_call, f_mt, N1, N2, N3, N4]
    have L0 : S' (6 + c) 0 = 2 := by rw [eS]; simp [upA, bcm, bfr, lvc, sndV, sndB, f_call, f_mt, N1, N2, N3, N4]
    have L1 : S' (6 + c) 1 = S (6 + c) 1 := by rw [eS]; simp [upA, bcm, bfr, lvc, sndV, sndB, f_call, f_mt, N1, N2, N3, N4]
    have L2 : S' (6 + c) 2 = S (6 + c) 2 := by rw [eS]; simp [upA, bcm, bfr, lvc, sndV, sndB, f_call, f_mt, N1, N2, N3, N4]
    have L3 : S' (6 + c) 3 = S (6 + c) 3 := by rw [eS]; simp [upA, bcm, bfr, lvc, sndV, sndB, f_call, f_mt, N1, N2, N3, N4]
    have L5 : S' (6 + c) 5 = S (6 + c) 5 := by rw [eS]; simp [upA, bcm, bfr, lvc, sndV, sndB, f_call, f_mt, N1, N2, N3, N4]
    have L6 : S' (6 + c) 6 = S (6 + c) 6 := by rw [eS]; simp [upA, bcm, bfr, lvc, sndV, sndB, f_call, f_mt, N1, N2, N3, N4]
    have L7 : S' (6 + c) 7 = S (6 + c) 7 := by rw [eS]; simp [upA, bcm, bfr, lvc, sndV, sndB, f_call, f_mt, N1, N2, N3, N4]
    have L8 : S' (6 + c) 8 = S (6 + c) 8 := by rw [eS]; simp [upA, bcm, bfr, lvc, sndV, sndB, f_call, f_mt, N1, N2, N3, N4]
    have H5 : S' 0 5 = S 0 5 := by rw [eS]; simp [upA, bcm, bfr, lvc, sndV, sndB, f_call, f_mt, N1, N2, N3, N4]
    have H6 : S' 0 6 = S 0 6 := by rw [eS]; simp [upA, bcm, bfr, lvc, sndV, sndB, f_call, f_mt, N1, N2, N3, N4]
    have H7 : S' 0 7 = S 0 7 := by rw [eS]; simp [upA, bcm, bfr, lvc, sndV, sndB, f_call, f_mt, N1, N2, N3, N4]
    have H8 : S' 0 8 = S 0 8 := by rw [eS]; simp [upA, bcm, bfr, lvc, sndV, sndB, f_call, f_mt, N1, N2, N3, N4]
    have H9 : S' 0 9 = S 0 9 := by rw [eS]; simp [upA, bcm, bfr, lvc, sndV, sndB, f_call, f_mt, N1, N2, N3, N4]
    have H10 : S' 0 10 = S 0 10 + 1 := by rw [eS]; simp [upA, bcm, bfr, lvc, sndV, sndB, f_call, f_mt, N1, N2, N3, N4]
    have H11 : S' 0 11 = S 0 11 := by rw [eS]; simp [upA, bcm, bfr, lvc, sndV, sndB, f_call, f_mt, N1, N2, N3, N4]
    have H12 : S' 0 12 = S 0 12 := by rw [eS]; simp [upA, bcm, bfr, lvc, sndV, sndB, f_call, f_mt, N1, N2, N3, N4]
    have H13 : S' 0 13 = S 0 13 := by rw [eS]; simp [upA, bcm, bfr, lvc, sndV, sndB, f_call, f_mt, N1, N2, N3, N4]
    have H14 : S' 0 14 = S 0 14 := by rw [eS]; simp [upA, bcm, bfr, lvc, sndV, sndB, f_call, f_mt, N1, N2, N3, N4]
    have H15 : S' 0 15 = S 0 15 := by rw [eS]; simp [upA, bcm, bfr, lvc, sndV, sndB, f_call, f_mt, N1, N2, N3, N4]
    have eo : ∀ k, ¬ k = 22 + f → ¬ k = 6 + c → ¬ k = 0 → ∀ j, S' k j = S k j := fun k a b d j => by rw [eS]; simp [upA, bcm, bfr, lvc, sndV, sndB, f_call, f_mt, a, b, d]
    have hfo : ∀ j : Nat, j < 4 → ¬ j = f → ∀ i, S' (22 + j) i = S (22 + j) i := fun j hj e i => eo _ (by omega) (by omega) (by omega) i
    clear eS
    have D1 : w1 (S' (6 + c) 0) = 0 := by unfold w1; rw [if_neg (by omega)]
    have D0 : 0 ≤ w1 (S (6 + c) 0) := by unfold w1; split <;> omega
    have D2 : w2 (S' (22 + f) 0) ≤ w2 (S (22 + f) 0) + (S' 0 10 - S 0 10) := by unfold w2; split <;> split <;> omega
    have D3 : w3 (S' (22 + f) 0) ≤ w3 (S (22 + f) 0) := by unfold w3; split <;> split <;> omega
    have D5 : rv (S (6 + c) 0) = rv (S' (6 + c) 0) := by unfold rv; split <;> split <;> first | omega | (split <;> first | omega | (split <;> omega))
    have D6 : S' 0 10 - S 0 10 ≤ w1 (S (6 + c) 0) - w1 (S' (6 + c) 0) := by rw [D1]; unfold w1; rw [if_pos (by omega)]; omega
    exact Step_one (S' := S') (q' := q + 1) hI hf (by omega) hc (by omega) ec (by omega) eo ⟨⟨by omega, by omega⟩, ⟨by omega, by omega⟩, ⟨by omega, by omega⟩, ⟨by omega, by omega⟩, ⟨by omega, by omega⟩, ⟨by omega, by omega⟩, ⟨by omega, by omega⟩, ⟨by omega, by omega⟩, ⟨by omega, by omega⟩, ⟨by omega, by omega⟩, ⟨by omega, by omega⟩⟩ (by omega) (by omega) (by omega) ⟨⟨by omega, by omega⟩, ⟨by omega, by omega⟩, ⟨by omega, by omega⟩, ⟨by omega, by omega⟩, ⟨by omega, by omega⟩, ⟨by omega, by omega⟩, ⟨by omega, by omega⟩, fun _ => by omega, fun _ => by omega, fun _ => by omega, fun _ => by omega, fun _ => by omega, fun _ => by omega, fun _ => by omega, fun _ => by omega, fun _ => by omega, fun _ => by omega, fun _ => by omega⟩ (by omega) ⟨⟨by omega, by omega⟩, by omega, ⟨by omega, by omega⟩, ⟨by omega, by omega⟩, by omega, ⟨by omega, by omega⟩, ⟨by omega, by omega⟩, fun _ => by omega, fun _ => by omega⟩ (Or.inr ⟨by omega, by omega, by omega, by unfold smt; omega⟩) (hX_no (by unfold hds; omega)) (fun z => by omega) (by omega) (by omega) (by omega) (by omega) D5
  · rename_i e
    obtain ⟨S', eS⟩ : ∃ z : SS, z = up S (22 + f) 1 ((S (22 + f) 1 + 1) % 16) := ⟨_, rfl⟩
    rw [← eS]
    have F0 : S' (22 + f) 0 = S (22 + f) 0 := by rw [eS]; simp [upA, bcm, bfr, lvc, sndV, sndB, f_call, f_mt, N1, N2, N3, N4]
    have F1 : S' (22 + f) 1 = (S (22 + f) 1 + 1) % 16 := by rw [eS]; simp [upA, bcm, bfr, lvc, sndV, sndB, f_call, f_mt, N1, N2, N3, N4]
    have F2 : S' (22 + f) 2 = S (22 + f) 2 := by rw [eS]; simp [upA, bcm, bfr, lvc, sndV, sndB, f_call, f_mt, N1, N2, N3, N4]
    have F3 : S' (22 + f) 3 = S (22 + f) 3 := by rw [eS]; simp [upA, bcm, bfr, lvc, sndV, sndB, f_call, f_mt, N1, N2, N3, N4]
    have F4 : S' (22 + f) 4 = S (22 + f) 4 := by rw [eS]; simp [upA, bcm, bfr, lvc, sndV, sndB, f_call, f_mt, N1, N2, N3, N4]
    have F5 : S' (22 + f) 5 = S (22 + f) 5 := by rw [eS]; simp [upA, bcm, bfr, lvc, sndV, sndB, f_call, f_mt, N1, N2, N3, N4]
    have F6 : S' (22 + f) 6 = S (22 + f) 6 := by rw [eS]; simp [upA, bcm, bfr, lvc, sndV, sndB, f_call, f_mt, N1, N2, N3, N4]
    have F7 : S' (22 + f) 7 = S (22 + f) 7 := by rw [eS]; simp [upA, bcm, bfr, lvc, sndV, sndB, f_call, f_mt, N1, N2, N3, N4]
    have F8 : S' (22 + f) 8 = S (22 + f) 8 := by rw [eS]; simp [upA, bcm, bfr, lvc, sndV, sndB, f_call, f_mt, N1, N2, N3, N4]
    have F9 : S' (22 + f) 9 = S (22 + f) 9 := by rw [eS]; simp [upA, bcm, bfr, lvc, sndV, sndB, f_call, f_mt, N1, N2, N3, N4]
    have L0 : S' (6 + c) 0 = S (6 + c) 0 := by rw [eS]; simp [upA, bcm, bfr, lvc, sndV, sndB, f_call, f_mt, N1, N2, N3, N4]
    have L1 : S' (6 + c) 1 = S (6 + c) 1 := by rw [eS]; simp [upA, bcm, bfr, lvc, sndV, sndB, f_call, f_mt, N1, N2, N3, N4]
    have L2 : S' (6 + c) 2 = S (6 + c) 2 := by rw [eS]; simp [upA, bcm, bfr, lvc, sndV, sndB, f_call, f_mt, N1, N2, N3, N4]
    have L3 : S' (6 + c) 3 = S (6 + c) 3 := by rw [eS]; simp [upA, bcm, bfr, lvc, sndV, sndB, f_call, f_mt, N1, N2, N3, N4]
    have L5 : S' (6 + c) 5 = S (6 + c) 5 := by rw [eS]; simp [upA, bcm, bfr, lvc, sndV, sndB, f_call, f_mt, N1, N2, N3, N4]
    have L6 : S' (6 + c) 6 = S (6 + c) 6 := by rw [eS]; simp [upA, bcm, bfr, lvc, sndV, sndB, f_call, f_mt, N1, N2, N3, N4]
    have L7 : S' (6 + c) 7 = S (6 + c) 7 := by rw [eS]; simp [upA, bcm, bfr, lvc, sndV, sndB, f_call, f_mt, N1, N2, N3, N4]
    have L8 : S' (6 + c) 8 = S (6 + c) 8 := by rw [eS]; simp [upA, bcm, bfr, lvc, sndV, sndB, f_call, f_mt, N1, N2, N3, N4]
    have H5 : S' 0 5 = S 0 5 := by rw [eS]; simp [upA, bcm, bfr, lvc, sndV, sndB, f_call, f_mt, N1, N2, N3, N4]
    have H6 : S' 0 6 = S 0 6 := by rw [eS]; simp [upA, bcm, bfr, lvc, sndV, sndB, f_call, f_mt, N1, N2, N3, N4]
    have H7 : S' 0 7 = S 0 7 := by rw [eS]; simp [upA, bcm, bfr, lvc, sndV, sndB, f_call, f_mt, N1, N2, N3, N4]
    have H8 : S' 0 8 = S 0 8 := by rw [eS]; simp [upA, bcm, bfr, lvc, sndV, sndB, f_call, f_mt, N1, N2, N3, N4]
    have H9 : S' 0 9 = S 0 9 := by rw [eS]; simp [upA, bcm, bfr, lvc, sndV, sndB, f_call, f_mt, N1, N2, N3, N4]
    have H10 : S' 0 10 = S 0 10 := by rw [eS]; simp [upA, bcm, bfr, lvc, sndV, sndB, f_call, f_mt, N1, N2, N3, N4]
    have H11 : S' 0 11 = S 0 11 := by rw [eS]; simp [upA, bcm, bfr, lvc, sndV, sndB, f_call, f_mt, N1, N2, N3, N4]
    have H12 : S' 0 12 = S 0 12 := by rw [eS]; simp [upA, bcm, bfr, lvc, sndV, sndB, f_call, f_mt, N1, N2, N3, N4]
    have H13 : S' 0 13 = S 0 13 := by rw [eS]; simp [upA, bcm, bfr, lvc, sndV, sndB, f_call, f_mt, N1, N2, N3, N4]
    have H14 : S' 0 14 = S 0 14 := by rw [eS]; simp [upA, bcm, bfr, lvc, sndV, sndB, f_call, f_mt, N1, N2, N3, N4]
    have H15 : S' 0 15 = S 0 15 := by rw [eS]; simp [upA, bcm, bfr, lvc, sndV, sndB, f_call, f_mt, N1, N2, N3, N4]
    have eo : ∀ k, ¬ k = 22 + f → ¬ k = 6 + c → ¬ k = 0 → ∀ j, S' k j = S k j := fun k a b d j => by rw [eS]; simp [upA, bcm, bfr, lvc, sndV, sndB, f_call, f_mt, a, b, d]
    have hfo : ∀ j : Nat, j < 4 → ¬ j = f → ∀ i, S' (22 + j) i = S (22 + j) i := fun j hj e i => eo _ (by omega) (by omega) (by omega) i
    clear eS
    have D1 : w1 (S' (6 + c) 0) = w1 (S (6 + c) 0) := by rw [L0]
    have D0 : 0 ≤ w1 (S (6 + c) 0) := by unfold w1; split <;> omega
    have D2 : w2 (S' (22 + f) 0) = w2 (S (22 + f) 0) := by rw [F0]
    have D3 : w3 (S' (22 + f) 0) = w3 (S (22 + f) 0) := by rw [F0]
    have D5 : rv (S (6 + c) 0) = rv (S' (6 + c) 0) := by rw [L0]
    have D6 : S' 0 10 - S 0 10 ≤ w1 (S (6 + c) 0) - w1 (S' (6 + c) 0) := by omega
    exact Step_one (S' := S') (q' := q + 1) hI hf (by omega) hc (by omega) ec (by omega) eo ⟨⟨by omega, by omega⟩, ⟨by omega, by omega⟩, ⟨by omega, by omega⟩, ⟨by omega, by omega⟩, ⟨by omega, by omega⟩, ⟨by omega, by omega⟩, ⟨by omega, by omega⟩, ⟨by omega, by omega⟩, ⟨by omega, by omega⟩, ⟨by omega, by omega⟩, ⟨by omega, by omega⟩⟩ (by omega) (by omega) (by omega) ⟨⟨by omega, by omega⟩, ⟨by omega, by omega⟩, ⟨by omega, by omega⟩, ⟨by omega, by omega⟩, ⟨by omega, by omega⟩, ⟨by omega, by omega⟩, ⟨by omega, by omega⟩, fun _ => by omega, fun _ => by omega, fun _ => by omega, fun _ => by omega, fun _ => by omega, fun _ => by omega, fun _ => by omega, fun _ => by omega, fun _ => by omega, fun _ => by omega, fun _ => by omega⟩ (by omega) ⟨⟨by omega, by omega⟩, by omega, ⟨by omega, by omega⟩, ⟨by omega, by omega⟩, by omega, ⟨by omega, by omega⟩, ⟨by omega, by omega⟩, fun _ => by omega, fun _ => by omega⟩ (Or.inr ⟨by omega, by omega, by omega, by unfold smt; omega⟩) (hX_no (by unfold hds; omega)) (fun z => by omega) (by omega) (by omega) (by omega) (by omega) D5
theorem i_ready (hI : Inv q S) (hf : f < 4) (hc : c < 16) (ec : S (22 + f) 2 = (c : Int)) (hm : S (22 + f) 0 = 2) : Inv (q + 1) (f_await S (22 + f) (6 + c) 3) := by
  have hl := hI.lkC f hf c hc (by omega) ec
  obtain ⟨hl6, hls⟩ := hl
  unfold smt at hls
  have g := fin_2 (hI.fin f hf) hm
  have gl := lin_own (hI.lin c hc) (by omega)
  have h0 := hI.hd
  unfold hdOK at h0
  have hnf : ¬ S 0 5 ≤ (f : Int) := fun z => absurd (hI.off f hf z) (by omega)
  have N1 : ¬ 22 + f = 6 + c := by omega
  have N2 : ¬ 6 + c = 22 + f := by omega
  have N3 : ¬ 0 = 22 + f := by omega
  have N4 : ¬ 0 = 6 + c := by omega
  have hp := pls_rng (S (6 + c) 4)
  unfold f_await
  split
  · rename_i e
    split
    · rename_i e2
      obtain ⟨S', eS⟩ : ∃ z : SS, z = up S (22 + f) 7 (S (22 + f) 7 + 1) := ⟨_, rfl⟩
      rw [← eS]
      have F0 : S' (22 + f) 0 = S (22 + f) 0 := by rw [eS]; simp [upA, bcm, bfr, lvc, sndV, sndB, f_call, f_mt, N1, N2, N3, N4]
      have F1 : S' (22 + f) 1 = S (22 + f) 1 := by rw [eS]; simp [upA, bcm, bfr, lvc, sndV, sndB, f_call, f_mt, N1, N2, N3, N4]
      have F2 : S' (22 + f) 2 = S (22 + f) 2 := by rw [eS]; simp [upA, bcm, bfr, lvc, sndV, sndB, f_call, f_mt, N1, N2, N3, N4]
      have F3 : S' (22 + f) 3 = S (22 + f) 3 := by rw [eS]; simp [upA, bcm, bfr, lvc, sndV, sndB, f_call, f_mt, N1, N2, N3, N4]
      have F4 : S' (22 + f) 4 = S (22 + f) 4 := by rw [eS]; simp [upA, bcm, bfr, lvc, sndV, sndB, f_call, f_mt, N1, N2, N3, N4]
      have F5 : S' (22 + f) 5 = S (22 + f) 5 := by rw [eS]; simp [upA, bcm, bfr, lvc, sndV, sndB, f_call, f_mt, N1, N2, N3, N4]
      have F6 : S' (22 + f) 6 = S (22 + f) 6 := by rw [eS]; simp [upA, bcm, bfr, lvc, sndV, sndB, f_call, f_mt, N1, N2, N3, N4]
      have F7 : S' (22 + f) 7 = S (22 + f) 7 + 1 := by rw [eS]; simp [upA, bcm, bfr, lvc, sndV, sndB, f_call, f_mt, N1, N2, N3, N4]
      have F8 : S' (22 + f) 8 = S (22 + f) 8 := by rw [eS]; simp [upA, bcm, bfr, lvc, sndV, sndB, f_call, f_mt, N1, N2, N3, N4]
      have F9 : S' (22 + f) 9 = S (22 + f) 9 := by rw [eS]; simp [upA, bcm, bfr, lvc, sndV, sndB, f_call, f_mt, N1, N2, N3, N4]
      have L0 : S' (6 + c) 0 = S (6 + c) 0 := by rw [eS]; simp [upA, bcm, bfr, lvc, sndV, sndB, f_call, f_mt, N1, N2, N3, N4]
      have L1 : S' (6 + c) 1 = S (6 + c) 1 := by rw [eS]; simp [upA, bcm, bfr, lvc, sndV, sndB, f_call, f_mt, N1, N2, N3, N4]
      have L2 : S' (6 + c) 2 = S (6 + c) 2 := by rw [eS]; simp [upA, bcm, bfr, lvc, sndV, sndB, f_call, f_mt, N1, N2, N3, N4]
      have L3 : S' (6 + c) 3 = S (6 + c) 3 := by rw [eS]; simp [upA, bcm, bfr, lvc, sndV, sndB, f_call, f_mt, N1, N2, N3, N4]
      have L5 : S' (6 + c) 5 = S (6 + c) 5 := by rw [eS]; simp [upA, bcm, bfr, lvc, sndV, sndB, f_call, f_mt, N1, N2, N3, N4]
      have L6 : S' (6 + c) 6 = S (6 + c) 6 := by rw [eS]; simp [upA, bcm, bfr, lvc, sndV, sndB, f_call, f_mt, N1, N2, N3, N4]
      have L7 : S' (6 + c) 7 = S (6 + c) 7 := by rw [eS]; simp [upA, bcm, bfr, lvc, sndV, sndB, f_call, f_mt, N1, N2, N3, N4]
      have L8 : S' (6 + c) 8 = S (6 + c) 8 := by rw [eS]; simp [upA, bcm, bfr, lvc, sndV, sndB, f_call, f_mt, N1, N2, N3, N4]
      have H5 : S' 0 5 = S 0 5 := by rw [eS]; simp [upA, bcm, bfr, lvc, sndV, sndB, f_call, f_mt, N1, N2, N3, N4]
      have H6 : S' 0 6 = S 0 6 := by rw [eS]; simp [upA, bcm, bfr, lvc, sndV, sndB, f_call, f_mt, N1, N2, N3, N4]
      have H7 : S' 0 7 = S 0 7 := by rw [eS]; simp [upA, bcm, bfr, lvc, sndV, sndB, f_call, f_mt, N1, N2, N3, N4]
      have H8 : S' 0 8 = S 0 8 := by rw [eS]; simp [upA, bcm, bfr, lvc, sndV, sndB, f_call, f_mt, N1, N2, N3, N4]
      have H9 : S' 0 9 = S 0 9 := by rw [eS]; simp [upA, bcm, bfr, lvc, sndV, sndB, f_call, f_mt, N1, N2, N3, N4]
      have H10 : S' 0 10 = S 0 10 := by rw [eS]; simp [upA, bcm, bfr, lvc, sndV, sndB, f_call, f_mt, N1, N2, N3, N4]
      have H11 : S' 0 11 = S 0 11 := by rw [eS]; simp [upA, bcm, bfr, lvc, sndV, sndB, f_call, f_mt, N1, N2, N3, N4]
      have H12 : S' 0 12 = S 0 12 := by rw [eS]; simp [upA, bcm, bfr, lvc, sndV, sndB, f_call, f_mt, N1, N2, N3, N4]
      have H13 : S' 0 13 = S 0 13 := by rw [eS]; simp [upA, bcm, bfr, lvc, sndV, sndB, f_call, f_mt, N1, N2, N3, N4]
      have H14 : S' 0 14 = S 0 14 := by rw [eS]; simp [upA, bcm, bfr, lvc, sndV, sndB, f_call, f_mt, N1, N2, N3, N4]
      have H15 : S' 0 15 = S 0 15 := by rw [eS]; simp [upA, bcm, bfr, lvc, sndV, sndB, f_call, f_mt, N1, N2, N3, N4]
      have eo : ∀ k, ¬ k = 22 + f → ¬ k = 6 + c → ¬ k = 0 → ∀ j, S' k j = S k j := fun k a b d j => by rw [eS]; simp [upA, bcm, bfr, lvc, sndV, sndB, f_call, f_mt, a, b, d]
      have hfo : ∀ j : Nat, j < 4 → ¬ j = f → ∀ i, S' (22 + j) i = S (22 + j) i := fun j hj e i => eo _ (by omega) (by omega) (by omega) i
      clear eS
      have D1 : w1 (S' (6 + c) 0) = w1 (S (6 + c) 0) := by rw [L0]
      have D0 : 0 ≤ w1 (S (6 + c) 0) := by unfold w1; split <;> omega
      have D2 : w2 (S' (22 + f) 0) = w2 (S (22 + f) 0) := by rw [F0]
      have D3 : w3 (S' (22 + f) 0) = w3 (S (22 + f) 0) := by rw [F0]
      have D5 : rv (S (6 + c) 0) = rv (S' (6 + c) 0) := by rw [L0]
      have D6 : S' 0 10 - S 0 10 ≤ w1 (S (6 + c) 0) - w1 (S' (6 + c) 0) := by omega
      exact Step_one (S' := S') (q' := q + 1) hI hf (by omega) hc (by omega) ec (by omega) eo ⟨⟨by omega, by omega⟩, ⟨by omega, by omega⟩, ⟨by omega, by omega⟩, ⟨by omega, by omega⟩, ⟨by omega, by omega⟩, ⟨by omega, by omega⟩, ⟨by omega, by omega⟩, ⟨by omega, by omega⟩, ⟨by omega, by omega⟩, ⟨by omega, by omega⟩, ⟨by omega, by omega⟩⟩ (by omega) (by omega) (by omega) ⟨⟨by omega, by omega⟩, ⟨by omega, by omega⟩, ⟨by omega, by omega⟩, ⟨by omega, by omega⟩, ⟨by omega, by omega⟩, ⟨by omega, by omega⟩, ⟨by omega, by omega⟩, fun _ => by omega, fun _ => by omega, fun _ => by omega, fun _ => by omega, fun _ => by omega, fun _ => by omega, fun _ => by omega, fun _ => by omega, fun _ => by omega, fun _ => by omega, fun _ => by omega⟩ (by omega) ⟨⟨by omega, by omega⟩, by omega, ⟨by omega, by omega⟩, ⟨by omega, by omega⟩, by omega, ⟨by omega, by omega⟩, ⟨by omega, by omega⟩, fun _ => by omega, fun _ => by omega⟩ (Or.inr ⟨by omega, by omega, by omega, by unfold smt; omega⟩) (hX_no (by unfold hds; omega)) (fun z => by omega) (by omega) (by omega) (by omega) (by omega) D5
    · rename_i e2
      obtain ⟨S', eS⟩ : ∃ z : SS, z = up (lvc (up (bfr (up S (22 + f) 7 (S (22 + f) 7 + 1)) (22 + f)) (6 + c) 3 5) (6 + c) 10) 0 15 (S 0 15 + 1) := ⟨_, rfl⟩
      rw [← eS]
      have F0 : S' (22 + f) 0 = 0 := by rw [eS]; simp [upA, bcm, bfr, lvc, sndV, sndB, f_call, f_mt, N1, N2, N3, N4]
      have F1 : S' (22 + f) 1 = S (22 + f) 1 := by rw [eS]; simp [upA, bcm, bfr, lvc, sndV, sndB, f_call, f_mt, N1, N2, N3, N4]
      have F2 : S' (22 + f) 2 = -6 := by rw [eS]; simp [upA, bcm, bfr, lvc, sndV, sndB, f_call, f_mt, N1, N2, N3, N4]
      have F3 : S' (22 + f) 3 = 0 := by rw [eS]; simp [upA, bcm, bfr, lvc, sndV, sndB, f_call, f_mt, N1, N2, N3, N4]
      have F4 : S' (22 + f) 4 = -6 := by rw [eS]; simp [upA, bcm, bfr, lvc, sndV, sndB, f_call, f_mt, N1, N2, N3, N4]
      have F5 : S' (22 + f) 5 = 0 := by rw [eS]; simp [upA, bcm, bfr, lvc, sndV, sndB, f_call, f_mt, N1, N2, N3, N4]
      have F6 : S' (22 + f) 6 = 0 := by rw [eS]; simp [upA, bcm, bfr, lvc, sndV, sndB, f_call, f_mt, N1, N2, N3, N4]
      have F7 : S' (22 + f) 7 = 0 := by rw [eS]; simp [upA, bcm, bfr, lvc, sndV, sndB, f_call, f_mt, N1, N2, N3, N4]
      have F8 : S' (22 + f) 8 = 0 := by rw [eS]; simp [upA, bcm, bfr, lvc, sndV, sndB, f_call, f_mt, N1, N2, N3, N4]
      have F9 : S' (22 + f) 9 = -6 := by rw [eS]; simp [upA, bcm, bfr, lvc, sndV, sndB, f_call, f_mt, N1, N2, N3, N4]
      have L0 : S' (6 + c) 0 = 10 := by rw [eS]; simp [upA, bcm, bfr, lvc, sndV, sndB, f_call, f_mt, N1, N2, N3, N4]
      have L1 : S' (6 + c) 1 = S (6 + c) 1 := by rw [eS]; simp [upA, bcm, bfr, lvc, sndV, sndB, f_call, f_mt, N1, N2, N3, N4]
      have L2 : S' (6 + c) 2 = S (6 + c) 2 := by rw [eS]; simp [upA, bcm, bfr, lvc, sndV, sndB, f_call, f_mt, N1, N2, N3, N4]
      have L3 : S' (6 + c) 3 = 5 := by rw [eS]; simp [upA, bcm, bfr, lvc, sndV, sndB, f_call, f_mt, N1, N2, N3, N4]
      have L5 : S' (6 + c) 5 = 0 := by rw [eS]; simp [upA, bcm, bfr, lvc, sndV, sndB, f_call, f_mt, N1, N2, N3, N4]
      have L6 : S' (6 + c) 6 = -6 := by rw [eS]; simp [upA, bcm, bfr, lvc, sndV, sndB, f_call, f_mt, N1, N2, N3, N4]
      have L7 : S' (6 + c) 7 = S (6 + c) 7 := by rw [eS]; simp [upA, bcm, bfr, lvc, sndV, sndB, f_call, f_mt, N1, N2, N3, N4]
      have L8 : S' (6 + c) 8 = 0 := by rw [eS]; simp [upA, bcm, bfr, lvc, sndV, sndB, f_call, f_mt, N1, N2, N3, N4]
      have H5 : S' 0 5 = S 0 5 := by rw [eS]; simp [upA, bcm, bfr, lvc, sndV, sndB, f_call, f_mt, N1, N2, N3, N4]
      have H6 : S' 0 6 = S 0 6 := by rw [eS]; simp [upA, bcm, bfr, lvc, sndV, sndB, f_call, f_mt, N1, N2, N3, N4]
      have H7 : S' 0 7 = S 0 7 := by rw [eS]; simp [upA, bcm, bfr, lvc, sndV, sndB, f_call, f_mt, N1, N2, N3, N4]
      have H8 : S' 0 8 = S 0 8 := by rw [eS]; simp [upA, bcm, bfr, lvc, sndV, sndB, f_call, f_mt, N1, N2, N3, N4]
      have H9 : S' 0 9 = S 0 9 := by rw [eS]; simp [upA, bcm, bfr, lvc, sndV, sndB, f_call, f_mt, N1, N2, N3, N4]
      have H10 : S' 0 10 = S 0 10 := by rw [eS]; simp [upA, bcm, bfr, lvc, sndV, sndB, f_call, f_mt, N1, N2, N3, N4]
      have H11 : S' 0 11 = S 0 11 := by rw [eS]; simp [upA, bcm, bfr, lvc, sndV, sndB, f_call, f_mt, N1, N2, N3, N4]
      have H12 : S' 0 12 = S 0 12 := by rw [eS]; simp [upA, bcm, bfr, lvc, sndV, sndB, f_call, f_mt, N1, N2, N3, N4]
      have H13 : S' 0 13 = S 0 13 := by rw [eS]; simp [upA, bcm, bfr, lvc, sndV, sndB, f_call, f_mt, N1, N2, N3, N4]
      have H14 : S' 0 14 = S 0 14 := by rw [eS]; simp [upA, bcm, bfr, lvc, sndV, sndB, f_call, f_mt, N1, N2, N3, N4]
      have H15 : S' 0 15 = S 0 15 + 1 := by rw [eS]; simp [upA, bcm, bfr, lvc, sndV, sndB, f_call, f_mt, N1, N2, N3, N4]
      have eo : ∀ k, ¬ k = 22 + f → ¬ k = 6 + c → ¬ k = 0 → ∀ j, S' k j = S k j := fun k a b d j => by rw [eS]; simp [upA, bcm, bfr, lvc, sndV, sndB, f_call, f_mt, a, b, d]
      have hfo : ∀ j : Nat, j < 4 → ¬ j = f → ∀ i, S' (22 + j) i = S (22 + j) i := fun j hj e i => eo _ (by omega) (by omega) (by omega) i
      clear eS
      have D1 : w1 (S' (6 + c) 0) = 0 := by unfold w1; rw [if_neg (by omega)]
      have D0 : 0 ≤ w1 (S (6 + c) 0) := by unfold w1; split <;> omega
      have D2 : w2 (S' (22 + f) 0) ≤ w2 (S (22 + f) 0) + (S' 0 10 - S 0 10) := by unfold w2; split <;> split <;> omega
      have D3 : w3 (S' (22 + f) 0) ≤ w3 (S (22 + f) 0) := by unfold w3; split <;> split <;> omega
      have D5 : rv (S (6 + c) 0) = rv (S' (6 + c) 0) := by unfold rv; split <;> split <;> first | omega | (split <;> first | omega | (split <;> omega))
      have D6 : S' 0 10 - S 0 10 ≤ w1 (S (6 + c) 0) - w1 (S' (6 + c) 0) := by omega
      exact Step_one (S' := S') (q' := q + 1) hI hf (by omega) hc (by omega) ec (by omega) eo ⟨⟨by omega, by omega⟩, ⟨by omega, by omega⟩, ⟨by omega, by omega⟩, ⟨by omega, by omega⟩, ⟨by omega, by omega⟩, ⟨by omega, by omega⟩, ⟨by omega, by omega⟩, ⟨by omega, by omega⟩, ⟨by omega, by omega⟩, ⟨by omega, by omega⟩, ⟨by omega, by omega⟩⟩ (by omega) (by omega) (by omega) ⟨⟨by omega, by omega⟩, ⟨by omega, by omega⟩, ⟨by omega, by omega⟩, ⟨by omega, by omega⟩, ⟨by omega, by omega⟩, ⟨by omega, by omega⟩, ⟨by omega, by omega⟩, fun _ => by omega, fun _ => by omega, fun _ => by omega, fun _ => by omega, fun _ => by omega, fun _ => by omega, fun _ => by omega, fun _ => by omega, fun _ => by omega, fun _ => by omega, fun _ => by omega⟩ (by omega) ⟨⟨by omega, by omega⟩, by omega, ⟨by omega, by omega⟩, ⟨by omega, by omega⟩, by omega, ⟨by omega, by omega⟩, ⟨by omega, by omega⟩, fun _ => by omega, fun _ => by omega⟩ (Or.inl ⟨by omega, by omega, by omega⟩) (hX_no (by unfold hds; omega)) (fun z => by omega) (by omega) (by omega) (by omega) (by omega) D5
  · rename_i e
    obtain ⟨S', eS⟩ : ∃ z : SS, z = up (up (up (up (bcm S (22 + f) 3) (6 + c) 4 (dsh (S (6 + c) 4))) (6 + c) 5 (S (6 + c) 5 - 1)) (22 + f) 5 (pls (S (6 + c) 4))) (6 + c) 0 3 := ⟨_, rfl⟩
    rw [← eS]
    have F0 : S' (22 + f) 0 = 3 := by rw [eS]; simp [upA, bcm, bfr, lvc, sndV, sndB, f_call, f_mt, N1, N2, N3, N4]
    have F1 : S' (22 + f) 1 = S (22 + f) 1 := by rw [eS]; simp [upA, bcm, bfr, lvc, sndV, sndB, f_call, f_mt, N1, N2, N3, N4]
    have F2 : S' (22 + f) 2 = S (22 + f) 2 := by rw [eS]; simp [upA, bcm, bfr, lvc, sndV, sndB, f_call, f_mt, N1, N2, N3, N4]
    have F3 : S' (22 + f) 3 = S (22 + f) 3 := by rw [eS]; simp [upA, bcm, bfr, lvc, sndV, sndB, f_call, f_mt, N1, N2, N3, N4]
    have F4 : S' (22 + f) 4 = S (22 + f) 4 := by rw [eS]; simp [upA, bcm, bfr, lvc, sndV, sndB, f_call, f_mt, N1, N2, N3, N4]
    have F5 : S' (22 + f) 5 = pls (S (6 + c) 4) := by rw [eS]; simp [upA, bcm, bfr, lvc, sndV, sndB, f_call, f_mt, N1, N2, N3, N4]
    have F6 : S' (22 + f) 6 = S (22 + f) 6 := by rw [eS]; simp [upA, bcm, bfr, lvc, sndV, sndB, f_call, f_mt, N1, N2, N3, N4]
    have F7 : S' (22 + f) 7 = 0 := by rw [eS]; simp [upA, bcm, bfr, lvc, sndV, sndB, f_call, f_mt, N1, N2, N3, N4]
    have F8 : S' (22 + f) 8 = 0 := by rw [eS]; simp [upA, bcm, bfr, lvc, sndV, sndB, f_call, f_mt, N1, N2, N3, N4]
    have F9 : S' (22 + f) 9 = S (22 + f) 9 := by rw [eS]; simp [upA, bcm, bfr, lvc, sndV, sndB, f_call, f_mt, N1, N2, N3, N4]
    have L0 : S' (6 + c) 0 = 3 := by rw [eS]; simp [upA, bcm, bfr, lvc, sndV, sndB, f_call, f_mt, N1, N2, N3, N4]
    have L1 : S' (6 + c) 1 = S (6 + c) 1 := by rw [eS]; simp [upA, bcm, bfr, lvc, sndV, sndB, f_call, f_mt, N1, N2, N3, N4]
    have L2 : S' (6 + c) 2 = S (6 + c) 2 := by rw [eS]; simp [upA, bcm, bfr, lvc, sndV, sndB, f_call, f_mt, N1, N2, N3, N4]
    have L3 : S' (6 + c) 3 = S (6 + c) 3 := by rw [eS]; simp [upA, bcm, bfr, lvc, sndV, sndB, f_call, f_mt, N1, N2, N3, N4]
    have L5 : S' (6 + c) 5 = S (6 + c) 5 - 1 := by rw [eS]; simp [upA, bcm, bfr, lvc, sndV, sndB, f_call, f_mt, N1, N2, N3, N4]
    have L6 : S' (6 + c) 6 = S (6 + c) 6 := by rw [eS]; simp [upA, bcm, bfr, lvc, sndV, sndB, f_call, f_mt, N1, N2, N3, N4]
    have L7 : S' (6 + c) 7 = S (6 + c) 7 := by rw [eS]; simp [upA, bcm, bfr, lvc, sndV, sndB, f_call, f_mt, N1, N2, N3, N4]
    have L8 : S' (6 + c) 8 = S (6 + c) 8 := by rw [eS]; simp [upA, bcm, bfr, lvc, sndV, sndB, f_call, f_mt, N1, N2, N3, N4]
    have H5 : S' 0 5 = S 0 5 := by rw [eS]; simp [upA, bcm, bfr, lvc, sndV, sndB, f_call, f_mt, N1, N2, N3, N4]
    have H6 : S' 0 6 = S 0 6 := by rw [eS]; simp [upA, bcm, bfr, lvc, sndV, sndB, f_call, f_mt, N1, N2, N3, N4]
    have H7 : S' 0 7 = S 0 7 := by rw [eS]; simp [upA, bcm, bfr, lvc, sndV, sndB, f_call, f_mt, N1, N2, N3, N4]
    have H8 : S' 0 8 = S 0 8 := by rw [eS]; simp [upA, bcm, bfr, lvc, sndV, sndB, f_call, f_mt, N1, N2, N3, N4]
    have H9 : S' 0 9 = S 0 9 := by rw [eS]; simp [upA, bcm, bfr, lvc, sndV, sndB, f_call, f_mt, N1, N2, N3, N4]
    have H10 : S' 0 10 = S 0 10 := by rw [eS]; simp [upA, bcm, bfr, lvc, sndV, sndB, f_call, f_mt, N1, N2, N3, N4]
    have H11 : S' 0 11 = S 0 11 := by rw [eS]; simp [upA, bcm, bfr, lvc, sndV, sndB, f_call, f_mt, N1, N2, N3, N4]
    have H12 : S' 0 12 = S 0 12 := by rw [eS]; simp [upA, bcm, bfr, lvc, sndV, sndB, f_call, f_mt, N1, N2, N3, N4]
    have H13 : S' 0 13 = S 0 13 := by rw [eS]; simp [upA, bcm, bfr, lvc, sndV, sndB, f_call, f_mt, N1, N2, N3, N4]
    have H14 : S' 0 14 = S 0 14 := by rw [eS]; simp [upA, bcm, bfr, lvc, sndV, sndB, f_call, f_mt, N1, N2, N3, N4]
    have H15 : S' 0 15 = S 0 15 := by rw [eS]; simp [upA, bcm, bfr, lvc, sndV, sndB, f_call, f_mt, N1, N2, N3, N4]
    have eo : ∀ k, ¬ k = 22 + f → ¬ k = 6 + c → ¬ k = 0 → ∀ j, S' k j = S k j := fun k a b d j => by rw [eS]; simp [upA, bcm, bfr, lvc, sndV, sndB, f_call, f_mt, a, b, d]
    have hfo : ∀ j : Nat, j < 4 → ¬ j = f → ∀ i, S' (22 + j) i = S (22 + j) i := fun j hj e i => eo _ (by omega) (by omega) (by omega) i
    clear eS
    have D1 : w1 (S' (6 + c) 0) = 0 := by unfold w1; rw [if_neg (by omega)]
    have D0 : 0 ≤ w1 (S (6 + c) 0) := by unfold w1; split <;> omega
    have D2 : w2 (S' (22 + f) 0) ≤ w2 (S (22 + f) 0) + (S' 0 10 - S 0 10) := by unfold w2; split <;> split <;> omega
    have D3 : w3 (S' (22 + f) 0) ≤ w3 (S (22 + f) 0) := by unfold w3; split <;> split <;> omega
    have D5 : rv (S (6 + c) 0) = rv (S' (6 + c) 0) := by unfold rv; split <;> split <;> first | omega | (split <;> first | omega | (split <;> omega))
    have D6 : S' 0 10 - S 0 10 ≤ w1 (S (6 + c) 0) - w1 (S' (6 + c) 0) := by omega
    exact Step_one (S' := S') (q' := q + 1) hI hf (by omega) hc (by omega) ec (by omega) eo ⟨⟨by omega, by omega⟩, ⟨by omega, by omega⟩, ⟨by omega, by omega⟩, ⟨by omega, by omega⟩, ⟨by omega, by omega⟩, ⟨by omega, by omega⟩, ⟨by omega, by omega⟩, ⟨by omega, by omega⟩, ⟨by omega, by omega⟩, ⟨by omega, by omega⟩, ⟨by omega, by omega⟩⟩ (by omega) (by omega) (by omega) ⟨⟨by omega, by omega⟩, ⟨by omega, by omega⟩, ⟨by omega, by omega⟩, ⟨by omega, by omega⟩, ⟨by omega, by omega⟩, ⟨by omega, by omega⟩, ⟨by omega, by omega⟩, fun _ => by omega, fun _ => by omega, fun _ => by omega, fun _ => by omega, fun _ => by omega, fun _ => by omega, fun _ => by omega, fun _ => by omega, fun _ => by omega, fun _ => by omega, fun _ => by omega⟩ (by omega) ⟨⟨by omega, by omega⟩, by omega, ⟨by omega, by omega⟩, ⟨by omega, by omega⟩, by omega, ⟨by omega, by omega⟩, ⟨by omega, by omega⟩, fun _ => by omega, fun _ => by omega⟩ (Or.inr ⟨by omega, by omega, by omega, by unfold smt; omega⟩) (hX_no (by unfold hds; omega)) (fun z => by omega) (by omega) (by omega) (by omega) (by omega) D5
theorem i_linked (hI : Inv q S) (hf : f < 4) (hc : c < 16) (ec : S (22 + f) 2 = (c : Int)) (hm : S (22 + f) 0 = 5) : Inv (q + 1) (f_await S (22 + f) (6 + c) 6) := by
  have hl := hI.lkC f hf c hc (by omega) ec
  obtain ⟨hl6, hls⟩ := hl
  unfold smt at hls
  have g := fin_45 (hI.fin f hf) (Or.inr hm)
  have gl := lin_own (hI.lin c hc) (by omega)
  have h0 := hI.hd
  unfold hdOK at h0
  have hnf : ¬ S 0 5 ≤ (f : Int) := fun z => absurd (hI.off f hf z) (by omega)
  have N1 : ¬ 22 + f = 6 + c := by omega
  have N2 : ¬ 6 + c = 22 + f := by omega
  have N3 : ¬ 0 = 22 + f := by omega
  have N4 : ¬ 0 = 6 + c := by omega
  have hp := pls_rng (S (6 + c) 4)
  unfold f_await
  split
  · rename_i e
    split
    · rename_i e2
      obtain ⟨S', eS⟩ : ∃ z : SS, z = up S (22 + f) 7 (S (22 + f) 7 + 1) := ⟨_, rfl⟩
      rw [← eS]
      have F0 : S' (22 + f) 0 = S (22 + f) 0 := by rw [eS]; simp [upA, bcm, bfr, lvc, sndV, sndB, f_call, f_mt, N1, N2, N3, N4]
      have F1 : S' (22 + f) 1 = S (22 + f) 1 := by rw [eS]; simp [upA, bcm, bfr, lvc, sndV, sndB, f_call, f_mt, N1, N2, N3, N4]
      have F2 : S' (22 + f) 2 = S (22 + f) 2 := by rw [eS]; simp [upA, bcm, bfr, lvc, sndV, sndB, f_call, f_mt, N1, N2, N3, N4]
      have F3 : S' (22 + f) 3 = S (22 + f) 3 := by rw [eS]; simp [upA, bcm, bfr, lvc, sndV, sndB, f_call, f_mt, N1, N2, N3, N4]
      have F4 : S' (22 + f) 4 = S (22 + f) 4 := by rw [eS]; simp [upA, bcm, bfr, lvc, sndV, sndB, f_call, f_mt, N1, N2, N3, N4]
      have F5 : S' (22 + f) 5 = S (22 + f) 5 := by rw [eS]; simp [upA, bcm, bfr, lvc, sndV, sndB, f_call, f_mt, N1, N2, N3, N4]
      have F6 : S' (22 + f) 6 = S (22 + f) 6 := by rw [eS]; simp [upA, bcm, bfr, lvc, sndV, sndB, f_call, f_mt, N1, N2, N3, N4]
      have F7 : S' (22 + f) 7 = S (22 + f) 7 + 1 := by rw [eS]; simp [upA, bcm, bfr, lvc, sndV, sndB, f_call, f_mt, N1, N2, N3, N4]
      have F8 : S' (22 + f) 8 = S (22 + f) 8 := by rw [eS]; simp [upA, bcm, bfr, lvc, sndV, sndB, f_call, f_mt, N1, N2, N3, N4]
      have F9 : S' (22 + f) 9 = S (22 + f) 9 := by rw [eS]; simp [upA, bcm, bfr, lvc, sndV, sndB, f_call, f_mt, N1, N2, N3, N4]
      have L0 : S' (6 + c) 0 = S (6 + c) 0 := by rw [eS]; simp [upA, bcm, bfr, lvc, sndV, sndB, f_call, f_mt, N1, N2, N3, N4]
      have L1 : S' (6 + c) 1 = S (6 + c) 1 := by rw [eS]; simp [upA, bcm, bfr, lvc, sndV, sndB, f_call, f_mt, N1, N2, N3, N4]
      have L2 : S' (6 + c) 2 = S (6 + c) 2 := by rw [eS]; simp [upA, bcm, bfr, lvc, sndV, sndB, f_call, f_mt, N1, N2, N3, N4]
      have L3 : S' (6 + c) 3 = S (6 + c) 3 := by rw [eS]; simp [upA, bcm, bfr, lvc, sndV, sndB, f_call, f_mt, N1, N2, N3, N4]
      have L5 : S' (6 + c) 5 = S (6 + c) 5 := by rw [eS]; simp [upA, bcm, bfr, lvc, sndV, sndB, f_call, f_mt, N1, N2, N3, N4]
      have L6 : S' (6 + c) 6 = S (6 + c) 6 := by rw [eS]; simp [upA, bcm, bfr, lvc, sndV, sndB, f_call, f_mt, N1, N2, N3, N4]
      have L7 : S' (6 + c) 7 = S (6 + c) 7 := by rw [eS]; simp [upA, bcm, bfr, lvc, sndV, sndB, f_call, f_mt, N1, N2, N3, N4]
      have L8 : S' (6 + c) 8 = S (6 + c) 8 := by rw [eS]; simp [upA, bcm, bfr, lvc, sndV, sndB, f_call, f_mt, N1, N2, N3, N4]
      have H5 : S' 0 5 = S 0 5 := by rw [eS]; simp [upA, bcm, bfr, lvc, sndV, sndB, f_call, f_mt, N1, N2, N3, N4]
      have H6 : S' 0 6 = S 0 6 := by rw [eS]; simp [upA, bcm, bfr, lvc, sndV, sndB, f_call, f_mt, N1, N2, N3, N4]
      have H7 : S' 0 7 = S 0 7 := by rw [eS]; simp [upA, bcm, bfr, lvc, sndV, sndB, f_call, f_mt, N1, N2, N3, N4]
      have H8 : S' 0 8 = S 0 8 := by rw [eS]; simp [upA, bcm, bfr, lvc, sndV, sndB, f_call, f_mt, N1, N2, N3, N4]
      have H9 : S' 0 9 = S 0 9 := by rw [eS]; simp [upA, bcm, bfr, lvc, sndV, sndB, f_call, f_mt, N1, N2, N3, N4]
      have H10 : S' 0 10 = S 0 10 := by rw [eS]; simp [upA, bcm, bfr, lvc, sndV, sndB, f_call, f_mt, N1, N2, N3, N4]
      have H11 : S' 0 11 = S 0 11 := by rw [eS]; simp [upA, bcm, bfr, lvc, sndV, sndB, f_call, f_mt, N1, N2, N3, N4]
      have H12 : S' 0 12 = S 0 12 := by rw [eS]; simp [upA, bcm, bfr, lvc, sndV, sndB, f_call, f_mt, N1, N2, N3, N4]
      have H13 : S' 0 13 = S 0 13 := by rw [eS]; simp [upA, bcm, bfr, lvc, sndV, sndB, f_call, f_mt, N1, N2, N3, N4]
      have H14 : S' 0 14 = S 0 14 := by rw [eS]; simp [upA, bcm, bfr, lvc, sndV, sndB, f_call, f_mt, N1, N2, N3, N4]
      have H15 : S' 0 15 = S 0 15 := by rw [eS]; simp [upA, bcm, bfr, lvc, sndV, sndB, f_call, f_mt, N1, N2, N3, N4]
      have eo : ∀ k, ¬ k = 22 + f → ¬ k = 6 + c → ¬ k = 0 → ∀ j, S' k j = S k j := fun k a b d j => by rw [eS]; simp [upA, bcm, bfr, lvc, sndV, sndB, f_call, f_mt, a, b, d]
      have hfo : ∀ j : Nat, j < 4 → ¬ j = f → ∀ i, S' (22 + j) i = S (22 + j) i := fun j hj e i => eo _ (by omega) (by omega) (by omega) i
      clear eS
      have D1 : w1 (S' (6 + c) 0) = w1 (S (6 + c) 0) := by rw [L0]
      have D0 : 0 ≤ w1 (S (6 + c) 0) := by unfold w1; split <;> omega
      have D2 : w2 (S' (22 + f) 0) = w2 (S (22 + f) 0) := by rw [F0]
      have D3 : w3 (S' (22 + f) 0) = w3 (S (22 + f) 0) := by rw [F0]
      have D5 : rv (S (6 + c) 0) = rv (S' (6 + c) 0) := by rw [L0]
      have D6 : S' 0 10 - S 0 10 ≤ w1 (S (6 + c) 0) - w1 (S' (6 + c) 0) := by omega
      exact Step_one (S' := S') (q' := q + 1) hI hf (by omega) hc (by omega) ec (by omega) eo ⟨⟨by omega, by omega⟩, ⟨by omega, by omega⟩, ⟨by omega, by omega⟩, ⟨by omega, by omega⟩, ⟨by omega, by omega⟩, ⟨by omega, by omega⟩, ⟨by omega, by omega⟩, ⟨by omega, by omega⟩, ⟨by omega, by omega⟩, ⟨by omega, by omega⟩, ⟨by omega, by omega⟩⟩ (by omega) (by omega) (by omega) ⟨⟨by omega, by omega⟩, ⟨by omega, by omega⟩, ⟨by omega, by omega⟩, ⟨by omega, by omega⟩, ⟨by omega, by omega⟩, ⟨by omega, by omega⟩, ⟨by omega, by omega⟩, fun _ => by omega, fun _ => by omega, fun _ => by omega, fun _ => by omega, fun _ => by omega, fun _ => by omega, fun _ => by omega, fun _ => by omega, fun _ => by omega, fun _ => by omega, fun _ => by omega⟩ (by omega) ⟨⟨by omega, by omega⟩, by omega, ⟨by omega, by omega⟩, ⟨by omega, by omega⟩, by omega, ⟨by omega, by omega⟩, ⟨by omega, by omega⟩, fun _ => by omega, fun _ => by omega⟩ (Or.inr ⟨by omega, by omega, by omega, by unfold smt; omega⟩) (hX_old hI hf hfo (by unfold hds; omega) (by omega) (by omega)) (fun z => by omega) (by omega) (by omega) (by omega) (by omega) D5
    · rename_i e2
      obtain ⟨S', eS⟩ : ∃ z : SS, z = up (lvc (up (bfr (up S (22 + f) 7 (S (22 + f) 7 + 1)) (22 + f)) (6 + c) 3 5) (6 + c) 10) 0 15 (S 0 15 + 1) := ⟨_, rfl⟩
      rw [← eS]
      have F0 : S' (22 + f) 0 = 0 := by rw [eS]; simp [upA, bcm, bfr, lvc, sndV, sndB, f_call, f_mt, N1, N2, N3, N4]
      have F1 : S' (22 + f) 1 = S (22 + f) 1 := by rw [eS]; simp [upA, bcm, bfr, lvc, sndV, sndB, f_call, f_mt, N1, N2, N3, N4]
      have F2 : S' (22 + f) 2 = -6 := by rw [eS]; simp [upA, bcm, bfr, lvc, sndV, sndB, f_call, f_mt, N1, N2, N3, N4]
      have F3 : S' (22 + f) 3 = 0 := by rw [eS]; simp [upA, bcm, bfr, lvc, sndV, sndB, f_call, f_mt, N1, N2, N3, N4]
      have F4 : S' (22 + f) 4 = -6 := by rw [eS]; simp [upA, bcm, bfr, lvc, sndV, sndB, f_call, f_mt, N1, N2, N3, N4]
      have F5 : S' (22 + f) 5 = 0 := by rw [eS]; simp [upA, bcm, bfr, lvc, sndV, sndB, f_call, f_mt, N1, N2, N3, N4]
      have F6 : S' (22 + f) 6 = 0 := by rw [eS]; simp [upA, bcm, bfr, lvc, sndV, sndB, f_call, f_mt, N1, N2, N3, N4]
      have F7 : S' (22 + f) 7 = 0 := by rw [eS]; simp [upA, bcm, bfr, lvc, sndV, sndB, f_call, f_mt, N1, N2, N3, N4]
      have F8 : S' (22 + f) 8 = 0 := by rw [eS]; simp [upA, bcm, bfr, lvc, sndV, sndB, f_call, f_mt, N1, N2, N3, N4]
      have F9 : S' (22 + f) 9 = -6 := by rw [eS]; simp [upA, bcm, bfr, lvc, sndV, sndB, f_call, f_mt, N1, N2, N3, N4]
      have L0 : S' (6 + c) 0 = 10 := by rw [eS]; simp [upA, bcm, bfr, lvc, sndV, sndB, f_call, f_mt, N1, N2, N3, N4]
      have L1 : S' (6 + c) 1 = S (6 + c) 1 := by rw [eS]; simp [upA, bcm, bfr, lvc, sndV, sndB, f_call, f_mt, N1, N2, N3, N4]
      have L2 : S' (6 + c) 2 = S (6 + c) 2 := by rw [eS]; simp [upA, bcm, bfr, lvc, sndV, sndB, f_call, f_mt, N1, N2, N3, N4]
      have L3 : S' (6 + c) 3 = 5 := by rw [eS]; simp [upA, bcm, bfr, lvc, sndV, sndB, f_call, f_mt, N1, N2, N3, N4]
      have L5 : S' (6 + c) 5 = 0 := by rw [eS]; simp [upA, bcm, bfr, lvc, sndV, sndB, f_call, f_mt, N1, N2, N3, N4]
      have L6 : S' (6 + c) 6 = -6 := by rw [eS]; simp [upA, bcm, bfr, lvc, sndV, sndB, f_call, f_mt, N1, N2, N3, N4]
      have L7 : S' (6 + c) 7 = S (6 + c) 7 := by rw [eS]; simp [upA, bcm, bfr, lvc, sndV, sndB, f_call, f_mt, N1, N2, N3, N4]
      have L8 : S' (6 + c) 8 = 0 := by rw [eS]; simp [upA, bcm, bfr, lvc, sndV, sndB, f_call, f_mt, N1, N2, N3, N4]
      have H5 : S' 0 5 = S 0 5 := by rw [eS]; simp [upA, bcm, bfr, lvc, sndV, sndB, f_call, f_mt, N1, N2, N3, N4]
      have H6 : S' 0 6 = S 0 6 := by rw [eS]; simp [upA, bcm, bfr, lvc, sndV, sndB, f_call, f_mt, N1, N2, N3, N4]
      have H7 : S' 0 7 = S 0 7 := by rw [eS]; simp [upA, bcm, bfr, lvc, sndV, sndB, f_call, f_mt, N1, N2, N3, N4]
      have H8 : S' 0 8 = S 0 8 := by rw [eS]; simp [upA, bcm, bfr, lvc, sndV, sndB, f_call, f_mt, N1, N2, N3, N4]
      have H9 : S' 0 9 = S 0 9 := by rw [eS]; simp [upA, bcm, bfr, lvc, sndV, sndB, f_call, f_mt, N1, N2, N3, N4]
      have H10 : S' 0 10 = S 0 10 := by rw [eS]; simp [upA, bcm, bfr, lvc, sndV, sndB, f_call, f_mt, N1, N2, N3, N4]
      have H11 : S' 0 11 = S 0 11 := by rw [eS]; simp [upA, bcm, bfr, lvc, sndV, sndB, f_call, f_mt, N1, N2, N3, N4]
      have H12 : S' 0 12 = S 0 12 := by rw [eS]; simp [upA, bcm, bfr, lvc, sndV, sndB, f_call, f_mt, N1, N2, N3, N4]
      have H13 : S' 0 13 = S 0 13 := by rw [eS]; simp [upA, bcm, bfr, lvc, sndV, sndB, f_call, f_mt, N1, N2, N3, N4]
      have H14 : S' 0 14 = S 0 14 := by rw [eS]; simp [upA, bcm, bfr, lvc, sndV, sndB, f_call, f_mt, N1, N2, N3, N4]
      have H15 : S' 0 15 = S 0 15 + 1 := by rw [eS]; simp [upA, bcm, bfr, lvc, sndV, sndB, f_call, f_mt, N1, N2, N3, N4]
      have eo : ∀ k, ¬ k = 22 + f → ¬ k = 6 + c → ¬ k = 0 → ∀ j, S' k j = S k j := fun k a b d j => by rw [eS]; simp [upA, bcm, bfr, lvc, sndV, sndB, f_call, f_mt, a, b, d]
      have hfo : ∀ j : Nat, j < 4 → ¬ j = f → ∀ i, S' (22 + j) i = S (22 + j) i := fun j hj e i => eo _ (by omega) (by omega) (by omega) i
      clear eS
      have D1 : w1 (S' (6 + c) 0) = 0 := by unfold w1; rw [if_neg (by omega)]
      have D0 : 0 ≤ w1 (S (6 + c) 0) := by unfold w1; split <;> omega
      have D2 : w2 (S' (22 + f) 0) ≤ w2 (S (22 + f) 0) + (S' 0 10 - S 0 10) := by unfold w2; split <;> split <;> omega
      have D3 : w3 (S' (22 + f) 0) ≤ w3 (S (22 + f) 0) := by unfold w3; split <;> split <;> omega
      have D5 : rv (S (6 + c) 0) = rv (S' (6 + c) 0) := by unfold rv; split <;> split <;> first | omega | (split <;> first | omega | (split <;> omega))
      have D6 : S' 0 10 - S 0 10 ≤ w1 (S (6 + c) 0) - w1 (S' (6 + c) 0) := by omega
      exact Step_one (S' := S') (q' := q + 1) hI hf (by omega) hc (by omega) ec (by omega) eo ⟨⟨by omega, by omega⟩, ⟨by omega, by omega⟩, ⟨by omega, by omega⟩, ⟨by omega, by omega⟩, ⟨by omega, by omega⟩, ⟨by omega, by omega⟩, ⟨by omega, by omega⟩, ⟨by omega, by omega⟩, ⟨by omega, by omega⟩, ⟨by omega, by omega⟩, ⟨by omega, by omega⟩⟩ (by omega) (by omega) (by omega) ⟨⟨by omega, by omega⟩, ⟨by omega, by omega⟩, ⟨by omega, by omega⟩, ⟨by omega, by omega⟩, ⟨by omega, by omega⟩, ⟨by omega, by omega⟩, ⟨by omega, by omega⟩, fun _ => by omega, fun _ => by omega, fun _ => by omega, fun _ => by omega, fun _ => by omega, fun _ => by omega, fun _ => by omega, fun _ => by omega, fun _ => by omega, fun _ => by omega, fun _ => by omega⟩ (by omega) ⟨⟨by omega, by omega⟩, by omega, ⟨by omega, by omega⟩, ⟨by omega, by omega⟩, by omega, ⟨by omega, by omega⟩, ⟨by omega, by omega⟩, fun _ => by omega, fun _ => by omega⟩ (Or.inl ⟨by omega, by omega, by omega⟩) (hX_no (by unfold hds; omega)) (fun z => by omega) (by omega) (by omega) (by omega) (by omega) D5
  · rename_i e
    obtain ⟨S', eS⟩ : ∃ z : SS, z = up (up (up (up (bcm S (22 + f) 6) (6 + c) 4 (dsh (S (6 + c) 4))) (6 + c) 5 (S (6 + c) 5 - 1)) (22 + f) 5 (pls (S (6 + c) 4))) (6 + c) 0 3 := ⟨_, rfl⟩
    rw [← eS]
    have F0 : S' (22 + f) 0 = 6 := by rw [eS]; simp [upA, bcm, bfr, lvc, sndV, sndB, f_call, f_mt, N1, N2, N3, N4]
    have F1 : S' (22 + f) 1 = S (22 + f) 1 := by rw [eS]; simp [upA, bcm, bfr, lvc, sndV, sndB, f_call, f_mt, N1, N2, N3, N4]
    have F2 : S' (22 + f) 2 = S (22 + f) 2 := by rw [eS]; simp [upA, bcm, bfr, lvc, sndV, sndB, f_call, f_mt, N1, N2, N3, N4]
    have F3 : S' (22 + f) 3 = S (22 + f) 3 := by rw [eS]; simp [upA, bcm, bfr, lvc, sndV, sndB, f_call, f_mt, N1, N2, N3, N4]
    have F4 : S' (22 + f) 4 = S (22 + f) 4 := by rw [eS]; simp [upA, bcm, bfr, lvc, sndV, sndB, f_call, f_mt, N1, N2, N3, N4]
    have F5 : S' (22 + f) 5 = pls (S (6 + c) 4) := by rw [eS]; simp [upA, bcm, bfr, lvc, sndV, sndB, f_call, f_mt, N1, N2, N3, N4]
    have F6 : S' (22 + f) 6 = S (22 + f) 6 := by rw [eS]; simp [upA, bcm, bfr, lvc, sndV, sndB, f_call, f_mt, N1, N2, N3, N4]
    have F7 : S' (22 + f) 7 = 0 := by rw [eS]; simp [upA, bcm, bfr, lvc, sndV, sndB, f_call, f_mt, N1, N2, N3, N4]
    have F8 : S' (22 + f) 8 = 0 := by rw [eS]; simp [upA, bcm, bfr, lvc, sndV, sndB, f_call, f_mt, N1, N2, N3, N4]
    have F9 : S' (22 + f) 9 = S (22 + f) 9 := by rw [eS]; simp [upA, bcm, bfr, lvc, sndV, sndB, f_call, f_mt, N1, N2, N3, N4]
    have L0 : S' (6 + c) 0 = 3 := by rw [eS]; simp [upA, bcm, bfr, lvc, sndV, sndB, f_call, f_mt, N1, N2, N3, N4]
    have L1 : S' (6 + c) 1 = S (6 + c) 1 := by rw [eS]; simp [upA, bcm, bfr, lvc, sndV, sndB, f_call, f_mt, N1, N2, N3, N4]
    have L2 : S' (6 + c) 2 = S (6 + c) 2 := by rw [eS]; simp [upA, bcm, bfr, lvc, sndV, sndB, f_call, f_mt, N1, N2, N3, N4]
    have L3 : S' (6 + c) 3 = S (6 + c) 3 := by rw [eS]; simp [upA, bcm, bfr, lvc, sndV, sndB, f_call, f_mt, N1, N2, N3, N4]
    have L5 : S' (6 + c) 5 = S (6 + c) 5 - 1 := by rw [eS]; simp [upA, bcm, bfr, lvc, sndV, sndB, f_call, f_mt, N1, N2, N3, N4]
    have L6 : S' (6 + c) 6 = S (6 + c) 6 := by rw [eS]; simp [upA, bcm, bfr, lvc, sndV, sndB, f_call, f_mt, N1, N2, N3, N4]
    have L7 : S' (6 + c) 7 = S (6 + c) 7 := by rw [eS]; simp [upA, bcm, bfr, lvc, sndV, sndB, f_call, f_mt, N1, N2, N3, N4]
    have L8 : S' (6 + c) 8 = S (6 + c) 8 := by rw [eS]; simp [upA, bcm, bfr, lvc, sndV, sndB, f_call, f_mt, N1, N2, N3, N4]
    have H5 : S' 0 5 = S 0 5 := by rw [eS]; simp [upA, bcm, bfr, lvc, sndV, sndB, f_call, f_mt, N1, N2, N3, N4]
    have H6 : S' 0 6 = S 0 6 := by rw [eS]; simp [upA, bcm, bfr, lvc, sndV, sndB, f_call, f_mt, N1, N2, N3, N4]
    have H7 : S' 0 7 = S 0 7 := by rw [eS]; simp [upA, bcm, bfr, lvc, sndV, sndB, f_call, f_mt, N1, N2, N3, N4]
    have H8 : S' 0 8 = S 0 8 := by rw [eS]; simp [upA, bcm, bfr, lvc, sndV, sndB, f_call, f_mt, N1, N2, N3, N4]
    have H9 : S' 0 9 = S 0 9 := by rw [eS]; simp [upA, bcm, bfr, lvc, sndV, sndB, f_call, f_mt, N1, N2, N3, N4]
    have H10 : S' 0 10 = S 0 10 := by rw [eS]; simp [upA, bcm, bfr, lvc, sndV, sndB, f_call, f_mt, N1, N2, N3, N4]
    have H11 : S' 0 11 = S 0 11 := by rw [eS]; simp [upA, bcm, bfr, lvc, sndV, sndB, f_call, f_mt, N1, N2, N3, N4]
    have H12 : S' 0 12 = S 0 12 := by rw [eS]; simp [upA, bcm, bfr, lvc, sndV, sndB, f_call, f_mt, N1, N2, N3, N4]
    have H13 : S' 0 13 = S 0 13 := by rw [eS]; simp [upA, bcm, bfr, lvc, sndV, sndB, f_call, f_mt, N1, N2, N3, N4]
    have H14 : S' 0 14 = S 0 14 := by rw [eS]; simp [upA, bcm, bfr, lvc, sndV, sndB, f_call, f_mt, N1, N2, N3, N4]
    have H15 : S' 0 15 = S 0 15 := by rw [eS]; simp [upA, bcm, bfr, lvc, sndV, sndB, f_call, f_mt, N1, N2, N3, N4]
    have eo : ∀ k, ¬ k = 22 + f → ¬ k = 6 + c → ¬ k = 0 → ∀ j, S' k j = S k j := fun k a b d j => by rw [eS]; simp [upA, bcm, bfr, lvc, sndV, sndB, f_call, f_mt, a, b, d]
    have hfo : ∀ j : Nat, j < 4 → ¬ j = f → ∀ i, S' (22 + j) i = S (22 + j) i := fun j hj e i => eo _ (by omega) (by omega) (by omega) i
    clear eS
    have D1 : w1 (S' (6 + c) 0) = 0 := by unfold w1; rw [if_neg (by omega)]
    have D0 : 0 ≤ w1 (S (6 + c) 0) := by unfold w1; split <;> omega
    have D2 : w2 (S' (22 + f) 0) ≤ w2 (S (22 + f) 0) + (S' 0 10 - S 0 10) := by unfold w2; split <;> split <;> omega
    have D3 : w3 (S' (22 + f) 0) ≤ w3 (S (22 + f) 0) := by unfold w3; split <;> split <;> omega
    have D5 : rv (S (6 + c) 0) = rv (S' (6 + c) 0) := by unfold rv; split <;> split <;> first | omega | (split <;> first | omega | (split <;> omega))
    have D6 : S' 0 10 - S 0 10 ≤ w1 (S (6 + c) 0) - w1 (S' (6 + c) 0) := by omega
    exact Step_one (S' := S') (q' := q + 1) hI hf (by omega) hc (by omega) ec (by omega) eo ⟨⟨by omega, by omega⟩, ⟨by omega, by omega⟩, ⟨by omega, by omega⟩, ⟨by omega, by omega⟩, ⟨by omega, by omega⟩, ⟨by omega, by omega⟩, ⟨by omega, by omega⟩, ⟨by omega, by omega⟩, ⟨by omega, by omega⟩, ⟨by omega, by omega⟩, ⟨by omega, by omega⟩⟩ (by omega) (by omega) (by omega) ⟨⟨by omega, by omega⟩, ⟨by omega, by omega⟩, ⟨by omega, by omega⟩, ⟨by omega, by omega⟩, ⟨by omega, by omega⟩, ⟨by omega, by omega⟩, ⟨by omega, by omega⟩, fun _ => by omega, fun _ => by omega, fun _ => by omega, fun _ => by omega, fun _ => by omega, fun _ => by omega, fun _ => by omega, fun _ => by omega, fun _ => by omega, fun _ => by omega, fun _ => by omega⟩ (by omega) ⟨⟨by omega, by omega⟩, by omega, ⟨by omega, by omega⟩, ⟨by omega, by omega⟩, by omega, ⟨by omega, by omega⟩, ⟨by omega, by omega⟩, fun _ => by omega, fun _ => by omega⟩ (Or.inr ⟨by omega, by omega, by omega, by unfold smt; omega⟩) (hX_old hI hf hfo (by unfold hds; omega) (by omega) (by omega)) (fun z => by omega) (by omega) (by omega) (by omega) (by omega) D5
theorem i_rise (hI : Inv q S) (hf : f < 4) (hc : c < 16) (ec : S (22 + f) 2 = (c : Int)) (hm : S (22 + f) 0 = 3) : Inv (q + 1) (f_rise S (22 + f) (6 + c)) := by
  have hl := hI.lkC f hf c hc (by omega) ec
  obtain ⟨hl6, hls⟩ := hl
  unfold smt at hls
  have g := fin_3 (hI.fin f hf) hm
  have gl := lin_own (hI.lin c hc) (by omega)
  have h0 := hI.hd
  unfold hdOK at h0
  have hnf : ¬ S 0 5 ≤ (f : Int) := fun z => absurd (hI.off f hf z) (by omega)
  have N1 : ¬ 22 + f = 6 + c := by omega
  have N2 : ¬ 6 + c = 22 + f := by omega
  have N3 : ¬ 0 = 22 + f := by omega
  have N4 : ¬ 0 = 6 + c := by omega
  unfold f_rise
  split
  · rename_i e
    split
    · rename_i e2
      obtain ⟨S', eS⟩ : ∃ z : SS, z = up (bcm (up (up S (22 + f) 5 (S (22 + f) 5 - 1)) (22 + f) 3 (S (22 + f) 3 + 1)) (22 + f) 4) (22 + f) 4 0 := ⟨_, rfl⟩
      rw [← eS]
      have F0 : S' (22 + f) 0 = 4 := by rw [eS]; simp [upA, bcm, bfr, lvc, sndV, sndB, f_call, f_mt, N1, N2, N3, N4]
      have F1 : S' (22 + f) 1 = S (22 + f) 1 := by rw [eS]; simp [upA, bcm, bfr, lvc, sndV, sndB, f_call, f_mt, N1, N2, N3, N4]
      have F2 : S' (22 + f) 2 = S (22 + f) 2 := by rw [eS]; simp [upA, bcm, bfr, lvc, sndV, sndB, f_call, f_mt, N1, N2, N3, N4]
      have F3 : S' (22 + f) 3 = S (22 + f) 3 + 1 := by rw [eS]; simp [upA, bcm, bfr, lvc, sndV, sndB, f_call, f_mt, N1, N2, N3, N4]
      have F4 : S' (22 + f) 4 = 0 := by rw [eS]; simp [upA, bcm, bfr, lvc, sndV, sndB, f_call, f_mt, N1, N2, N3, N4]
      have F5 : S' (22 + f) 5 = S (22 + f) 5 - 1 := by rw [eS]; simp [upA, bcm, bfr, lvc, sndV, sndB, f_call, f_mt, N1, N2, N3, N4]
      have F6 : S' (22 + f) 6 = S (22 + f) 6 := by rw [eS]; simp [upA, bcm, bfr, lvc, sndV, sndB, f_call, f_mt, N1, N2, N3, N4]
      have F7 : S' (22 + f) 7 = 0 := by rw [eS]; simp [upA, bcm, bfr, lvc, sndV, sndB, f_call, f_mt, N1, N2, N3, N4]
      have F8 : S' (22 + f) 8 = 0 := by rw [eS]; simp [upA, bcm, bfr, lvc, sndV, sndB, f_call, f_mt, N1, N2, N3, N4]
      have F9 : S' (22 + f) 9 = S (22 + f) 9 := by rw [eS]; simp [upA, bcm, bfr, lvc, sndV, sndB, f_call, f_mt, N1, N2, N3, N4]
      have L0 : S' (6 + c) 0 = S (6 + c) 0 := by rw [eS]; simp [upA, bcm, bfr, lvc, sndV, sndB, f_call, f_mt, N1, N2, N3, N4]
      have L1 : S' (6 + c) 1 = S (6 + c) 1 := by rw [eS]; simp [upA, bcm, bfr, lvc, sndV, sndB, f_call, f_mt, N1, N2, N3, N4]
      have L2 : S' (6 + c) 2 = S (6 + c) 2 := by rw [eS]; simp [upA, bcm, bfr, lvc, sndV, sndB, f_call, f_mt, N1, N2, N3, N4]
      have L3 : S' (6 + c) 3 = S (6 + c) 3 := by rw [eS]; simp [upA, bcm, bfr, lvc, sndV, sndB, f_call, f_mt, N1, N2, N3, N4]
      have L5 : S' (6 + c) 5 = S (6 + c) 5 := by rw [eS]; simp [upA, bcm, bfr, lvc, sndV, sndB, f_call, f_mt, N1, N2, N3, N4]
      have L6 : S' (6 + c) 6 = S (6 + c) 6 := by rw [eS]; simp [upA, bcm, bfr, lvc, sndV, sndB, f_call, f_mt, N1, N2, N3, N4]
      have L7 : S' (6 + c) 7 = S (6 + c) 7 := by rw [eS]; simp [upA, bcm, bfr, lvc, sndV, sndB, f_call, f_mt, N1, N2, N3, N4]
      have L8 : S' (6 + c) 8 = S (6 + c) 8 := by rw [eS]; simp [upA, bcm, bfr, lvc, sndV, sndB, f_call, f_mt, N1, N2, N3, N4]
      have H5 : S' 0 5 = S 0 5 := by rw [eS]; simp [upA, bcm, bfr, lvc, sndV, sndB, f_call, f_mt, N1, N2, N3, N4]
      have H6 : S' 0 6 = S 0 6 := by rw [eS]; simp [upA, bcm, bfr, lvc, sndV, sndB, f_call, f_mt, N1, N2, N3, N4]
      have H7 : S' 0 7 = S 0 7 := by rw [eS]; simp [upA, bcm, bfr, lvc, sndV, sndB, f_call, f_mt, N1, N2, N3, N4]
      have H8 : S' 0 8 = S 0 8 := by rw [eS]; simp [upA, bcm, bfr, lvc, sndV, sndB, f_call, f_mt, N1, N2, N3, N4]
      have H9 : S' 0 9 = S 0 9 := by rw [eS]; simp [upA, bcm, bfr, lvc, sndV, sndB, f_call, f_mt, N1, N2, N3, N4]
      have H10 : S' 0 10 = S 0 10 := by rw [eS]; simp [upA, bcm, bfr, lvc, sndV, sndB, f_call, f_mt, N1, N2, N3, N4]
      have H11 : S' 0 11 = S 0 11 := by rw [eS]; simp [upA, bcm, bfr, lvc, sndV, sndB, f_call, f_mt, N1, N2, N3, N4]
      have H12 : S' 0 12 = S 0 12 := by rw [eS]; simp [upA, bcm, bfr, lvc, sndV, sndB, f_call, f_mt, N1, N2, N3, N4]
      have H13 : S' 0 13 = S 0 13 := by rw [eS]; simp [upA, bcm, bfr, lvc, sndV, sndB, f_call, f_mt, N1, N2, N3, N4]
      have H14 : S' 0 14 = S 0 14 := by rw [eS]; simp [upA, bcm, bfr, lvc, sndV, sndB, f_call, f_mt, N1, N2, N3, N4]
      have H15 : S' 0 15 = S 0 15 := by rw [eS]; simp [upA, bcm, bfr, lvc, sndV, sndB, f_call, f_mt, N1, N2, N3, N4]
      have eo : ∀ k, ¬ k = 22 + f → ¬ k = 6 + c → ¬ k = 0 → ∀ j, S' k j = S k j := fun k a b d j => by rw [eS]; simp [upA, bcm, bfr, lvc, sndV, sndB, f_call, f_mt, a, b, d]
      have hfo : ∀ j : Nat, j < 4 → ¬ j = f → ∀ i, S' (22 + j) i = S (22 + j) i := fun j hj e i => eo _ (by omega) (by omega) (by omega) i
      clear eS
      have D1 : w1 (S' (6 + c) 0) = w1 (S (6 + c) 0) := by rw [L0]
      have D0 : 0 ≤ w1 (S (6 + c) 0) := by unfold w1; split <;> omega
      have D2 : w2 (S' (22 + f) 0) ≤ w2 (S (22 + f) 0) + (S' 0 10 - S 0 10) := by unfold w2; split <;> split <;> omega
      have D3 : w3 (S' (22 + f) 0) ≤ w3 (S (22 + f) 0) := by unfold w3; split <;> split <;> omega
      have D5 : rv (S (6 + c) 0) = rv (S' (6 + c) 0) := by rw [L0]
      have D6 : S' 0 10 - S 0 10 ≤ w1 (S (6 + c) 0) - w1 (S' (6 + c) 0) := by omega
      exact Step_one (S' := S') (q' := q + 1) hI hf (by omega) hc (by omega) ec (by omega) eo ⟨⟨by omega, by omega⟩, ⟨by omega, by omega⟩, ⟨by omega, by omega⟩, ⟨by omega, by omega⟩, ⟨by omega, by omega⟩, ⟨by omega, by omega⟩, ⟨by omega, by omega⟩, ⟨by omega, by omega⟩, ⟨by omega, by omega⟩, ⟨by omega, by omega⟩, ⟨by omega, by omega⟩⟩ (by omega) (by omega) (by omega) ⟨⟨by omega, by omega⟩, ⟨by omega, by omega⟩, ⟨by omega, by omega⟩, ⟨by omega, by omega⟩, ⟨by omega, by omega⟩, ⟨by omega, by omega⟩, ⟨by omega, by omega⟩, fun _ => by omega, fun _ => by omega, fun _ => by omega, fun _ => by omega, fun _ => by omega, fun _ => by omega, fun _ => by omega, fun _ => by omega, fun _ => by omega, fun _ => by omega, fun _ => by omega⟩ (by omega) ⟨⟨by omega, by omega⟩, by omega, ⟨by omega, by omega⟩, ⟨by omega, by omega⟩, by omega, ⟨by omega, by omega⟩, ⟨by omega, by omega⟩, fun _ => by omega, fun _ => by omega⟩ (Or.inr ⟨by omega, by omega, by omega, by unfold smt; omega⟩) (hX_no (by unfold hds; omega)) (fun z => by omega) (by omega) (by omega) (by omega) (by omega) D5
    · rename_i e2
      obtain ⟨S', eS⟩ : ∃ z : SS, z = sndV (up (up S (22 + f) 5 (S (22 + f) 5 - 1)) (22 + f) 3 (S (22 + f) 3 + 1)) (22 + f) (6 + c) := ⟨_, rfl⟩
      rw [← eS]
      have F0 : S' (22 + f) 0 = 9 := by rw [eS]; simp [upA, bcm, bfr, lvc, sndV, sndB, f_call, f_mt, N1, N2, N3, N4]
      have F1 : S' (22 + f) 1 = S (22 + f) 1 := by rw [eS]; simp [upA, bcm, bfr, lvc, sndV, sndB, f_call, f_mt, N1, N2, N3, N4]
      have F2 : S' (22 + f) 2 = S (22 + f) 2 := by rw [eS]; simp [upA, bcm, bfr, lvc, sndV, sndB, f_call, f_mt, N1, N2, N3, N4]
      have F3 : S' (22 + f) 3 = S (22 + f) 3 + 1 := by rw [eS]; simp [upA, bcm, bfr, lvc, sndV, sndB, f_call, f_mt, N1, N2, N3, N4]
      have F4 : S' (22 + f) 4 = -6 := by rw [eS]; simp [upA, bcm, bfr, lvc, sndV, sndB, f_call, f_mt, N1, N2, N3, N4]
      have F5 : S' (22 + f) 5 = S (22 + f) 5 - 1 := by rw [eS]; simp [upA, bcm, bfr, lvc, sndV, sndB, f_call, f_mt, N1, N2, N3, N4]
      have F6 : S' (22 + f) 6 = S (22 + f) 6 := by rw [eS]; simp [upA, bcm, bfr, lvc, sndV, sndB, f_call, f_mt, N1, N2, N3, N4]
      have F7 : S' (22 + f) 7 = 0 := by rw [eS]; simp [upA, bcm, bfr, lvc, sndV, sndB, f_call, f_mt, N1, N2, N3, N4]
      have F8 : S' (22 + f) 8 = 0 := by rw [eS]; simp [upA, bcm, bfr, lvc, sndV, sndB, f_call, f_mt, N1, N2, N3, N4]
      have F9 : S' (22 + f) 9 = -6 := by rw [eS]; simp [upA, bcm, bfr, lvc, sndV, sndB, f_call, f_mt, N1, N2, N3, N4]
      have L0 : S' (6 + c) 0 = 9 := by rw [eS]; simp [upA, bcm, bfr, lvc, sndV, sndB, f_call, f_mt, N1, N2, N3, N4]
      have L1 : S' (6 + c) 1 = S (6 + c) 1 := by rw [eS]; simp [upA, bcm, bfr, lvc, sndV, sndB, f_call, f_mt, N1, N2, N3, N4]
      have L2 : S' (6 + c) 2 = S (6 + c) 2 := by rw [eS]; simp [upA, bcm, bfr, lvc, sndV, sndB, f_call, f_mt, N1, N2, N3, N4]
      have L3 : S' (6 + c) 3 = 3 := by rw [eS]; simp [upA, bcm, bfr, lvc, sndV, sndB, f_call, f_mt, N1, N2, N3, N4]
      have L5 : S' (6 + c) 5 = S (6 + c) 5 := by rw [eS]; simp [upA, bcm, bfr, lvc, sndV, sndB, f_call, f_mt, N1, N2, N3, N4]
      have L6 : S' (6 + c) 6 = S (6 + c) 6 := by rw [eS]; simp [upA, bcm, bfr, lvc, sndV, sndB, f_call, f_mt, N1, N2, N3, N4]
      have L7 : S' (6 + c) 7 = S (6 + c) 7 := by rw [eS]; simp [upA, bcm, bfr, lvc, sndV, sndB, f_call, f_mt, N1, N2, N3, N4]
      have L8 : S' (6 + c) 8 = S (6 + c) 8 := by rw [eS]; simp [upA, bcm, bfr, lvc, sndV, sndB, f_call, f_mt, N1, N2, N3, N4]
      have H5 : S' 0 5 = S 0 5 := by rw [eS]; simp [upA, bcm, bfr, lvc, sndV, sndB, f_call, f_mt, N1, N2, N3, N4]
      have H6 : S' 0 6 = S 0 6 := by rw [eS]; simp [upA, bcm, bfr, lvc, sndV, sndB, f_call, f_mt, N1, N2, N3, N4]
      have H7 : S' 0 7 = S 0 7 := by rw [eS]; simp [upA, bcm, bfr, lvc, sndV, sndB, f_call, f_mt, N1, N2, N3, N4]
      have H8 : S' 0 8 = S 0 8 := by rw [eS]; simp [upA, bcm, bfr, lvc, sndV, sndB, f_call, f_mt, N1, N2, N3, N4]
      have H9 : S' 0 9 = S 0 9 := by rw [eS]; simp [upA, bcm, bfr, lvc, sndV, sndB, f_call, f_mt, N1, N2, N3, N4]
      have H10 : S' 0 10 = S 0 10 := by rw [eS]; simp [upA, bcm, bfr, lvc, sndV, sndB, f_call, f_mt, N1, N2, N3, N4]
      have H11 : S' 0 11 = S 0 11 := by rw [eS]; simp [upA, bcm, bfr, lvc, sndV, sndB, f_call, f_mt, N1, N2, N3, N4]
      have H12 : S' 0 12 = S 0 12 := by rw [eS]; simp [upA, bcm, bfr, lvc, sndV, sndB, f_call, f_mt, N1, N2, N3, N4]
      have H13 : S' 0 13 = S 0 13 := by rw [eS]; simp [upA, bcm, bfr, lvc, sndV, sndB, f_call, f_mt, N1, N2, N3, N4]
      have H14 : S' 0 14 = S 0 14 + 1 := by rw [eS]; simp [upA, bcm, bfr, lvc, sndV, sndB, f_call, f_mt, N1, N2, N3, N4]
      have H15 : S' 0 15 = S 0 15 := by rw [eS]; simp [upA, bcm, bfr, lvc, sndV, sndB, f_call, f_mt, N1, N2, N3, N4]
      have eo : ∀ k, ¬ k = 22 + f → ¬ k = 6 + c → ¬ k = 0 → ∀ j, S' k j = S k j := fun k a b d j => by rw [eS]; simp [upA, bcm, bfr, lvc, sndV, sndB, f_call, f_mt, a, b, d]
      have hfo : ∀ j : Nat, j < 4 → ¬ j = f → ∀ i, S' (22 + j) i = S (22 + j) i := fun j hj e i => eo _ (by omega) (by omega) (by omega) i
      clear eS
      have D1 : w1 (S' (6 + c) 0) = 0 := by unfold w1; rw [if_neg (by omega)]
      have D0 : 0 ≤ w1 (S (6 + c) 0) := by unfold w1; split <;> omega
      have D2 : w2 (S' (22 + f) 0) ≤ w2 (S (22 + f) 0) + (S' 0 10 - S 0 10) := by unfold w2; split <;> split <;> omega
      have D3 : w3 (S' (22 + f) 0) ≤ w3 (S (22 + f) 0) := by unfold w3; split <;> split <;> omega
      have D5 : rv (S (6 + c) 0) = rv (S' (6 + c) 0) := by unfold rv; split <;> split <;> first | omega | (split <;> first | omega | (split <;> omega))
      have D6 : S' 0 10 - S 0 10 ≤ w1 (S (6 + c) 0) - w1 (S' (6 + c) 0) := by omega
      exact Step_one (S' := S') (q' := q + 1) hI hf (by omega) hc (by omega) ec (by omega) eo ⟨⟨by omega, by omega⟩, ⟨by omega, by omega⟩, ⟨by omega, by omega⟩, ⟨by omega, by omega⟩, ⟨by omega, by omega⟩, ⟨by omega, by omega⟩, ⟨by omega, by omega⟩, ⟨by omega, by omega⟩, ⟨by omega, by omega⟩, ⟨by omega, by omega⟩, ⟨by omega, by omega⟩⟩ (by omega) (by omega) (by omega) ⟨⟨by omega, by omega⟩, ⟨by omega, by omega⟩, ⟨by omega, by omega⟩, ⟨by omega, by omega⟩, ⟨by omega, by omega⟩, ⟨by omega, by omega⟩, ⟨by omega, by omega⟩, fun _ => by omega, fun _ => by omega, fun _ => by omega, fun _ => by omega, fun _ => by omega, fun _ => by omega, fun _ => by omega, fun _ => by omega, fun _ => by omega, fun _ => by omega, fun _ => by omega⟩ (by omega) ⟨⟨by omega, by omega⟩, by omega, ⟨by omega, by omega⟩, ⟨by omega, by omega⟩, by omega, ⟨by omega, by omega⟩, ⟨by omega, by omega⟩, fun _ => by omega, fun _ => by omega⟩ (Or.inr ⟨by omega, by omega, by omega, by unfold smt; omega⟩) (hX_no (by unfold hds; omega)) (fun z => by omega) (by omega) (by omega) (by omega) (by omega) D5
  · rename_i e
    obtain ⟨S', eS⟩ : ∃ z : SS, z = (up (up S (22 + f) 5 (S (22 + f) 5 - 1)) (22 + f) 3 (S (22 + f) 3 + 1)) := ⟨_, rfl⟩
    rw [← eS]
    have F0 : S' (22 + f) 0 = S (22 + f) 0 := by rw [eS]; simp [upA, bcm, bfr, lvc, sndV, sndB, f_call, f_mt, N1, N2, N3, N4]
    have F1 : S' (22 + f) 1 = S (22 + f) 1 := by rw [eS]; simp [upA, bcm, bfr, lvc, sndV, sndB, f_call, f_mt, N1, N2, N3, N4]
    have F2 : S' (22 + f) 2 = S (22 + f) 2 := by rw [eS]; simp [upA, bcm, bfr, lvc, sndV, sndB, f_call, f_mt, N1, N2, N3, N4]
    have F3 : S' (22 + f) 3 = S (22 + f) 3 + 1 := by rw [eS]; simp [upA, bcm, bfr, lvc, sndV, sndB, f_call, f_mt, N1, N2, N3, N4]
    have F4 : S' (22 + f) 4 = S (22 + f) 4 := by rw [eS]; simp [upA, bcm, bfr, lvc, sndV, sndB, f_call, f_mt, N1, N2, N3, N4]
    have F5 : S' (22 + f) 5 = S (22 + f) 5 - 1 := by rw [eS]; simp [upA, bcm, bfr, lvc, sndV, sndB, f_call, f_mt, N1, N2, N3, N4]
    have F6 : S' (22 + f) 6 = S (22 + f) 6 := by rw [eS]; simp [upA, bcm, bfr, lvc, sndV, sndB, f_call, f_mt, N1, N2, N3, N4]
    have F7 : S' (22 + f) 7 = S (22 + f) 7 := by rw [eS]; simp [upA, bcm, bfr, lvc, sndV, sndB, f_call, f_mt, N1, N2, N3, N4]
    have F8 : S' (22 + f) 8 = S (22 + f) 8 := by rw [eS]; simp [upA, bcm, bfr, lvc, sndV, sndB, f_call, f_mt, N1, N2, N3, N4]
    have F9 : S' (22 + f) 9 = S (22 + f) 9 := by rw [eS]; simp [upA, bcm, bfr, lvc, sndV, sndB, f_call, f_mt, N1, N2, N3, N4]
    have L0 : S' (6 + c) 0 = S (6 + c) 0 := by rw [eS]; simp [upA, bcm, bfr, lvc, sndV, sndB, f_call, f_mt, N1, N2, N3, N4]
    have L1 : S' (6 + c) 1 = S (6 + c) 1 := by rw [eS]; simp [upA, bcm, bfr, lvc, sndV, sndB, f_call, f_mt, N1, N2, N3, N4]
    have L2 : S' (6 + c) 2 = S (6 + c) 2 := by rw [eS]; simp [upA, bcm, bfr, lvc, sndV, sndB, f_call, f_mt, N1, N2, N3, N4]
    have L3 : S' (6 + c) 3 = S (6 + c) 3 := by rw [eS]; simp [upA, bcm, bfr, lvc, sndV, sndB, f_call, f_mt, N1, N2, N3, N4]
    have L5 : S' (6 + c) 5 = S (6 + c) 5 := by rw [eS]; simp [upA, bcm, bfr, lvc, sndV, sndB, f_call, f_mt, N1, N2, N3, N4]
    have L6 : S' (6 + c) 6 = S (6 + c) 6 := by rw [eS]; simp [upA, bcm, bfr, lvc, sndV, sndB, f_call, f_mt, N1, N2, N3, N4]
    have L7 : S' (6 + c) 7 = S (6 + c) 7 := by rw [eS]; simp [upA, bcm, bfr, lvc, sndV, sndB, f_call, f_mt, N1, N2, N3, N4]
    have L8 : S' (6 + c) 8 = S (6 + c) 8 := by rw [eS]; simp [upA, bcm, bfr, lvc, sndV, sndB, f_call, f_mt, N1, N2, N3, N4]
    have H5 : S' 0 5 = S 0 5 := by rw [eS]; simp [upA, bcm, bfr, lvc, sndV, sndB, f_call, f_mt, N1, N2, N3, N4]
    have H6 : S' 0 6 = S 0 6 := by rw [eS]; simp [upA, bcm, bfr, lvc, sndV, sndB, f_call, f_mt, N1, N2, N3, N4]
    have H7 : S' 0 7 = S 0 7 := by rw [eS]; simp [upA, bcm, bfr, lvc, sndV, sndB, f_call, f_mt, N1, N2, N3, N4]
    have H8 : S' 0 8 = S 0 8 := by rw [eS]; simp [upA, bcm, bfr, lvc, sndV, sndB, f_call, f_mt, N1, N2, N3, N4]
    have H9 : S' 0 9 = S 0 9 := by rw [eS]; simp [upA, bcm, bfr, lvc, sndV, sndB, f_call, f_mt, N1, N2, N3, N4]
    have H10 : S' 0 10 = S 0 10 := by rw [eS]; simp [upA, bcm, bfr, lvc, sndV, sndB, f_call, f_mt, N1, N2, N3, N4]
    have H11 : S' 0 11 = S 0 11 := by rw [eS]; simp [upA, bcm, bfr, lvc, sndV, sndB, f_call, f_mt, N1, N2, N3, N4]
    have H12 : S' 0 12 = S 0 12 := by rw [eS]; simp [upA, bcm, bfr, lvc, sndV, sndB, f_call, f_mt, N1, N2, N3, N4]
    have H13 : S' 0 13 = S 0 13 := by rw [eS]; simp [upA, bcm, bfr, lvc, sndV, sndB, f_call, f_mt, N1, N2, N3, N4]
    have H14 : S' 0 14 = S 0 14 := by rw [eS]; simp [upA, bcm, bfr, lvc, sndV, sndB, f_call, f_mt, N1, N2, N3, N4]
    have H15 : S' 0 15 = S 0 15 := by rw [eS]; simp [upA, bcm, bfr, lvc, sndV, sndB, f_call, f_mt, N1, N2, N3, N4]
    have eo : ∀ k, ¬ k = 22 + f → ¬ k = 6 + c → ¬ k = 0 → ∀ j, S' k j = S k j := fun k a b d j => by rw [eS]; simp [upA, bcm, bfr, lvc, sndV, sndB, f_call, f_mt, a, b, d]
    have hfo : ∀ j : Nat, j < 4 → ¬ j = f → ∀ i, S' (22 + j) i = S (22 + j) i := fun j hj e i => eo _ (by omega) (by omega) (by omega) i
    clear eS
    have D1 : w1 (S' (6 + c) 0) = w1 (S (6 + c) 0) := by rw [L0]
    have D0 : 0 ≤ w1 (S (6 + c) 0) := by unfold w1; split <;> omega
    have D2 : w2 (S' (22 + f) 0) = w2 (S (22 + f) 0) := by rw [F0]
    have D3 : w3 (S' (22 + f) 0) = w3 (S (22 + f) 0) := by rw [F0]
    have D5 : rv (S (6 + c) 0) = rv (S' (6 + c) 0) := by rw [L0]
    have D6 : S' 0 10 - S 0 10 ≤ w1 (S (6 + c) 0) - w1 (S' (6 + c) 0) := by omega
    exact Step_one (S' := S') (q' := q + 1) hI hf (by omega) hc (by omega) ec (by omega) eo ⟨⟨by omega, by omega⟩, ⟨by omega, by omega⟩, ⟨by omega, by omega⟩, ⟨by omega, by omega⟩, ⟨by omega, by omega⟩, ⟨by omega, by omega⟩, ⟨by omega, by omega⟩, ⟨by omega, by omega⟩, ⟨by omega, by omega⟩, ⟨by omega, by omega⟩, ⟨by omega, by omega⟩⟩ (by omega) (by omega) (by omega) ⟨⟨by omega, by omega⟩, ⟨by omega, by omega⟩, ⟨by omega, by omega⟩, ⟨by omega, by omega⟩, ⟨by omega, by omega⟩, ⟨by omega, by omega⟩, ⟨by omega, by omega⟩, fun _ => by omega, fun _ => by omega, fun _ => by omega, fun _ => by omega, fun _ => by omega, fun _ => by omega, fun _ => by omega, fun _ => by omega, fun _ => by omega, fun _ => by omega, fun _ => by omega⟩ (by omega) ⟨⟨by omega, by omega⟩, by omega, ⟨by omega, by omega⟩, ⟨by omega, by omega⟩, by omega, ⟨by omega, by omega⟩, ⟨by omega, by omega⟩, fun _ => by omega, fun _ => by omega⟩ (Or.inr ⟨by omega, by omega, by omega, by unfold smt; omega⟩) (hX_no (by unfold hds; omega)) (fun z => by omega) (by omega) (by omega) (by omega) (by omega) D5
theorem i_sound (hI : Inv q S) (hf : f < 4) (hc : c < 16) (ec : S (22 + f) 2 = (c : Int)) (hm : S (22 + f) 0 = 9) : Inv (q + 1) (f_sound S (22 + f) (6 + c)) := by
  have hl := hI.lkC f hf c hc (by omega) ec
  obtain ⟨hl6, hls⟩ := hl
  unfold smt at hls
  have g := fin_9 (hI.fin f hf) hm
  have gl := lin_own (hI.lin c hc) (by omega)
  have h0 := hI.hd
  unfold hdOK at h0
  have hnf : ¬ S 0 5 ≤ (f : Int) := fun z => absurd (hI.off f hf z) (by omega)
  have N1 : ¬ 22 + f = 6 + c := by omega
  have N2 : ¬ 6 + c = 22 + f := by omega
  have N3 : ¬ 0 = 22 + f := by omega
  have N4 : ¬ 0 = 6 + c := by omega
  unfold f_sound
  split
  · rename_i e2
    obtain ⟨S', eS⟩ : ∃ z : SS, z = up S (22 + f) 7 (S (22 + f) 7 + 1) := ⟨_, rfl⟩
    rw [← eS]
    have F0 : S' (22 + f) 0 = S (22 + f) 0 := by rw [eS]; simp [upA, bcm, bfr, lvc, sndV, sndB, f_call, f_mt, N1, N2, N3, N4]
    have F1 : S' (22 + f) 1 = S (22 + f) 1 := by rw [eS]; simp [upA, bcm, bfr, lvc, sndV, sndB, f_call, f_mt, N1, N2, N3, N4]
    have F2 : S' (22 + f) 2 = S (22 + f) 2 := by rw [eS]; simp [upA, bcm, bfr, lvc, sndV, sndB, f_call, f_mt, N1, N2, N3, N4]
    have F3 : S' (22 + f) 3 = S (22 + f) 3 := by rw [eS]; simp [upA, bcm, bfr, lvc, sndV, sndB, f_call, f_mt, N1, N2, N3, N4]
    have F4 : S' (22 + f) 4 = S (22 + f) 4 := by rw [eS]; simp [upA, bcm, bfr, lvc, sndV, sndB, f_call, f_mt, N1, N2, N3, N4]
    have F5 : S' (22 + f) 5 = S (22 + f) 5 := by rw [eS]; simp [upA, bcm, bfr, lvc, sndV, sndB, f_call, f_mt, N1, N2, N3, N4]
    have F6 : S' (22 + f) 6 = S (22 + f) 6 := by rw [eS]; simp [upA, bcm, bfr, lvc, sndV, sndB, f_call, f_mt, N1, N2, N3, N4]
    have F7 : S' (22 + f) 7 = S (22 + f) 7 + 1 := by rw [eS]; simp [upA, bcm, bfr, lvc, sndV, sndB, f_call, f_mt, N1, N2, N3, N4]
    have F8 : S' (22 + f) 8 = S (22 + f) 8 := by rw [eS]; simp [upA, bcm, bfr, lvc, sndV, sndB, f_call, f_mt, N1, N2, N3, N4]
    have F9 : S' (22 + f) 9 = S (22 + f) 9 := by rw [eS]; simp [upA, bcm, bfr, lvc, sndV, sndB, f_call, f_mt, N1, N2, N3, N4]
    have L0 : S' (6 + c) 0 = S (6 + c) 0 := by rw [eS]; simp [upA, bcm, bfr, lvc, sndV, sndB, f_call, f_mt, N1, N2, N3, N4]
    have L1 : S' (6 + c) 1 = S (6 + c) 1 := by rw [eS]; simp [upA, bcm, bfr, lvc, sndV, sndB, f_call, f_mt, N1, N2, N3, N4]
    have L2 : S' (6 + c) 2 = S (6 + c) 2 := by rw [eS]; simp [upA, bcm, bfr, lvc, sndV, sndB, f_call, f_mt, N1, N2, N3, N4]
    have L3 : S' (6 + c) 3 = S (6 + c) 3 := by rw [eS]; simp [upA, bcm, bfr, lvc, sndV, sndB, f_call, f_mt, N1, N2, N3, N4]
    have L5 : S' (6 + c) 5 = S (6 + c) 5 := by rw [eS]; simp [upA, bcm, bfr, lvc, sndV, sndB, f_call, f_mt, N1, N2, N3, N4]
    have L6 : S' (6 + c) 6 = S (6 + c) 6 := by rw [eS]; simp [upA, bcm, bfr, lvc, sndV, sndB, f_call, f_mt, N1, N2, N3, N4]
    have L7 : S' (6 + c) 7 = S (6 + c) 7 := by rw [eS]; simp [upA, bcm, bfr, lvc, sndV, sndB, f_call, f_mt, N1, N2, N3, N4]
    have L8 : S' (6 + c) 8 = S (6 + c) 8 := by rw [eS]; simp [upA, bcm, bfr, lvc, sndV, sndB, f_call, f_mt, N1, N2, N3, N4]
    have H5 : S' 0 5 = S 0 5 := by rw [eS]; simp [upA, bcm, bfr, lvc, sndV, sndB, f_call, f_mt, N1, N2, N3, N4]
    have H6 : S' 0 6 = S 0 6 := by rw [eS]; simp [upA, bcm, bfr, lvc, sndV, sndB, f_call, f_mt, N1, N2, N3, N4]
    have H7 : S' 0 7 = S 0 7 := by rw [eS]; simp [upA, bcm, bfr, lvc, sndV, sndB, f_call, f_mt, N1, N2, N3, N4]
    have H8 : S' 0 8 = S 0 8 := by rw [eS]; simp [upA, bcm, bfr, lvc, sndV, sndB, f_call, f_mt, N1, N2, N3, N4]
    have H9 : S' 0 9 = S 0 9 := by rw [eS]; simp [upA, bcm, bfr, lvc, sndV, sndB, f_call, f_mt, N1, N2, N3, N4]
    have H10 : S' 0 10 = S 0 10 := by rw [eS]; simp [upA, bcm, bfr, lvc, sndV, sndB, f_call, f_mt, N1, N2, N3, N4]
    have H11 : S' 0 11 = S 0 11 := by rw [eS]; simp [upA, bcm, bfr, lvc, sndV, sndB, f_call, f_mt, N1, N2, N3, N4]
    have H12 : S' 0 12 = S 0 12 := by rw [eS]; simp [upA, bcm, bfr, lvc, sndV, sndB, f_call, f_mt, N1, N2, N3, N4]
    have H13 : S' 0 13 = S 0 13 := by rw [eS]; simp [upA, bcm, bfr, lvc, sndV, sndB, f_call, f_mt, N1, N2, N3, N4]
    have H14 : S' 0 14 = S 0 14 := by rw [eS]; simp [upA, bcm, bfr, lvc, sndV, sndB, f_call, f_mt, N1, N2, N3, N4]
    have H15 : S' 0 15 = S 0 15 := by rw [eS]; simp [upA, bcm, bfr, lvc, sndV, sndB, f_call, f_mt, N1, N2, N3, N4]
    have eo : ∀ k, ¬ k = 22 + f → ¬ k = 6 + c → ¬ k = 0 → ∀ j, S' k j = S k j := fun k a b d j => by rw [eS]; simp [upA, bcm, bfr, lvc, sndV, sndB, f_call, f_mt, a, b, d]
    have hfo : ∀ j : Nat, j < 4 → ¬ j = f → ∀ i, S' (22 + j) i = S (22 + j) i := fun j hj e i => eo _ (by omega) (by omega) (by omega) i
    clear eS
    have D1 : w1 (S' (6 + c) 0) = w1 (S (6 + c) 0) := by rw [L0]
    have D0 : 0 ≤ w1 (S (6 + c) 0) := by unfold w1; split <;> omega
    have D2 : w2 (S' (22 + f) 0) = w2 (S (22 + f) 0) := by rw [F0]
    have D3 : w3 (S' (22 + f) 0) = w3 (S (22 + f) 0) := by rw [F0]
    have D5 : rv (S (6 + c) 0) = rv (S' (6 + c) 0) := by rw [L0]
    have D6 : S' 0 10 - S 0 10 ≤ w1 (S (6 + c) 0) - w1 (S' (6 + c) 0) := by omega
    exact Step_one (S' := S') (q' := q + 1) hI hf (by omega) hc (by omega) ec (by omega) eo ⟨⟨by omega, by omega⟩, ⟨by omega, by omega⟩, ⟨by omega, by omega⟩, ⟨by omega, by omega⟩, ⟨by omega, by omega⟩, ⟨by omega, by omega⟩, ⟨by omega, by omega⟩, ⟨by omega, by omega⟩, ⟨by omega, by omega⟩, ⟨by omega, by omega⟩, ⟨by omega, by omega⟩⟩ (by omega) (by omega) (by omega) ⟨⟨by omega, by omega⟩, ⟨by omega, by omega⟩, ⟨by omega, by omega⟩, ⟨by omega, by omega⟩, ⟨by omega, by omega⟩, ⟨by omega, by omega⟩, ⟨by omega, by omega⟩, fun _ => by omega, fun _ => by omega, fun _ => by omega, fun _ => by omega, fun _ => by omega, fun _ => by omega, fun _ => by omega, fun _ => by omega, fun _ => by omega, fun _ => by omega, fun _ => by omega⟩ (by omega) ⟨⟨by omega, by omega⟩, by omega, ⟨by omega, by omega⟩, ⟨by omega, by omega⟩, by omega, ⟨by omega, by omega⟩, ⟨by omega, by omega⟩, fun _ => by omega, fun _ => by omega⟩ (Or.inr ⟨by omega, by omega, by omega, by unfold smt; omega⟩) (hX_no (by unfold hds; omega)) (fun z => by omega) (by omega) (by omega) (by omega) (by omega) D5
  · rename_i e2
    obtain ⟨S', eS⟩ : ∃ z : SS, z = lvc (bfr (up S (22 + f) 7 (S (22 + f) 7 + 1)) (22 + f)) (6 + c) 10 := ⟨_, rfl⟩
    rw [← eS]
    have F0 : S' (22 + f) 0 = 0 := by rw [eS]; simp [upA, bcm, bfr, lvc, sndV, sndB, f_call, f_mt, N1, N2, N3, N4]
    have F1 : S' (22 + f) 1 = S (22 + f) 1 := by rw [eS]; simp [upA, bcm, bfr, lvc, sndV, sndB, f_call, f_mt, N1, N2, N3, N4]
    have F2 : S' (22 + f) 2 = -6 := by rw [eS]; simp [upA, bcm, bfr, lvc, sndV, sndB, f_call, f_mt, N1, N2, N3, N4]
    have F3 : S' (22 + f) 3 = 0 := by rw [eS]; simp [upA, bcm, bfr, lvc, sndV, sndB, f_call, f_mt, N1, N2, N3, N4]
    have F4 : S' (22 + f) 4 = -6 := by rw [eS]; simp [upA, bcm, bfr, lvc, sndV, sndB, f_call, f_mt, N1, N2, N3, N4]
    have F5 : S' (22 + f) 5 = 0 := by rw [eS]; simp [upA, bcm, bfr, lvc, sndV, sndB, f_call, f_mt, N1, N2, N3, N4]
    have F6 : S' (22 + f) 6 = 0 := by rw [eS]; simp [upA, bcm, bfr, lvc, sndV, sndB, f_call, f_mt, N1, N2, N3, N4]
    have F7 : S' (22 + f) 7 = 0 := by rw [eS]; simp [upA, bcm, bfr, lvc, sndV, sndB, f_call, f_mt, N1, N2, N3, N4]
    have F8 : S' (22 + f) 8 = 0 := by rw [eS]; simp [upA, bcm, bfr, lvc, sndV, sndB, f_call, f_mt, N1, N2, N3, N4]
    have F9 : S' (22 + f) 9 = -6 := by rw [eS]; simp [upA, bcm, bfr, lvc, sndV, sndB, f_call, f_mt, N1, N2, N3, N4]
    have L0 : S' (6 + c) 0 = 10 := by rw [eS]; simp [upA, bcm, bfr, lvc, sndV, sndB, f_call, f_mt, N1, N2, N3, N4]
    have L1 : S' (6 + c) 1 = S (6 + c) 1 := by rw [eS]; simp [upA, bcm, bfr, lvc, sndV, sndB, f_call, f_mt, N1, N2, N3, N4]
    have L2 : S' (6 + c) 2 = S (6 + c) 2 := by rw [eS]; simp [upA, bcm, bfr, lvc, sndV, sndB, f_call, f_mt, N1, N2, N3, N4]
    have L3 : S' (6 + c) 3 = S (6 + c) 3 := by rw [eS]; simp [upA, bcm, bfr, lvc, sndV, sndB, f_call, f_mt, N1, N2, N3, N4]
    have L5 : S' (6 + c) 5 = 0 := by rw [eS]; simp [upA, bcm, bfr, lvc, sndV, sndB, f_call, f_mt, N1, N2, N3, N4]
    have L6 : S' (6 + c) 6 = -6 := by rw [eS]; simp [upA, bcm, bfr, lvc, sndV, sndB, f_call, f_mt, N1, N2, N3, N4]
    have L7 : S' (6 + c) 7 = S (6 + c) 7 := by rw [eS]; simp [upA, bcm, bfr, lvc, sndV, sndB, f_call, f_mt, N1, N2, N3, N4]
    have L8 : S' (6 + c) 8 = 0 := by rw [eS]; simp [upA, bcm, bfr, lvc, sndV, sndB, f_call, f_mt, N1, N2, N3, N4]
    have H5 : S' 0 5 = S 0 5 := by rw [eS]; simp [upA, bcm, bfr, lvc, sndV, sndB, f_call, f_mt, N1, N2, N3, N4]
    have H6 : S' 0 6 = S 0 6 := by rw [eS]; simp [upA, bcm, bfr, lvc, sndV, sndB, f_call, f_mt, N1, N2, N3, N4]
    have H7 : S' 0 7 = S 0 7 := by rw [eS]; simp [upA, bcm, bfr, lvc, sndV, sndB, f_call, f_mt, N1, N2, N3, N4]
    have H8 : S' 0 8 = S 0 8 := by rw [eS]; simp [upA, bcm, bfr, lvc, sndV, sndB, f_call, f_mt, N1, N2, N3, N4]
    have H9 : S' 0 9 = S 0 9 := by rw [eS]; simp [upA, bcm, bfr, lvc, sndV, sndB, f_call, f_mt, N1, N2, N3, N4]
    have H10 : S' 0 10 = S 0 10 := by rw [eS]; simp [upA, bcm, bfr, lvc, sndV, sndB, f_call, f_mt, N1, N2, N3, N4]
    have H11 : S' 0 11 = S 0 11 := by rw [eS]; simp [upA, bcm, bfr, lvc, sndV, sndB, f_call, f_mt, N1, N2, N3, N4]
    have H12 : S' 0 12 = S 0 12 := by rw [eS]; simp [upA, bcm, bfr, lvc, sndV, sndB, f_call, f_mt, N1, N2, N3, N4]
    have H13 : S' 0 13 = S 0 13 := by rw [eS]; simp [upA, bcm, bfr, lvc, sndV, sndB, f_call, f_mt, N1, N2, N3, N4]
    have H14 : S' 0 14 = S 0 14 := by rw [eS]; simp [upA, bcm, bfr, lvc, sndV, sndB, f_call, f_mt, N1, N2, N3, N4]
    have H15 : S' 0 15 = S 0 15 := by rw [eS]; simp [upA, bcm, bfr, lvc, sndV, sndB, f_call, f_mt, N1, N2, N3, N4]
    have eo : ∀ k, ¬ k = 22 + f → ¬ k = 6 + c → ¬ k = 0 → ∀ j, S' k j = S k j := fun k a b d j => by rw [eS]; simp [upA, bcm, bfr, lvc, sndV, sndB, f_call, f_mt, a, b, d]
    have hfo : ∀ j : Nat, j < 4 → ¬ j = f → ∀ i, S' (22 + j) i = S (22 + j) i := fun j hj e i => eo _ (by omega) (by omega) (by omega) i
    clear eS
    have D1 : w1 (S' (6 + c) 0) = 0 := by unfold w1; rw [if_neg (by omega)]
    have D0 : 0 ≤ w1 (S (6 + c) 0) := by unfold w1; split <;> omega
    have D2 : w2 (S' (22 + f) 0) ≤ w2 (S (22 + f) 0) + (S' 0 10 - S 0 10) := by unfold w2; split <;> split <;> omega
    have D3 : w3 (S' (22 + f) 0) ≤ w3 (S (22 + f) 0) := by unfold w3; split <;> split <;> omega
    have D5 : rv (S (6 + c) 0) = rv (S' (6 + c) 0) := by unfold rv; split <;> split <;> first | omega | (split <;> first | omega | (split <;> omega))
    have D6 : S' 0 10 - S 0 10 ≤ w1 (S (6 + c) 0) - w1 (S' (6 + c) 0) := by omega
    exact Step_one (S' := S') (q' := q + 1) hI hf (by omega) hc (by omega) ec (by omega) eo ⟨⟨by omega, by omega⟩, ⟨by omega, by omega⟩, ⟨by omega, by omega⟩, ⟨by omega, by omega⟩, ⟨by omega, by omega⟩, ⟨by omega, by omega⟩, ⟨by omega, by omega⟩, ⟨by omega, by omega⟩, ⟨by omega, by omega⟩, ⟨by omega, by omega⟩, ⟨by omega, by omega⟩⟩ (by omega) (by omega) (by omega) ⟨⟨by omega, by omega⟩, ⟨by omega, by omega⟩, ⟨by omega, by omega⟩, ⟨by omega, by omega⟩, ⟨by omega, by omega⟩, ⟨by omega, by omega⟩, ⟨by omega, by omega⟩, fun _ => by omega, fun _ => by omega, fun _ => by omega, fun _ => by omega, fun _ => by omega, fun _ => by omega, fun _ => by omega, fun _ => by omega, fun _ => by omega, fun _ => by omega, fun _ => by omega⟩ (by omega) ⟨⟨by omega, by omega⟩, by omega, ⟨by omega, by omega⟩, ⟨by omega, by omega⟩, by omega, ⟨by omega, by omega⟩, ⟨by omega, by omega⟩, fun _ => by omega, fun _ => by omega⟩ (Or.inl ⟨by omega, by omega, by omega⟩) (hX_no (by unfold hds; omega)) (fun z => by omega) (by omega) (by omega) (by omega) (by omega) D5
end ST
