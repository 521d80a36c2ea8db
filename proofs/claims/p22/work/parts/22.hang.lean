-- ===== hang keeps what holds =====
section HG
variable {S : SS} {q : Int} {n : Nat}
theorem i_hang1 {f : Nat} (hI : Inv q S) (hf : f < 4) (hn : n < 16) (hm : ¬ S (22 + f) 0 = 0) (ec : S (22 + f) 2 = (n : Int)) (h7 : ¬ S (22 + f) 0 = 7 ∧ ¬ S (22 + f) 0 = 8) : Inv q (lvc (bfr (up S (6 + n) 1 0) (22 + f)) (6 + n) 0) := by
  have hl := hI.lkC f hf n hn hm ec
  obtain ⟨hl6, hls⟩ := hl
  unfold smt at hls
  have g := hI.fin f hf
  unfold finOK at g
  have gl := lin_own (hI.lin n hn) (by omega)
  have g1 : (0 ≤ S (22 + f) 1 ∧ S (22 + f) 1 < 16) := g.2.1
  have h0 := hI.hd
  unfold hdOK at h0
  have N1 : ¬ 22 + f = 6 + n := by omega
  have N2 : ¬ 6 + n = 22 + f := by omega
  have N3 : ¬ 0 = 22 + f := by omega
  have N4 : ¬ 0 = 6 + n := by omega
  obtain ⟨S', eS⟩ : ∃ z : SS, z = lvc (bfr (up S (6 + n) 1 0) (22 + f)) (6 + n) 0 := ⟨_, rfl⟩
  rw [← eS]
  have F0 : S' (22 + f) 0 = 0 := by rw [eS]; simp [upA, bcm, bfr, lvc, sndV, sndB, f_call, f_mt, N1, N2, N3, N4]
  have F1 : S' (22 + f) 1 = S (22 + f) 1 := by rw [eS]; simp [upA, bcm, bfr, lvc, sndV, sndB, f_call, f_mt, N1, N2, N3, N4]
  have F2 : S' (22 + f) 2 = -6 := by rw [eS]; simp [upA, bcm, bfr, lvc, sndV, sndB, f_call, f_mt, N1, N2, N3, N4]
  have F3 : S' (22 + f) 3 = 0 := by rw [eS]; simp [upA, bcm, bfr, lvc, sndV, sndB, f_call, f_mt, N1, N2, N3, N4]
  have F4 : S' (22 + f) 4 = -6 := by rw [eS]; simp [upA, bcm, bfr, lvc, sndV, sndB, f_call, f_mt, N1, N2, N3, N4]
  have F5 : S' (22 + f) 5 = 0 := by rw [eS]; simp [upA, bcm, bfr, lvc, sndV, sndB, f_call, f_mt, N1, N2, N3, N4]
  have F6 : S' (22 + f) 6 = 0 := by rw [eS]; simp [upA, bcm, bfr, lvc, sndV, sndB, f_call, f_mt, N1, N2, N3, N4]
  have F7 : S' (22 + f) 7 = 0 := by rw [eS]; simp [upA, bcm, bfr, lvc, sndV, sndB, f_call, f_mt, N1, N2, N3, N4]
  have F8 : S' (22 + f) 8 = 0 := by rw [eS]; simp [upA, bcm, bfr, lvc, sndV, sndB, f_call, f_mt, N1, N2, N3, N4]
  have F9 : S' (22 + f) 9 = -6 := by rw [eS]; simp [upA, bcm, bfr, lvc, sndV, sndB, f_call, f_mt, N1, N2, N3, N4]
  have L0 : S' (6 + n) 0 = 0 := by rw [eS]; simp [upA, bcm, bfr, lvc, sndV, sndB, f_call, f_mt, N1, N2, N3, N4]
  have L1 : S' (6 + n) 1 = 0 := by rw [eS]; simp [upA, bcm, bfr, lvc, sndV, sndB, f_call, f_mt, N1, N2, N3, N4]
  have L2 : S' (6 + n) 2 = S (6 + n) 2 := by rw [eS]; simp [upA, bcm, bfr, lvc, sndV, sndB, f_call, f_mt, N1, N2, N3, N4]
  have L3 : S' (6 + n) 3 = S (6 + n) 3 := by rw [eS]; simp [upA, bcm, bfr, lvc, sndV, sndB, f_call, f_mt, N1, N2, N3, N4]
  have L5 : S' (6 + n) 5 = 0 := by rw [eS]; simp [upA, bcm, bfr, lvc, sndV, sndB, f_call, f_mt, N1, N2, N3, N4]
  have L6 : S' (6 + n) 6 = -6 := by rw [eS]; simp [upA, bcm, bfr, lvc, sndV, sndB, f_call, f_mt, N1, N2, N3, N4]
  have L7 : S' (6 + n) 7 = S (6 + n) 7 := by rw [eS]; simp [upA, bcm, bfr, lvc, sndV, sndB, f_call, f_mt, N1, N2, N3, N4]
  have L8 : S' (6 + n) 8 = 0 := by rw [eS]; simp [upA, bcm, bfr, lvc, sndV, sndB, f_call, f_mt, N1, N2, N3, N4]
  have H5 : S' 0 5 = S 0 5 := by rw [eS]; simp [upA, bcm, bfr, lvc, sndV, sndB, f_call, f_mt, N1, N2, N3, N4]
  have H6 : S' 0 6 = S 0 6 := by rw [eS]; simp [upA, bcm, bfr, lvc, sndV, sndB, f_call, f_mt, N1, N2, N3, N4]
  have H7 : S' 0 7 = S 0 7 := by rw [eS]; simp [upA, bcm, bfr, lvc, sndV, sndB, f_call, f_mt, N1, N2, N3, N4]
  have H8 : S' 0 8 = S 0 8 := by rw [eS]; simp [upA, bcm, bfr, lvc, sndV, sndB, f_call, f_mt, N1, N2, N3, N4]
  have H9 : S' 0 9 = S 0 9 := by rw [eS]; simp [upA, bcm, bfr, lvc, sndV, sndB, f_call, f_mt, N1, N2, N3, N4]
  have H10 : S' 0 10 = S 0 10 := by rw [eS]; simp [upA, bcm, bfr, lvc, sndV, sndB, f_call, f_mt, N1, N2, N3, N4]
  have H11 : S' 0 11 = S 0 11 := by rw [eS]; simp [upA, bcm, bfr, lvc, sndV, sndB, f_call, f_mt, N1, N2, N3, N4]
  have H12 : S' 0 12 = S 0 12 := by rw [eS]; simp [upA, bcm, bfr, lvc, sndV, sndB, f_call, f_mt, N1, N2, N3, N4]
  have H13 : S' 0 13 = S 0 13 := by rw [eS]; simp [upA, bcm, bfr, lvc, sndV, sndB, f_call, f_mt, N1, N2, N3, N4]
  have H14 : S' 0 14 = S 0 14 := by rw [eS]; simp [upA, bcm, bfr, lvc, sndV, sndB, f_call, f_mt, N1, N2, N3, N4]
  have H15 : S' 0 15 = S 0 15 := by rw [eS]; simp [upA, bcm, bfr, lvc, sndV, sndB, f_call, f_mt, N1, N2, N3, N4]
  have eo : ∀ k, ¬ k = 22 + f → ¬ k = 6 + n → ¬ k = 0 → ∀ j, S' k j = S k j := fun k a b d j => by rw [eS]; simp [upA, bcm, bfr, lvc, a, b, d]
  clear eS g
  have D1 : w1 (S' (6 + n) 0) = 0 := by unfold w1; rw [if_neg (by omega)]
  have D0 : 0 ≤ w1 (S (6 + n) 0) := by unfold w1; split <;> omega
  have D2 : w2 (S' (22 + f) 0) = 0 := by unfold w2; rw [if_neg (by omega)]
  have D20 : 0 ≤ w2 (S (22 + f) 0) := by unfold w2; split <;> omega
  have D3 : w3 (S' (22 + f) 0) = 0 := by unfold w3; rw [if_neg (by omega)]
  have D30 : 0 ≤ w3 (S (22 + f) 0) := by unfold w3; split <;> omega
  have D5 : rv (S (6 + n) 0) = 0 := by unfold rv; rw [if_neg (by omega), if_neg (by omega)]
  have D5' : rv (S' (6 + n) 0) = 0 := by unfold rv; rw [if_neg (by omega), if_neg (by omega)]
  exact Hang_one (S' := S') (q' := q) hI hf (by omega) hn (by omega) ec (by omega) eo ⟨⟨by omega, by omega⟩, ⟨by omega, by omega⟩, ⟨by omega, by omega⟩, ⟨by omega, by omega⟩, ⟨by omega, by omega⟩, ⟨by omega, by omega⟩, ⟨by omega, by omega⟩, ⟨by omega, by omega⟩, ⟨by omega, by omega⟩, ⟨by omega, by omega⟩, ⟨by omega, by omega⟩⟩ (by omega) (by omega) (by omega) ⟨⟨by omega, by omega⟩, ⟨by omega, by omega⟩, ⟨by omega, by omega⟩, ⟨by omega, by omega⟩, ⟨by omega, by omega⟩, ⟨by omega, by omega⟩, ⟨by omega, by omega⟩, fun _ => by omega, fun _ => by omega, fun _ => by omega, fun _ => by omega, fun _ => by omega, fun _ => by omega, fun _ => by omega, fun _ => by omega, fun _ => by omega, fun _ => by omega, fun _ => by omega⟩ (by omega) ⟨⟨by omega, by omega⟩, by omega, ⟨by omega, by omega⟩, ⟨by omega, by omega⟩, by omega, ⟨by omega, by omega⟩, ⟨by omega, by omega⟩, fun _ => by omega, fun _ => by omega⟩ (Or.inl ⟨by omega, by omega, by omega⟩) (hX_no (by unfold hds; omega)) (fun z => by omega) (by omega) (by omega) (by omega) (by omega) (by omega)
set_option maxHeartbeats 8000000 in
theorem i_hang2 {f t : Nat} (hI : Inv q S) (hf : f < 4) (hn : n < 16) (ht : t < 16) (h7 : S (22 + f) 0 = 7 ∨ S (22 + f) 0 = 8) (ec : S (22 + f) 2 = (n : Int)) (et : S (22 + f) 9 = (t : Int)) (hon : S (6 + t) 1 = 0) : Inv q (lvc (bfr (lvc (up S (6 + n) 1 0) (6 + t) 0) (22 + f)) (6 + n) 0) := by
  have hl := hI.lkC f hf n hn (by omega) ec
  obtain ⟨hl6, hls⟩ := hl
  unfold smt at hls
  obtain ⟨hpt, hts⟩ := hI.lkT f hf t ht et
  have hct : ¬ t = n := hI.ne hf hn ht h7 ec et
  have g := hI.fin f hf
  unfold finOK at g
  have g1 : (0 ≤ S (22 + f) 1 ∧ S (22 + f) 1 < 16) := g.2.1
  have gl := lin_own (hI.lin n hn) (by omega)
  have glt := lin_tg (hI.lin t ht) (by omega)
  have h0 := hI.hd
  unfold hdOK at h0
  have N1 : ¬ 22 + f = 6 + n := by omega
  have N2 : ¬ 6 + n = 22 + f := by omega
  have N3 : ¬ 0 = 22 + f := by omega
  have N4 : ¬ 0 = 6 + n := by omega
  have M1 : ¬ 22 + f = 6 + t := by omega
  have M2 : ¬ 6 + t = 22 + f := by omega
  have M3 : ¬ 0 = 6 + t := by omega
  have M4 : ¬ 6 + n = 6 + t := by omega
  have M5 : ¬ 6 + t = 6 + n := by omega
  have M6 : ¬ n = t := fun z => hct z.symm
  have M7 : ¬ t = n := hct
  obtain ⟨S', eS⟩ : ∃ z : SS, z = lvc (bfr (lvc (up S (6 + n) 1 0) (6 + t) 0) (22 + f)) (6 + n) 0 := ⟨_, rfl⟩
  rw [← eS]
  have F0 : S' (22 + f) 0 = 0 := by rw [eS]; simp [upA, bcm, bfr, lvc, sndV, sndB, f_call, f_mt, N1, N2, N3, N4, M1, M2, M3, M4, M5, M6, M7]
  have F1 : S' (22 + f) 1 = S (22 + f) 1 := by rw [eS]; simp [upA, bcm, bfr, lvc, sndV, sndB, f_call, f_mt, N1, N2, N3, N4, M1, M2, M3, M4, M5, M6, M7]
  have F2 : S' (22 + f) 2 = -6 := by rw [eS]; simp [upA, bcm, bfr, lvc, sndV, sndB, f_call, f_mt, N1, N2, N3, N4, M1, M2, M3, M4, M5, M6, M7]
  have F3 : S' (22 + f) 3 = 0 := by rw [eS]; simp [upA, bcm, bfr, lvc, sndV, sndB, f_call, f_mt, N1, N2, N3, N4, M1, M2, M3, M4, M5, M6, M7]
  have F4 : S' (22 + f) 4 = -6 := by rw [eS]; simp [upA, bcm, bfr, lvc, sndV, sndB, f_call, f_mt, N1, N2, N3, N4, M1, M2, M3, M4, M5, M6, M7]
  have F5 : S' (22 + f) 5 = 0 := by rw [eS]; simp [upA, bcm, bfr, lvc, sndV, sndB, f_call, f_mt, N1, N2, N3, N4, M1, M2, M3, M4, M5, M6, M7]
  have F6 : S' (22 + f) 6 = 0 := by rw [eS]; simp [upA, bcm, bfr, lvc, sndV, sndB, f_call, f_mt, N1, N2, N3, N4, M1, M2, M3, M4, M5, M6, M7]
  have F7 : S' (22 + f) 7 = 0 := by rw [eS]; simp [upA, bcm, bfr, lvc, sndV, sndB, f_call, f_mt, N1, N2, N3, N4, M1, M2, M3, M4, M5, M6, M7]
  have F8 : S' (22 + f) 8 = 0 := by rw [eS]; simp [upA, bcm, bfr, lvc, sndV, sndB, f_call, f_mt, N1, N2, N3, N4, M1, M2, M3, M4, M5, M6, M7]
  have F9 : S' (22 + f) 9 = -6 := by rw [eS]; simp [upA, bcm, bfr, lvc, sndV, sndB, f_call, f_mt, N1, N2, N3, N4, M1, M2, M3, M4, M5, M6, M7]
  have L0 : S' (6 + n) 0 = 0 := by rw [eS]; simp [upA, bcm, bfr, lvc, sndV, sndB, f_call, f_mt, N1, N2, N3, N4, M1, M2, M3, M4, M5, M6, M7]
  have L1 : S' (6 + n) 1 = 0 := by rw [eS]; simp [upA, bcm, bfr, lvc, sndV, sndB, f_call, f_mt, N1, N2, N3, N4, M1, M2, M3, M4, M5, M6, M7]
  have L2 : S' (6 + n) 2 = S (6 + n) 2 := by rw [eS]; simp [upA, bcm, bfr, lvc, sndV, sndB, f_call, f_mt, N1, N2, N3, N4, M1, M2, M3, M4, M5, M6, M7]
  have L3 : S' (6 + n) 3 = S (6 + n) 3 := by rw [eS]; simp [upA, bcm, bfr, lvc, sndV, sndB, f_call, f_mt, N1, N2, N3, N4, M1, M2, M3, M4, M5, M6, M7]
  have L5 : S' (6 + n) 5 = 0 := by rw [eS]; simp [upA, bcm, bfr, lvc, sndV, sndB, f_call, f_mt, N1, N2, N3, N4, M1, M2, M3, M4, M5, M6, M7]
  have L6 : S' (6 + n) 6 = -6 := by rw [eS]; simp [upA, bcm, bfr, lvc, sndV, sndB, f_call, f_mt, N1, N2, N3, N4, M1, M2, M3, M4, M5, M6, M7]
  have L7 : S' (6 + n) 7 = S (6 + n) 7 := by rw [eS]; simp [upA, bcm, bfr, lvc, sndV, sndB, f_call, f_mt, N1, N2, N3, N4, M1, M2, M3, M4, M5, M6, M7]
  have L8 : S' (6 + n) 8 = 0 := by rw [eS]; simp [upA, bcm, bfr, lvc, sndV, sndB, f_call, f_mt, N1, N2, N3, N4, M1, M2, M3, M4, M5, M6, M7]
  have T0 : S' (6 + t) 0 = 0 := by rw [eS]; simp [upA, bcm, bfr, lvc, sndV, sndB, f_call, f_mt, N1, N2, N3, N4, M1, M2, M3, M4, M5, M6, M7]
  have T1 : S' (6 + t) 1 = S (6 + t) 1 := by rw [eS]; simp [upA, bcm, bfr, lvc, sndV, sndB, f_call, f_mt, N1, N2, N3, N4, M1, M2, M3, M4, M5, M6, M7]
  have T2 : S' (6 + t) 2 = S (6 + t) 2 := by rw [eS]; simp [upA, bcm, bfr, lvc, sndV, sndB, f_call, f_mt, N1, N2, N3, N4, M1, M2, M3, M4, M5, M6, M7]
  have T3 : S' (6 + t) 3 = S (6 + t) 3 := by rw [eS]; simp [upA, bcm, bfr, lvc, sndV, sndB, f_call, f_mt, N1, N2, N3, N4, M1, M2, M3, M4, M5, M6, M7]
  have T5 : S' (6 + t) 5 = 0 := by rw [eS]; simp [upA, bcm, bfr, lvc, sndV, sndB, f_call, f_mt, N1, N2, N3, N4, M1, M2, M3, M4, M5, M6, M7]
  have T6 : S' (6 + t) 6 = -6 := by rw [eS]; simp [upA, bcm, bfr, lvc, sndV, sndB, f_call, f_mt, N1, N2, N3, N4, M1, M2, M3, M4, M5, M6, M7]
  have T7 : S' (6 + t) 7 = S (6 + t) 7 := by rw [eS]; simp [upA, bcm, bfr, lvc, sndV, sndB, f_call, f_mt, N1, N2, N3, N4, M1, M2, M3, M4, M5, M6, M7]
  have T8 : S' (6 + t) 8 = 0 := by rw [eS]; simp [upA, bcm, bfr, lvc, sndV, sndB, f_call, f_mt, N1, N2, N3, N4, M1, M2, M3, M4, M5, M6, M7]
  have H5 : S' 0 5 = S 0 5 := by rw [eS]; simp [upA, bcm, bfr, lvc, sndV, sndB, f_call, f_mt, N1, N2, N3, N4, M1, M2, M3, M4, M5, M6, M7]
  have H6 : S' 0 6 = S 0 6 := by rw [eS]; simp [upA, bcm, bfr, lvc, sndV, sndB, f_call, f_mt, N1, N2, N3, N4, M1, M2, M3, M4, M5, M6, M7]
  have H7 : S' 0 7 = S 0 7 := by rw [eS]; simp [upA, bcm, bfr, lvc, sndV, sndB, f_call, f_mt, N1, N2, N3, N4, M1, M2, M3, M4, M5, M6, M7]
  have H8 : S' 0 8 = S 0 8 := by rw [eS]; simp [upA, bcm, bfr, lvc, sndV, sndB, f_call, f_mt, N1, N2, N3, N4, M1, M2, M3, M4, M5, M6, M7]
  have H9 : S' 0 9 = S 0 9 := by rw [eS]; simp [upA, bcm, bfr, lvc, sndV, sndB, f_call, f_mt, N1, N2, N3, N4, M1, M2, M3, M4, M5, M6, M7]
  have H10 : S' 0 10 = S 0 10 := by rw [eS]; simp [upA, bcm, bfr, lvc, sndV, sndB, f_call, f_mt, N1, N2, N3, N4, M1, M2, M3, M4, M5, M6, M7]
  have H11 : S' 0 11 = S 0 11 := by rw [eS]; simp [upA, bcm, bfr, lvc, sndV, sndB, f_call, f_mt, N1, N2, N3, N4, M1, M2, M3, M4, M5, M6, M7]
  have H12 : S' 0 12 = S 0 12 := by rw [eS]; simp [upA, bcm, bfr, lvc, sndV, sndB, f_call, f_mt, N1, N2, N3, N4, M1, M2, M3, M4, M5, M6, M7]
  have H13 : S' 0 13 = S 0 13 := by rw [eS]; simp [upA, bcm, bfr, lvc, sndV, sndB, f_call, f_mt, N1, N2, N3, N4, M1, M2, M3, M4, M5, M6, M7]
  have H14 : S' 0 14 = S 0 14 := by rw [eS]; simp [upA, bcm, bfr, lvc, sndV, sndB, f_call, f_mt, N1, N2, N3, N4, M1, M2, M3, M4, M5, M6, M7]
  have H15 : S' 0 15 = S 0 15 := by rw [eS]; simp [upA, bcm, bfr, lvc, sndV, sndB, f_call, f_mt, N1, N2, N3, N4, M1, M2, M3, M4, M5, M6, M7]
  have eo : ∀ k, ¬ k = 22 + f → ¬ k = 6 + n → ¬ k = 6 + t → ¬ k = 0 → ∀ j, S' k j = S k j := fun k a b d e j => by rw [eS]; simp [upA, bcm, bfr, lvc, a, b, d, e]
  clear eS g
  have D1 : w1 (S' (6 + n) 0) = 0 := by unfold w1; rw [if_neg (by omega)]
  have D1t : w1 (S' (6 + t) 0) = 0 := by unfold w1; rw [if_neg (by omega)]
  have D0 : 0 ≤ w1 (S (6 + n) 0) := by unfold w1; split <;> omega
  have D0t : 0 ≤ w1 (S (6 + t) 0) := by unfold w1; split <;> omega
  have D2 : w2 (S' (22 + f) 0) = 0 := by unfold w2; rw [if_neg (by omega)]
  have D20 : 0 ≤ w2 (S (22 + f) 0) := by unfold w2; split <;> omega
  have D3 : w3 (S' (22 + f) 0) = 0 := by unfold w3; rw [if_neg (by omega)]
  have D30 : 0 ≤ w3 (S (22 + f) 0) := by unfold w3; split <;> omega
  have D5 : rv (S (6 + n) 0) = -1 := by unfold rv; rw [if_neg (by omega), if_pos (by omega)]
  have D5' : rv (S' (6 + n) 0) = 0 := by unfold rv; rw [if_neg (by omega), if_neg (by omega)]
  have D6 : rv (S (6 + t) 0) = 1 := by unfold rv; rw [if_pos (by omega)]
  have D6' : rv (S' (6 + t) 0) = 0 := by unfold rv; rw [if_neg (by omega), if_neg (by omega)]
  exact Hang_two (S' := S') (q' := q) (t := t) hI hf (by omega) hn ht hct (by omega) ec (Or.inl hpt) (fun _ => et) eo ⟨⟨by omega, by omega⟩, ⟨by omega, by omega⟩, ⟨by omega, by omega⟩, ⟨by omega, by omega⟩, ⟨by omega, by omega⟩, ⟨by omega, by omega⟩, ⟨by omega, by omega⟩, ⟨by omega, by omega⟩, ⟨by omega, by omega⟩, ⟨by omega, by omega⟩, ⟨by omega, by omega⟩⟩ (by omega) (by omega) (by omega) ⟨⟨by omega, by omega⟩, ⟨by omega, by omega⟩, ⟨by omega, by omega⟩, ⟨by omega, by omega⟩, ⟨by omega, by omega⟩, ⟨by omega, by omega⟩, ⟨by omega, by omega⟩, fun _ => by omega, fun _ => by omega, fun _ => by omega, fun _ => by omega, fun _ => by omega, fun _ => by omega, fun _ => by omega, fun _ => by omega, fun _ => by omega, fun _ => by omega, fun _ => by omega⟩ ⟨⟨by omega, by omega⟩, by omega, ⟨by omega, by omega⟩, ⟨by omega, by omega⟩, by omega, ⟨by omega, by omega⟩, ⟨by omega, by omega⟩, fun _ => by omega, fun _ => by omega⟩ ⟨⟨by omega, by omega⟩, by omega, ⟨by omega, by omega⟩, ⟨by omega, by omega⟩, by omega, ⟨by omega, by omega⟩, ⟨by omega, by omega⟩, fun _ => by omega, fun _ => by omega⟩ (Or.inl ⟨by omega, by omega, by omega⟩) (Or.inl ⟨by omega, by omega, by omega, by omega⟩) (hX_no (by unfold hds; omega)) (by omega) (by omega) (by omega) (by omega) (by omega) (by omega) (by omega)
set_option maxHeartbeats 8000000 in
theorem i_hang3 {f t : Nat} (hI : Inv q S) (hf : f < 4) (hn : n < 16) (ht : t < 16) (h7 : S (22 + f) 0 = 7 ∨ S (22 + f) 0 = 8) (ec : S (22 + f) 2 = (n : Int)) (et : S (22 + f) 9 = (t : Int)) (hon : ¬ S (6 + t) 1 = 0) : Inv q (lvc (bfr (lvc (up (up S (6 + n) 1 0) (6 + t) 3 6) (6 + t) 10) (22 + f)) (6 + n) 0) := by
  have hl := hI.lkC f hf n hn (by omega) ec
  obtain ⟨hl6, hls⟩ := hl
  unfold smt at hls
  obtain ⟨hpt, hts⟩ := hI.lkT f hf t ht et
  have hct : ¬ t = n := hI.ne hf hn ht h7 ec et
  have g := hI.fin f hf
  unfold finOK at g
  have g1 : (0 ≤ S (22 + f) 1 ∧ S (22 + f) 1 < 16) := g.2.1
  have gl := lin_own (hI.lin n hn) (by omega)
  have glt := lin_tg (hI.lin t ht) (by omega)
  have h0 := hI.hd
  unfold hdOK at h0
  have N1 : ¬ 22 + f = 6 + n := by omega
  have N2 : ¬ 6 + n = 22 + f := by omega
  have N3 : ¬ 0 = 22 + f := by omega
  have N4 : ¬ 0 = 6 + n := by omega
  have M1 : ¬ 22 + f = 6 + t := by omega
  have M2 : ¬ 6 + t = 22 + f := by omega
  have M3 : ¬ 0 = 6 + t := by omega
  have M4 : ¬ 6 + n = 6 + t := by omega
  have M5 : ¬ 6 + t = 6 + n := by omega
  have M6 : ¬ n = t := fun z => hct z.symm
  have M7 : ¬ t = n := hct
  obtain ⟨S', eS⟩ : ∃ z : SS, z = lvc (bfr (lvc (up (up S (6 + n) 1 0) (6 + t) 3 6) (6 + t) 10) (22 + f)) (6 + n) 0 := ⟨_, rfl⟩
  rw [← eS]
  have F0 : S' (22 + f) 0 = 0 := by rw [eS]; simp [upA, bcm, bfr, lvc, sndV, sndB, f_call, f_mt, N1, N2, N3, N4, M1, M2, M3, M4, M5, M6, M7]
  have F1 : S' (22 + f) 1 = S (22 + f) 1 := by rw [eS]; simp [upA, bcm, bfr, lvc, sndV, sndB, f_call, f_mt, N1, N2, N3, N4, M1, M2, M3, M4, M5, M6, M7]
  have F2 : S' (22 + f) 2 = -6 := by rw [eS]; simp [upA, bcm, bfr, lvc, sndV, sndB, f_call, f_mt, N1, N2, N3, N4, M1, M2, M3, M4, M5, M6, M7]
  have F3 : S' (22 + f) 3 = 0 := by rw [eS]; simp [upA, bcm, bfr, lvc, sndV, sndB, f_call, f_mt, N1, N2, N3, N4, M1, M2, M3, M4, M5, M6, M7]
  have F4 : S' (22 + f) 4 = -6 := by rw [eS]; simp [upA, bcm, bfr, lvc, sndV, sndB, f_call, f_mt, N1, N2, N3, N4, M1, M2, M3, M4, M5, M6, M7]
  have F5 : S' (22 + f) 5 = 0 := by rw [eS]; simp [upA, bcm, bfr, lvc, sndV, sndB, f_call, f_mt, N1, N2, N3, N4, M1, M2, M3, M4, M5, M6, M7]
  have F6 : S' (22 + f) 6 = 0 := by rw [eS]; simp [upA, bcm, bfr, lvc, sndV, sndB, f_call, f_mt, N1, N2, N3, N4, M1, M2, M3, M4, M5, M6, M7]
  have F7 : S' (22 + f) 7 = 0 := by rw [eS]; simp [upA, bcm, bfr, lvc, sndV, sndB, f_call, f_mt, N1, N2, N3, N4, M1, M2, M3, M4, M5, M6, M7]
  have F8 : S' (22 + f) 8 = 0 := by rw [eS]; simp [upA, bcm, bfr, lvc, sndV, sndB, f_call, f_mt, N1, N2, N3, N4, M1, M2, M3, M4, M5, M6, M7]
  have F9 : S' (22 + f) 9 = -6 := by rw [eS]; simp [upA, bcm, bfr, lvc, sndV, sndB, f_call, f_mt, N1, N2, N3, N4, M1, M2, M3, M4, M5, M6, M7]
  have L0 : S' (6 + n) 0 = 0 := by rw [eS]; simp [upA, bcm, bfr, lvc, sndV, sndB, f_call, f_mt, N1, N2, N3, N4, M1, M2, M3, M4, M5, M6, M7]
  have L1 : S' (6 + n) 1 = 0 := by rw [eS]; simp [upA, bcm, bfr, lvc, sndV, sndB, f_call, f_mt, N1, N2, N3, N4, M1, M2, M3, M4, M5, M6, M7]
  have L2 : S' (6 + n) 2 = S (6 + n) 2 := by rw [eS]; simp [upA, bcm, bfr, lvc, sndV, sndB, f_call, f_mt, N1, N2, N3, N4, M1, M2, M3, M4, M5, M6, M7]
  have L3 : S' (6 + n) 3 = S (6 + n) 3 := by rw [eS]; simp [upA, bcm, bfr, lvc, sndV, sndB, f_call, f_mt, N1, N2, N3, N4, M1, M2, M3, M4, M5, M6, M7]
  have L5 : S' (6 + n) 5 = 0 := by rw [eS]; simp [upA, bcm, bfr, lvc, sndV, sndB, f_call, f_mt, N1, N2, N3, N4, M1, M2, M3, M4, M5, M6, M7]
  have L6 : S' (6 + n) 6 = -6 := by rw [eS]; simp [upA, bcm, bfr, lvc, sndV, sndB, f_call, f_mt, N1, N2, N3, N4, M1, M2, M3, M4, M5, M6, M7]
  have L7 : S' (6 + n) 7 = S (6 + n) 7 := by rw [eS]; simp [upA, bcm, bfr, lvc, sndV, sndB, f_call, f_mt, N1, N2, N3, N4, M1, M2, M3, M4, M5, M6, M7]
  have L8 : S' (6 + n) 8 = 0 := by rw [eS]; simp [upA, bcm, bfr, lvc, sndV, sndB, f_call, f_mt, N1, N2, N3, N4, M1, M2, M3, M4, M5, M6, M7]
  have T0 : S' (6 + t) 0 = 10 := by rw [eS]; simp [upA, bcm, bfr, lvc, sndV, sndB, f_call, f_mt, N1, N2, N3, N4, M1, M2, M3, M4, M5, M6, M7]
  have T1 : S' (6 + t) 1 = S (6 + t) 1 := by rw [eS]; simp [upA, bcm, bfr, lvc, sndV, sndB, f_call, f_mt, N1, N2, N3, N4, M1, M2, M3, M4, M5, M6, M7]
  have T2 : S' (6 + t) 2 = S (6 + t) 2 := by rw [eS]; simp [upA, bcm, bfr, lvc, sndV, sndB, f_call, f_mt, N1, N2, N3, N4, M1, M2, M3, M4, M5, M6, M7]
  have T3 : S' (6 + t) 3 = 6 := by rw [eS]; simp [upA, bcm, bfr, lvc, sndV, sndB, f_call, f_mt, N1, N2, N3, N4, M1, M2, M3, M4, M5, M6, M7]
  have T5 : S' (6 + t) 5 = 0 := by rw [eS]; simp [upA, bcm, bfr, lvc, sndV, sndB, f_call, f_mt, N1, N2, N3, N4, M1, M2, M3, M4, M5, M6, M7]
  have T6 : S' (6 + t) 6 = -6 := by rw [eS]; simp [upA, bcm, bfr, lvc, sndV, sndB, f_call, f_mt, N1, N2, N3, N4, M1, M2, M3, M4, M5, M6, M7]
  have T7 : S' (6 + t) 7 = S (6 + t) 7 := by rw [eS]; simp [upA, bcm, bfr, lvc, sndV, sndB, f_call, f_mt, N1, N2, N3, N4, M1, M2, M3, M4, M5, M6, M7]
  have T8 : S' (6 + t) 8 = 0 := by rw [eS]; simp [upA, bcm, bfr, lvc, sndV, sndB, f_call, f_mt, N1, N2, N3, N4, M1, M2, M3, M4, M5, M6, M7]
  have H5 : S' 0 5 = S 0 5 := by rw [eS]; simp [upA, bcm, bfr, lvc, sndV, sndB, f_call, f_mt, N1, N2, N3, N4, M1, M2, M3, M4, M5, M6, M7]
  have H6 : S' 0 6 = S 0 6 := by rw [eS]; simp [upA, bcm, bfr, lvc, sndV, sndB, f_call, f_mt, N1, N2, N3, N4, M1, M2, M3, M4, M5, M6, M7]
  have H7 : S' 0 7 = S 0 7 := by rw [eS]; simp [upA, bcm, bfr, lvc, sndV, sndB, f_call, f_mt, N1, N2, N3, N4, M1, M2, M3, M4, M5, M6, M7]
  have H8 : S' 0 8 = S 0 8 := by rw [eS]; simp [upA, bcm, bfr, lvc, sndV, sndB, f_call, f_mt, N1, N2, N3, N4, M1, M2, M3, M4, M5, M6, M7]
  have H9 : S' 0 9 = S 0 9 := by rw [eS]; simp [upA, bcm, bfr, lvc, sndV, sndB, f_call, f_mt, N1, N2, N3, N4, M1, M2, M3, M4, M5, M6, M7]
  have H10 : S' 0 10 = S 0 10 := by rw [eS]; simp [upA, bcm, bfr, lvc, sndV, sndB, f_call, f_mt, N1, N2, N3, N4, M1, M2, M3, M4, M5, M6, M7]
  have H11 : S' 0 11 = S 0 11 := by rw [eS]; simp [upA, bcm, bfr, lvc, sndV, sndB, f_call, f_mt, N1, N2, N3, N4, M1, M2, M3, M4, M5, M6, M7]
  have H12 : S' 0 12 = S 0 12 := by rw [eS]; simp [upA, bcm, bfr, lvc, sndV, sndB, f_call, f_mt, N1, N2, N3, N4, M1, M2, M3, M4, M5, M6, M7]
  have H13 : S' 0 13 = S 0 13 := by rw [eS]; simp [upA, bcm, bfr, lvc, sndV, sndB, f_call, f_mt, N1, N2, N3, N4, M1, M2, M3, M4, M5, M6, M7]
  have H14 : S' 0 14 = S 0 14 := by rw [eS]; simp [upA, bcm, bfr, lvc, sndV, sndB, f_call, f_mt, N1, N2, N3, N4, M1, M2, M3, M4, M5, M6, M7]
  have H15 : S' 0 15 = S 0 15 := by rw [eS]; simp [upA, bcm, bfr, lvc, sndV, sndB, f_call, f_mt, N1, N2, N3, N4, M1, M2, M3, M4, M5, M6, M7]
  have eo : ∀ k, ¬ k = 22 + f → ¬ k = 6 + n → ¬ k = 6 + t → ¬ k = 0 → ∀ j, S' k j = S k j := fun k a b d e j => by rw [eS]; simp [upA, bcm, bfr, lvc, a, b, d, e]
  clear eS g
  have D1 : w1 (S' (6 + n) 0) = 0 := by unfold w1; rw [if_neg (by omega)]
  have D1t : w1 (S' (6 + t) 0) = 0 := by unfold w1; rw [if_neg (by omega)]
  have D0 : 0 ≤ w1 (S (6 + n) 0) := by unfold w1; split <;> omega
  have D0t : 0 ≤ w1 (S (6 + t) 0) := by unfold w1; split <;> omega
  have D2 : w2 (S' (22 + f) 0) = 0 := by unfold w2; rw [if_neg (by omega)]
  have D20 : 0 ≤ w2 (S (22 + f) 0) := by unfold w2; split <;> omega
  have D3 : w3 (S' (22 + f) 0) = 0 := by unfold w3; rw [if_neg (by omega)]
  have D30 : 0 ≤ w3 (S (22 + f) 0) := by unfold w3; split <;> omega
  have D5 : rv (S (6 + n) 0) = -1 := by unfold rv; rw [if_neg (by omega), if_pos (by omega)]
  have D5' : rv (S' (6 + n) 0) = 0 := by unfold rv; rw [if_neg (by omega), if_neg (by omega)]
  have D6 : rv (S (6 + t) 0) = 1 := by unfold rv; rw [if_pos (by omega)]
  have D6' : rv (S' (6 + t) 0) = 0 := by unfold rv; rw [if_neg (by omega), if_neg (by omega)]
  exact Hang_two (S' := S') (q' := q) (t := t) hI hf (by omega) hn ht hct (by omega) ec (Or.inl hpt) (fun _ => et) eo ⟨⟨by omega, by omega⟩, ⟨by omega, by omega⟩, ⟨by omega, by omega⟩, ⟨by omega, by omega⟩, ⟨by omega, by omega⟩, ⟨by omega, by omega⟩, ⟨by omega, by omega⟩, ⟨by omega, by omega⟩, ⟨by omega, by omega⟩, ⟨by omega, by omega⟩, ⟨by omega, by omega⟩⟩ (by omega) (by omega) (by omega) ⟨⟨by omega, by omega⟩, ⟨by omega, by omega⟩, ⟨by omega, by omega⟩, ⟨by omega, by omega⟩, ⟨by omega, by omega⟩, ⟨by omega, by omega⟩, ⟨by omega, by omega⟩, fun _ => by omega, fun _ => by omega, fun _ => by omega, fun _ => by omega, fun _ => by omega, fun _ => by omega, fun _ => by omega, fun _ => by omega, fun _ => by omega, fun _ => by omega, fun _ => by omega⟩ ⟨⟨by omega, by omega⟩, by omega, ⟨by omega, by omega⟩, ⟨by omega, by omega⟩, by omega, ⟨by omega, by omega⟩, ⟨by omega, by omega⟩, fun _ => by omega, fun _ => by omega⟩ ⟨⟨by omega, by omega⟩, by omega, ⟨by omega, by omega⟩, ⟨by omega, by omega⟩, by omega, ⟨by omega, by omega⟩, ⟨by omega, by omega⟩, fun _ => by omega, fun _ => by omega⟩ (Or.inl ⟨by omega, by omega, by omega⟩) (Or.inl ⟨by omega, by omega, by omega, by omega⟩) (hX_no (by unfold hds; omega)) (by omega) (by omega) (by omega) (by omega) (by omega) (by omega) (by omega)
theorem i_hang (hI : Inv q S) (hn : n < 16) : Inv q (f_hang S (6 + n)) := by
  have hl := hI.lin n hn
  have n1 : ¬ 0 = 6 + n := by omega
  have hH := hI.hd
  unfold f_hang
  by_cases e : S (6 + n) 1 = 0
  · rw [if_pos e]; exact hI
  rw [if_neg e]
  by_cases c : S (6 + n) 0 = 5 ∨ S (6 + n) 0 = 7
  · rw [if_pos c]
    unfold linOK at hl
    refine Inv_same hI (by omega) hn (fun k a b j => by simp [upA, a]) (rowOK (P := hdOK q) (fun j => by simp [upA, n1]) hH) (by simp [upA, n1]) (by simp [upA, n1]) (by simp [upA, n1]) (by simp [upA, n1]) (by simp [upA, n1]) (by simp [upA, n1]) (by simp [upA]) (by simp [upA]) (by simp [upA]) (by simp [upA]) ?_
    unfold linOK
    simp [upA]
    omega
  rw [if_neg c]
  by_cases e6 : S (6 + n) 6 = -6
  · rw [if_pos e6]
    have d0 : 0 ≤ w1 (S (6 + n) 0) := by unfold w1; split <;> omega
    unfold linOK at hl
    refine Inv_line hI (by omega) hn (fun k a b j => by simp [upA, lvc, a]) (rowOK (P := hdOK q) (fun j => by simp [upA, lvc, n1]) hH) (by simp [upA, lvc, n1]) (by simp [upA, lvc, n1]) (by simp [upA, lvc, n1]) (by simp [upA, lvc, n1]) (by simp [upA, lvc, n1]) (by simp [upA, lvc, n1]) e6 (by simp [upA, lvc]) (by simp [upA, lvc]) ?_ (by simp [upA, lvc]) (by simp [upA, lvc]) (by simp [upA, lvc, n1, w1] at d0 ⊢; omega)
    unfold linOK
    simp [upA, lvc]
    omega
  rw [if_neg e6]
  rcases hI.lkL n hn with g | ⟨f, hf, g1, g2, g3⟩
  · exact absurd g.1 e6
  have ec : S (22 + f) 2 = (n : Int) := by
    rcases g3 with g3 | g3
    · exact g3
    · have := (hI.lkT f hf n hn g3).2
      omega
  rw [g1, Int.toNat_natCast]
  have hz := hI.fin f hf
  by_cases h7 : S (22 + f) 0 = 7 ∨ S (22 + f) 0 = 8
  · obtain ⟨t, ht, et, et2, gt, gs⟩ := hI.tgt hf h7
    have hct := hI.ne hf hn ht h7 ec et
    have ex : lxI (S (22 + f) 9) = 6 + t := by rw [lxI, if_neg (by omega), et2]
    rw [ex, f_rel, if_pos (by simp [upA]; omega)]
    have e1 : up S (6 + n) 1 0 (6 + t) 1 = S (6 + t) 1 := by rw [upA, if_neg (by omega)]
    rw [e1]
    by_cases hon : S (6 + t) 1 = 0
    · rw [if_pos hon]; exact i_hang2 hI hf hn ht h7 ec et hon
    · rw [if_neg hon]; exact i_hang3 hI hf hn ht h7 ec et hon
  · unfold finOK at hz
    have ex : lxI (S (22 + f) 9) = 3 := by rw [lxI, if_pos (by omega)]
    have e3 : up S (6 + n) 1 0 3 0 = 0 := by rw [upA, if_neg (by omega)]; exact hI.no
    rw [ex, f_rel, if_neg (by omega)]
    exact i_hang1 hI hf hn g2 ec (by omega)
/-- the line's own state behind hang -/
theorem hang_0 (hI : Inv q S) (hn : n < 16) (e : ¬ S (6 + n) 1 = 0) : f_hang S (6 + n) (6 + n) 0 = if S (6 + n) 0 = 5 ∨ S (6 + n) 0 = 7 then S (6 + n) 0 else 0 := by
  unfold f_hang
  rw [if_neg e]
  split
  · simp [upA]
  · split <;> simp [upA, lvc]
end HG
