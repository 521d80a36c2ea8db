section ST
variable {q : Int} {S : SS} {f c t : Nat}
set_option maxHeartbeats 8000000 in
theorem i_talk (hI : Inv q S) (hf : f < 4) (hc : c < 16) (ec : S (22 + f) 2 = (c : Int)) (ht : t < 16) (et : S (22 + f) 9 = (t : Int)) (hm : S (22 + f) 0 = 8) : Inv (q + 1) (f_talk S (22 + f) (6 + c) (6 + t)) := by
  have hl := hI.lkC f hf c hc (by omega) ec
  obtain ⟨hl6, hls⟩ := hl
  unfold smt at hls
  obtain ⟨hpt0, hts⟩ := hI.lkT f hf t ht et
  have hpt : S (6 + t) 6 = (f : Int) ∨ S (6 + t) 6 = -6 := Or.inl hpt0
  have hct : ¬ t = c := hI.ne hf hc ht (by omega) ec et
  have g := fin_78 (hI.fin f hf) (by omega)
  have gl := lin_own (hI.lin c hc) (by omega)
  have glt := lin_tg (hI.lin t ht) (by omega)
  have h0 := hI.hd
  unfold hdOK at h0
  have hnf : ¬ S 0 5 ≤ (f : Int) := fun z => absurd (hI.off f hf z) (by omega)
  have hlc : S (6 + c) 0 = 6 := by omega
  have hlt : S (6 + t) 0 = 7 := by omega
  clear hls hts
  have N1 : ¬ 22 + f = 6 + c := by omega
  have N2 : ¬ 6 + c = 22 + f := by omega
  have N3 : ¬ 0 = 22 + f := by omega
  have N4 : ¬ 0 = 6 + c := by omega
  have M1 : ¬ 22 + f = 6 + t := by omega
  have M2 : ¬ 6 + t = 22 + f := by omega
  have M3 : ¬ 0 = 6 + t := by omega
  have M4 : ¬ 6 + c = 6 + t := by omega
  have M5 : ¬ 6 + t = 6 + c := by omega
  have M6 : ¬ c = t := fun z => hct z.symm
  have M7 : ¬ t = c := hct
  unfold f_talk f_mt
  split
  · rename_i e
    split
    · rename_i e2
      split
      · rename_i e3
        obtain ⟨S', eS⟩ : ∃ z : SS, z = up (up (up S (22 + f) 8 (S (22 + f) 8 + 1)) (22 + f) 7 (S (22 + f) 7 + 1)) (6 + c) 2 (S (6 + c) 2 + 1) := ⟨_, rfl⟩
        rw [← eS]
        have F0 : S' (22 + f) 0 = S (22 + f) 0 := by rw [eS]; simp [upA, bcm, bfr, lvc, sndV, sndB, f_call, f_mt, N1, N2, N3, N4, M1, M2, M3, M4, M5, M6, M7]
        have F1 : S' (22 + f) 1 = S (22 + f) 1 := by rw [eS]; simp [upA, bcm, bfr, lvc, sndV, sndB, f_call, f_mt, N1, N2, N3, N4, M1, M2, M3, M4, M5, M6, M7]
        have F2 : S' (22 + f) 2 = S (22 + f) 2 := by rw [eS]; simp [upA, bcm, bfr, lvc, sndV, sndB, f_call, f_mt, N1, N2, N3, N4, M1, M2, M3, M4, M5, M6, M7]
        have F3 : S' (22 + f) 3 = S (22 + f) 3 := by rw [eS]; simp [upA, bcm, bfr, lvc, sndV, sndB, f_call, f_mt, N1, N2, N3, N4, M1, M2, M3, M4, M5, M6, M7]
        have F4 : S' (22 + f) 4 = S (22 + f) 4 := by rw [eS]; simp [upA, bcm, bfr, lvc, sndV, sndB, f_call, f_mt, N1, N2, N3, N4, M1, M2, M3, M4, M5, M6, M7]
        have F5 : S' (22 + f) 5 = S (22 + f) 5 := by rw [eS]; simp [upA, bcm, bfr, lvc, sndV, sndB, f_call, f_mt, N1, N2, N3, N4, M1, M2, M3, M4, M5, M6, M7]
        have F6 : S' (22 + f) 6 = S (22 + f) 6 := by rw [eS]; simp [upA, bcm, bfr, lvc, sndV, sndB, f_call, f_mt, N1, N2, N3, N4, M1, M2, M3, M4, M5, M6, M7]
        have F7 : S' (22 + f) 7 = S (22 + f) 7 + 1 := by rw [eS]; simp [upA, bcm, bfr, lvc, sndV, sndB, f_call, f_mt, N1, N2, N3, N4, M1, M2, M3, M4, M5, M6, M7]
        have F8 : S' (22 + f) 8 = S (22 + f) 8 + 1 := by rw [eS]; simp [upA, bcm, bfr, lvc, sndV, sndB, f_call, f_mt, N1, N2, N3, N4, M1, M2, M3, M4, M5, M6, M7]
        have F9 : S' (22 + f) 9 = S (22 + f) 9 := by rw [eS]; simp [upA, bcm, bfr, lvc, sndV, sndB, f_call, f_mt, N1, N2, N3, N4, M1, M2, M3, M4, M5, M6, M7]
        have L0 : S' (6 + c) 0 = S (6 + c) 0 := by rw [eS]; simp [upA, bcm, bfr, lvc, sndV, sndB, f_call, f_mt, N1, N2, N3, N4, M1, M2, M3, M4, M5, M6, M7]
        have L1 : S' (6 + c) 1 = S (6 + c) 1 := by rw [eS]; simp [upA, bcm, bfr, lvc, sndV, sndB, f_call, f_mt, N1, N2, N3, N4, M1, M2, M3, M4, M5, M6, M7]
        have L2 : S' (6 + c) 2 = S (6 + c) 2 + 1 := by rw [eS]; simp [upA, bcm, bfr, lvc, sndV, sndB, f_call, f_mt, N1, N2, N3, N4, M1, M2, M3, M4, M5, M6, M7]
        have L3 : S' (6 + c) 3 = S (6 + c) 3 := by rw [eS]; simp [upA, bcm, bfr, lvc, sndV, sndB, f_call, f_mt, N1, N2, N3, N4, M1, M2, M3, M4, M5, M6, M7]
        have L5 : S' (6 + c) 5 = S (6 + c) 5 := by rw [eS]; simp [upA, bcm, bfr, lvc, sndV, sndB, f_call, f_mt, N1, N2, N3, N4, M1, M2, M3, M4, M5, M6, M7]
        have L6 : S' (6 + c) 6 = S (6 + c) 6 := by rw [eS]; simp [upA, bcm, bfr, lvc, sndV, sndB, f_call, f_mt, N1, N2, N3, N4, M1, M2, M3, M4, M5, M6, M7]
        have L7 : S' (6 + c) 7 = S (6 + c) 7 := by rw [eS]; simp [upA, bcm, bfr, lvc, sndV, sndB, f_call, f_mt, N1, N2, N3, N4, M1, M2, M3, M4, M5, M6, M7]
        have L8 : S' (6 + c) 8 = S (6 + c) 8 := by rw [eS]; simp [upA, bcm, bfr, lvc, sndV, sndB, f_call, f_mt, N1, N2, N3, N4, M1, M2, M3, M4, M5, M6, M7]
        have T0 : S' (6 + t) 0 = S (6 + t) 0 := by rw [eS]; simp [upA, bcm, bfr, lvc, sndV, sndB, f_call, f_mt, N1, N2, N3, N4, M1, M2, M3, M4, M5, M6, M7]
        have T1 : S' (6 + t) 1 = S (6 + t) 1 := by rw [eS]; simp [upA, bcm, bfr, lvc, sndV, sndB, f_call, f_mt, N1, N2, N3, N4, M1, M2, M3, M4, M5, M6, M7]
        have T2 : S' (6 + t) 2 = S (6 + t) 2 := by rw [eS]; simp [upA, bcm, bfr, lvc, sndV, sndB, f_call, f_mt, N1, N2, N3, N4, M1, M2, M3, M4, M5, M6, M7]
        have T3 : S' (6 + t) 3 = S (6 + t) 3 := by rw [eS]; simp [upA, bcm, bfr, lvc, sndV, sndB, f_call, f_mt, N1, N2, N3, N4, M1, M2, M3, M4, M5, M6, M7]
        have T5 : S' (6 + t) 5 = S (6 + t) 5 := by rw [eS]; simp [upA, bcm, bfr, lvc, sndV, sndB, f_call, f_mt, N1, N2, N3, N4, M1, M2, M3, M4, M5, M6, M7]
        have T6 : S' (6 + t) 6 = S (6 + t) 6 := by rw [eS]; simp [upA, bcm, bfr, lvc, sndV, sndB, f_call, f_mt, N1, N2, N3, N4, M1, M2, M3, M4, M5, M6, M7]
        have T7 : S' (6 + t) 7 = S (6 + t) 7 := by rw [eS]; simp [upA, bcm, bfr, lvc, sndV, sndB, f_call, f_mt, N1, N2, N3, N4, M1, M2, M3, M4, M5, M6, M7]
        have T8 : S' (6 + t) 8 = S (6 + t) 8 := by rw [eS]; simp [upA, bcm, bfr, lvc, sndV, sndB, f_call, f_mt, N1, N2, N3, N4, M1, M2, M3, M4, M5, M6, M7]
        have H5 : S' 0 5 = S 0 5 := by rw [eS]; simp [upA, bcm, bfr, lvc, sndV, sndB, f_call, f_mt, N1, N2, N3, N4, M1, M2, M3, M4, M5, M6, M7]
        have H6 : S' 0 6 = S 0 6 := by rw [eS]; simp [upA, bcm, bfr, lvc, sndV, sndB, f_call, f_mt, N1, N2, N3, N4, M1, M2, M3, M4, M5, M6, M7]
        have H7 : S' 0 7 = S 0 7 := by rw [eS]; simp [upA, bcm, bfr, lvc, sndV, sndB, f_call, f_mt, N1, N2, N3, N4, M1, M2, M3, M4, M5, M6, M7]
        have H8 : S' 0 8 = S 0 8 := by rw [eS]; simp [upA, bcm, bfr, lvc, sndV, sndB, f_call, f_mt, N1, N2, N3, N4, M1, M2, M3, M4, M5, M6, M7]
        have H9 : S' 0 9 = S 0 9 := by rw [eS]; simp [upA, bcm, bfr, lvc, sndV, sndB, f_call, f_mt, N1, N2, N3, N4, M1, M2, M3, M4, M5, M6, M7]
        have H10 : S' 0 10 = S 0 10 := by rw [eS]; simp [upA, bcm, bfr, lvc, sndV, sndB, f_call, f_mt, N1, N2, N3, N4, M1, M2, M3, M4, M5, M6, M7]
        have H11 : S' 0 11 = S 0 11 := by rw [eS]; simp [upA, bcm, bfr, lvc, sndV, sndB, f_call, f_mt, N1, N2, N3, N4, M1, M2, M3, M4, M5, M6, M7]
        have H12 : S' 0 12 = S 0 12 := by rw [eS]; simp [upA, bcm, bfr, lvc, sndV, sndB, f_call, f_mt, N1, N2, N3, N4, M1, M2, M3, M4, M5, M6, M7]
        have H13 : S' 0 13 = S 0 13 := by rw [eS]; simp [upA, bcm, bfr, lvc, sndV, sndB, f_call, f_mt, N1, N2, N3, N4, M1, M2, M3, M4, M5, M6, M7]
        have H14 : S' 0 14 = S 0 14 := by rw [eS]; simp [upA, bcm, bfr, lvc, sndV, sndB, f_call, f_mt, N1, N2, N3, N4, M1, M2, M3, M4, M5, M6, M7]
        have H15 : S' 0 15 = S 0 15 := by rw [eS]; simp [upA, bcm, bfr, lvc, sndV, sndB, f_call, f_mt, N1, N2, N3, N4, M1, M2, M3, M4, M5, M6, M7]
        have eo : ∀ k, ¬ k = 22 + f → ¬ k = 6 + c → ¬ k = 6 + t → ¬ k = 0 → ∀ j, S' k j = S k j := fun k a b d e j => by rw [eS]; simp [upA, bcm, bfr, lvc, sndV, sndB, f_call, f_mt, a, b, d, e]
        have hfo : ∀ j : Nat, j < 4 → ¬ j = f → ∀ i, S' (22 + j) i = S (22 + j) i := fun j hj e i => eo _ (by omega) (by omega) (by omega) (by omega) i
        clear eS
        have D1 : w1 (S' (6 + c) 0) ≤ w1 (S (6 + c) 0) := by unfold w1; split <;> first | omega | (split <;> omega)
        have D1t : w1 (S' (6 + t) 0) ≤ w1 (S (6 + t) 0) := by unfold w1; split <;> first | omega | (split <;> omega)
        have D2 : w2 (S' (22 + f) 0) + (S' 0 11 - S 0 11) ≤ w2 (S (22 + f) 0) := by unfold w2; split <;> first | omega | (split <;> omega)
        have D3 : w3 (S' (22 + f) 0) + (S' 0 12 - S 0 12) ≤ w3 (S (22 + f) 0) + (S' 0 11 - S 0 11) := by unfold w3; split <;> first | omega | (split <;> omega)
        have RL : rv (S (6 + c) 0) = -1 := by unfold rv; rw [if_neg (by omega), if_pos (by omega)]
        have RLp : rv (S' (6 + c) 0) = -1 := by unfold rv; rw [if_neg (by omega), if_pos (by omega)]
        have RT : rv (S (6 + t) 0) = 1 := by unfold rv; rw [if_pos (by omega)]
        have RTp : rv (S' (6 + t) 0) = 1 := by unfold rv; rw [if_pos (by omega)]
        have D5 : rv (S (6 + c) 0) + rv (S (6 + t) 0) = rv (S' (6 + c) 0) + rv (S' (6 + t) 0) := by omega
        exact Step_two (S' := S') (q' := q + 1) (t := t) hI hf (by omega) hc ht hct (by omega) ec hpt (fun z => by omega) eo ⟨⟨by omega, by omega⟩, ⟨by omega, by omega⟩, ⟨by omega, by omega⟩, ⟨by omega, by omega⟩, ⟨by omega, by omega⟩, ⟨by omega, by omega⟩, ⟨by omega, by omega⟩, ⟨by omega, by omega⟩, ⟨by omega, by omega⟩, ⟨by omega, by omega⟩, ⟨by omega, by omega⟩⟩ (by omega) (by omega) (by omega) ⟨⟨by omega, by omega⟩, ⟨by omega, by omega⟩, ⟨by omega, by omega⟩, ⟨by omega, by omega⟩, ⟨by omega, by omega⟩, ⟨by omega, by omega⟩, ⟨by omega, by omega⟩, fun _ => by omega, fun _ => by omega, fun _ => by omega, fun _ => by omega, fun _ => by omega, fun _ => by omega, fun _ => by omega, fun _ => by omega, fun _ => by omega, fun _ => by omega, fun _ => by omega⟩ ⟨⟨by omega, by omega⟩, by omega, ⟨by omega, by omega⟩, ⟨by omega, by omega⟩, by omega, ⟨by omega, by omega⟩, ⟨by omega, by omega⟩, fun _ => by omega, fun _ => by omega⟩ ⟨⟨by omega, by omega⟩, by omega, ⟨by omega, by omega⟩, ⟨by omega, by omega⟩, by omega, ⟨by omega, by omega⟩, ⟨by omega, by omega⟩, fun _ => by omega, fun _ => by omega⟩ (Or.inr ⟨by omega, by omega, by omega, by unfold smt; omega⟩) (Or.inr ⟨by omega, by omega, by omega⟩) (hX_old hI hf hfo (by unfold hds; omega) (by omega) (by omega)) (by omega) (by omega) (by omega) (by omega) (by omega) (by omega) D5
      · rename_i e3
        obtain ⟨S', eS⟩ : ∃ z : SS, z = up (up S (22 + f) 8 (S (22 + f) 8 + 1)) (22 + f) 7 (S (22 + f) 7 + 1) := ⟨_, rfl⟩
        rw [← eS]
        have F0 : S' (22 + f) 0 = S (22 + f) 0 := by rw [eS]; simp [upA, bcm, bfr, lvc, sndV, sndB, f_call, f_mt, N1, N2, N3, N4, M1, M2, M3, M4, M5, M6, M7]
        have F1 : S' (22 + f) 1 = S (22 + f) 1 := by rw [eS]; simp [upA, bcm, bfr, lvc, sndV, sndB, f_call, f_mt, N1, N2, N3, N4, M1, M2, M3, M4, M5, M6, M7]
        have F2 : S' (22 + f) 2 = S (22 + f) 2 := by rw [eS]; simp [upA, bcm, bfr, lvc, sndV, sndB, f_call, f_mt, N1, N2, N3, N4, M1, M2, M3, M4, M5, M6, M7]
        have F3 : S' (22 + f) 3 = S (22 + f) 3 := by rw [eS]; simp [upA, bcm, bfr, lvc, sndV, sndB, f_call, f_mt, N1, N2, N3, N4, M1, M2, M3, M4, M5, M6, M7]
        have F4 : S' (22 + f) 4 = S (22 + f) 4 := by rw [eS]; simp [upA, bcm, bfr, lvc, sndV, sndB, f_call, f_mt, N1, N2, N3, N4, M1, M2, M3, M4, M5, M6, M7]
        have F5 : S' (22 + f) 5 = S (22 + f) 5 := by rw [eS]; simp [upA, bcm, bfr, lvc, sndV, sndB, f_call, f_mt, N1, N2, N3, N4, M1, M2, M3, M4, M5, M6, M7]
        have F6 : S' (22 + f) 6 = S (22 + f) 6 := by rw [eS]; simp [upA, bcm, bfr, lvc, sndV, sndB, f_call, f_mt, N1, N2, N3, N4, M1, M2, M3, M4, M5, M6, M7]
        have F7 : S' (22 + f) 7 = S (22 + f) 7 + 1 := by rw [eS]; simp [upA, bcm, bfr, lvc, sndV, sndB, f_call, f_mt, N1, N2, N3, N4, M1, M2, M3, M4, M5, M6, M7]
        have F8 : S' (22 + f) 8 = S (22 + f) 8 + 1 := by rw [eS]; simp [upA, bcm, bfr, lvc, sndV, sndB, f_call, f_mt, N1, N2, N3, N4, M1, M2, M3, M4, M5, M6, M7]
        have F9 : S' (22 + f) 9 = S (22 + f) 9 := by rw [eS]; simp [upA, bcm, bfr, lvc, sndV, sndB, f_call, f_mt, N1, N2, N3, N4, M1, M2, M3, M4, M5, M6, M7]
        have L0 : S' (6 + c) 0 = S (6 + c) 0 := by rw [eS]; simp [upA, bcm, bfr, lvc, sndV, sndB, f_call, f_mt, N1, N2, N3, N4, M1, M2, M3, M4, M5, M6, M7]
        have L1 : S' (6 + c) 1 = S (6 + c) 1 := by rw [eS]; simp [upA, bcm, bfr, lvc, sndV, sndB, f_call, f_mt, N1, N2, N3, N4, M1, M2, M3, M4, M5, M6, M7]
        have L2 : S' (6 + c) 2 = S (6 + c) 2 := by rw [eS]; simp [upA, bcm, bfr, lvc, sndV, sndB, f_call, f_mt, N1, N2, N3, N4, M1, M2, M3, M4, M5, M6, M7]
        have L3 : S' (6 + c) 3 = S (6 + c) 3 := by rw [eS]; simp [upA, bcm, bfr, lvc, sndV, sndB, f_call, f_mt, N1, N2, N3, N4, M1, M2, M3, M4, M5, M6, M7]
        have L5 : S' (6 + c) 5 = S (6 + c) 5 := by rw [eS]; simp [upA, bcm, bfr, lvc, sndV, sndB, f_call, f_mt, N1, N2, N3, N4, M1, M2, M3, M4, M5, M6, M7]
        have L6 : S' (6 + c) 6 = S (6 + c) 6 := by rw [eS]; simp [upA, bcm, bfr, lvc, sndV, sndB, f_call, f_mt, N1, N2, N3, N4, M1, M2, M3, M4, M5, M6, M7]
        have L7 : S' (6 + c) 7 = S (6 + c) 7 := by rw [eS]; simp [upA, bcm, bfr, lvc, sndV, sndB, f_call, f_mt, N1, N2, N3, N4, M1, M2, M3, M4, M5, M6, M7]
        have L8 : S' (6 + c) 8 = S (6 + c) 8 := by rw [eS]; simp [upA, bcm, bfr, lvc, sndV, sndB, f_call, f_mt, N1, N2, N3, N4, M1, M2, M3, M4, M5, M6, M7]
        have T0 : S' (6 + t) 0 = S (6 + t) 0 := by rw [eS]; simp [upA, bcm, bfr, lvc, sndV, sndB, f_call, f_mt, N1, N2, N3, N4, M1, M2, M3, M4, M5, M6, M7]
        have T1 : S' (6 + t) 1 = S (6 + t) 1 := by rw [eS]; simp [upA, bcm, bfr, lvc, sndV, sndB, f_call, f_mt, N1, N2, N3, N4, M1, M2, M3, M4, M5, M6, M7]
        have T2 : S' (6 + t) 2 = S (6 + t) 2 := by rw [eS]; simp [upA, bcm, bfr, lvc, sndV, sndB, f_call, f_mt, N1, N2, N3, N4, M1, M2, M3, M4, M5, M6, M7]
        have T3 : S' (6 + t) 3 = S (6 + t) 3 := by rw [eS]; simp [upA, bcm, bfr, lvc, sndV, sndB, f_call, f_mt, N1, N2, N3, N4, M1, M2, M3, M4, M5, M6, M7]
        have T5 : S' (6 + t) 5 = S (6 + t) 5 := by rw [eS]; simp [upA, bcm, bfr, lvc, sndV, sndB, f_call, f_mt, N1, N2, N3, N4, M1, M2, M3, M4, M5, M6, M7]
        have T6 : S' (6 + t) 6 = S (6 + t) 6 := by rw [eS]; simp [upA, bcm, bfr, lvc, sndV, sndB, f_call, f_mt, N1, N2, N3, N4, M1, M2, M3, M4, M5, M6, M7]
        have T7 : S' (6 + t) 7 = S (6 + t) 7 := by rw [eS]; simp [upA, bcm, bfr, lvc, sndV, sndB, f_call, f_mt, N1, N2, N3, N4, M1, M2, M3, M4, M5, M6, M7]
        have T8 : S' (6 + t) 8 = S (6 + t) 8 := by rw [eS]; simp [upA, bcm, bfr, lvc, sndV, sndB, f_call, f_mt, N1, N2, N3, N4, M1, M2, M3, M4, M5, M6, M7]
        have H5 : S' 0 5 = S 0 5 := by rw [eS]; simp [upA, bcm, bfr, lvc, sndV, sndB, f_call, f_mt, N1, N2, N3, N4, M1, M2, M3, M4, M5, M6, M7]
        have H6 : S' 0 6 = S 0 6 := by rw [eS]; simp [upA, bcm, bfr, lvc, sndV, sndB, f_call, f_mt, N1, N2, N3, N4, M1, M2, M3, M4, M5, M6, M7]
        have H7 : S' 0 7 = S 0 7 := by rw [eS]; simp [upA, bcm, bfr, lvc, sndV, sndB, f_call, f_mt, N1, N2, N3, N4, M1, M2, M3, M4, M5, M6, M7]
        have H8 : S' 0 8 = S 0 8 := by rw [eS]; simp [upA, bcm, bfr, lvc, sndV, sndB, f_call, f_mt, N1, N2, N3, N4, M1, M2, M3, M4, M5, M6, M7]
        have H9 : S' 0 9 = S 0 9 := by rw [eS]; simp [upA, bcm, bfr, lvc, sndV, sndB, f_call, f_mt, N1, N2, N3, N4, M1, M2, M3, M4, M5, M6, M7]
        have H10 : S' 0 10 = S 0 10 := by rw [eS]; simp [upA, bcm, bfr, lvc, sndV, sndB, f_call, f_mt, N1, N2, N3, N4, M1, M2, M3, M4, M5, M6, M7]
        have H11 : S' 0 11 = S 0 11 := by rw [eS]; simp [upA, bcm, bfr, lvc, sndV, sndB, f_call, f_mt, N1, N2, N3, N4, M1, M2, M3, M4, M5, M6, M7]
        have H12 : S' 0 12 = S 0 12 := by rw [eS]; simp [upA, bcm, bfr, lvc, sndV, sndB, f_call, f_mt, N1, N2, N3, N4, M1, M2, M3, M4, M5, M6, M7]
        have H13 : S' 0 13 = S 0 13 := by rw [eS]; simp [upA, bcm, bfr, lvc, sndV, sndB, f_call, f_mt, N1, N2, N3, N4, M1, M2, M3, M4, M5, M6, M7]
        have H14 : S' 0 14 = S 0 14 := by rw [eS]; simp [upA, bcm, bfr, lvc, sndV, sndB, f_call, f_mt, N1, N2, N3, N4, M1, M2, M3, M4, M5, M6, M7]
        have H15 : S' 0 15 = S 0 15 := by rw [eS]; simp [upA, bcm, bfr, lvc, sndV, sndB, f_call, f_mt, N1, N2, N3, N4, M1, M2, M3, M4, M5, M6, M7]
        have eo : ∀ k, ¬ k = 22 + f → ¬ k = 6 + c → ¬ k = 6 + t → ¬ k = 0 → ∀ j, S' k j = S k j := fun k a b d e j => by rw [eS]; simp [upA, bcm, bfr, lvc, sndV, sndB, f_call, f_mt, a, b, d, e]
        have hfo : ∀ j : Nat, j < 4 → ¬ j = f → ∀ i, S' (22 + j) i = S (22 + j) i := fun j hj e i => eo _ (by omega) (by omega) (by omega) (by omega) i
        clear eS
        have D1 : w1 (S' (6 + c) 0) ≤ w1 (S (6 + c) 0) := by unfold w1; split <;> first | omega | (split <;> omega)
        have D1t : w1 (S' (6 + t) 0) ≤ w1 (S (6 + t) 0) := by unfold w1; split <;> first | omega | (split <;> omega)
        have D2 : w2 (S' (22 + f) 0) + (S' 0 11 - S 0 11) ≤ w2 (S (22 + f) 0) := by unfold w2; split <;> first | omega | (split <;> omega)
        have D3 : w3 (S' (22 + f) 0) + (S' 0 12 - S 0 12) ≤ w3 (S (22 + f) 0) + (S' 0 11 - S 0 11) := by unfold w3; split <;> first | omega | (split <;> omega)
        have RL : rv (S (6 + c) 0) = -1 := by unfold rv; rw [if_neg (by omega), if_pos (by omega)]
        have RLp : rv (S' (6 + c) 0) = -1 := by unfold rv; rw [if_neg (by omega), if_pos (by omega)]
        have RT : rv (S (6 + t) 0) = 1 := by unfold rv; rw [if_pos (by omega)]
        have RTp : rv (S' (6 + t) 0) = 1 := by unfold rv; rw [if_pos (by omega)]
        have D5 : rv (S (6 + c) 0) + rv (S (6 + t) 0) = rv (S' (6 + c) 0) + rv (S' (6 + t) 0) := by omega
        exact Step_two (S' := S') (q' := q + 1) (t := t) hI hf (by omega) hc ht hct (by omega) ec hpt (fun z => by omega) eo ⟨⟨by omega, by omega⟩, ⟨by omega, by omega⟩, ⟨by omega, by omega⟩, ⟨by omega, by omega⟩, ⟨by omega, by omega⟩, ⟨by omega, by omega⟩, ⟨by omega, by omega⟩, ⟨by omega, by omega⟩, ⟨by omega, by omega⟩, ⟨by omega, by omega⟩, ⟨by omega, by omega⟩⟩ (by omega) (by omega) (by omega) ⟨⟨by omega, by omega⟩, ⟨by omega, by omega⟩, ⟨by omega, by omega⟩, ⟨by omega, by omega⟩, ⟨by omega, by omega⟩, ⟨by omega, by omega⟩, ⟨by omega, by omega⟩, fun _ => by omega, fun _ => by omega, fun _ => by omega, fun _ => by omega, fun _ => by omega, fun _ => by omega, fun _ => by omega, fun _ => by omega, fun _ => by omega, fun _ => by omega, fun _ => by omega⟩ ⟨⟨by omega, by omega⟩, by omega, ⟨by omega, by omega⟩, ⟨by omega, by omega⟩, by omega, ⟨by omega, by omega⟩, ⟨by omega, by omega⟩, fun _ => by omega, fun _ => by omega⟩ ⟨⟨by omega, by omega⟩, by omega, ⟨by omega, by omega⟩, ⟨by omega, by omega⟩, by omega, ⟨by omega, by omega⟩, ⟨by omega, by omega⟩, fun _ => by omega, fun _ => by omega⟩ (Or.inr ⟨by omega, by omega, by omega, by unfold smt; omega⟩) (Or.inr ⟨by omega, by omega, by omega⟩) (hX_old hI hf hfo (by unfold hds; omega) (by omega) (by omega)) (by omega) (by omega) (by omega) (by omega) (by omega) (by omega) D5
    · rename_i e2
      obtain ⟨S', eS⟩ : ∃ z : SS, z = lvc (lvc (up (bfr (up S (22 + f) 8 (S (22 + f) 8 + 1)) (22 + f)) (6 + c) 3 6) (6 + c) 10) (6 + t) 0 := ⟨_, rfl⟩
      rw [← eS]
      have F0 : S' (22 + f) 0 = 0 := by rw [eS]; simp [upA, bcm, bfr, lvc, sndV, sndB, f_call, f_mt, N1, N2, N3, N4, M1, M2, M3, M4, M5, M6, M7]
      have F1 : S' (22 + f) 1 = S (22 + f) 1 := by rw [eS]; simp [upA, bcm, bfr, lvc, sndV, sndB, f_call, f_mt, N1, N2, N3, N4, M1, M2, M3, M4, M5, M6, M7]
      have F2 : S' (22 + f) 2 = -6 := by rw [eS]; simp [upA, bcm, bfr, lvc, sndV, sndB, f_call, f_mt, N1, N2, N3, N4, M1, M2, M3, M4, M5, M6, M7]
      have F3 : S' (22 + f) 3 = 0 := by rw [eS]; simp [upA, bcm, bfr, lvc, sndV, sndB, f_call, f_mt, N1, N2, N3, N4, M1, M2, M3, M4, M5, M6, M7]
      have F4 : S' (22 + f) 4 = -6 := by rw [eS]; simp [upA, bcm, bfr, lvc, sndV, sndB, f_call, f_mt, N1, N2, N3, N4, M1, M2, M3, M4, M5, M6, M7]
      have F5 : S' (22 + f) 5 = 0 := by rw [eS]; simp [upA, bcm, bfr, lvc, sndV, sndB, f_call, f_mt, N1, N2, N3, N4, M1, M2, M3, M4, M5, M6, M7]
      have F6 : S' (22 + f) 6 = 0 := by rw [eS]; simp [upA, bcm, bfr, lvc, sndV, sndB, f_call, f_mt, N1, N2, N3, N4, M1, M2, M3, M4, M5, M6, M7]
      have F7 : S' (22 + f) 7 = 0 := by rw [eS]; simp [upA, bcm, bfr, lvc, sndV, sndB, f_call, f_mt, N1, N2, N3, N4, M1, M2, M3, M4, M5, M6, M7]
      have F8 : S' (22 + f) 8 = 0 := by rw [eS]; simp [upA, bcm, bfr, lvc, sndV, sndB, f_call, f_mt, N1, N2, N3, N4, M1, M2, M3, M4, M5, M6, M7]
      have F9 : S' (22 + f) 9 = -6 := by rw [eS]; simp [upA, bcm, bfr, lvc, sndV, sndB, f_call, f_mt, N1, N2, N3, N4, M1, M2, M3, M4, M5, M6, M7]
      have L0 : S' (6 + c) 0 = 10 := by rw [eS]; simp [upA, bcm, bfr, lvc, sndV, sndB, f_call, f_mt, N1, N2, N3, N4, M1, M2, M3, M4, M5, M6, M7]
      have L1 : S' (6 + c) 1 = S (6 + c) 1 := by rw [eS]; simp [upA, bcm, bfr, lvc, sndV, sndB, f_call, f_mt, N1, N2, N3, N4, M1, M2, M3, M4, M5, M6, M7]
      have L2 : S' (6 + c) 2 = S (6 + c) 2 := by rw [eS]; simp [upA, bcm, bfr, lvc, sndV, sndB, f_call, f_mt, N1, N2, N3, N4, M1, M2, M3, M4, M5, M6, M7]
      have L3 : S' (6 + c) 3 = 6 := by rw [eS]; simp [upA, bcm, bfr, lvc, sndV, sndB, f_call, f_mt, N1, N2, N3, N4, M1, M2, M3, M4, M5, M6, M7]
      have L5 : S' (6 + c) 5 = 0 := by rw [eS]; simp [upA, bcm, bfr, lvc, sndV, sndB, f_call, f_mt, N1, N2, N3, N4, M1, M2, M3, M4, M5, M6, M7]
      have L6 : S' (6 + c) 6 = -6 := by rw [eS]; simp [upA, bcm, bfr, lvc, sndV, sndB, f_call, f_mt, N1, N2, N3, N4, M1, M2, M3, M4, M5, M6, M7]
      have L7 : S' (6 + c) 7 = S (6 + c) 7 := by rw [eS]; simp [upA, bcm, bfr, lvc, sndV, sndB, f_call, f_mt, N1, N2, N3, N4, M1, M2, M3, M4, M5, M6, M7]
      have L8 : S' (6 + c) 8 = 0 := by rw [eS]; simp [upA, bcm, bfr, lvc, sndV, sndB, f_call, f_mt, N1, N2, N3, N4, M1, M2, M3, M4, M5, M6, M7]
      have T0 : S' (6 + t) 0 = 0 := by rw [eS]; simp [upA, bcm, bfr, lvc, sndV, sndB, f_call, f_mt, N1, N2, N3, N4, M1, M2, M3, M4, M5, M6, M7]
      have T1 : S' (6 + t) 1 = S (6 + t) 1 := by rw [eS]; simp [upA, bcm, bfr, lvc, sndV, sndB, f_call, f_mt, N1, N2, N3, N4, M1, M2, M3, M4, M5, M6, M7]
      have T2 : S' (6 + t) 2 = S (6 + t) 2 := by rw [eS]; simp [upA, bcm, bfr, lvc, sndV, sndB, f_call, f_mt, N1, N2, N3, N4, M1, M2, M3, M4, M5, M6, M7]
      have T3 : S' (6 + t) 3 = S (6 + t) 3 := by rw [eS]; simp [upA, bcm, bfr, lvc, sndV, sndB, f_call, f_mt, N1, N2, N3, N4, M1, M2, M3, M4, M5, M6, M7]
      have T5 : S' (6 + t) 5 = 0 := by rw [eS]; simp [upA, bcm, bfr, lvc, sndV, sndB, f_call, f_mt, N1, N2, N3, N4, M1, M2, M3, M4, M5, M6, M7]
      have T6 : S' (6 + t) 6 = -6 := by rw [eS]; simp [upA, bcm, bfr, lvc, sndV, sndB, f_call, f_mt, N1, N2, N3, N4, M1, M2, M3, M4, M5, M6, M7]
      have T7 : S' (6 + t) 7 = S (6 + t) 7 := by rw [eS]; simp [upA, bcm, bfr, lvc, sndV, sndB, f_call, f_mt, N1, N2, N3, N4, M1, M2, M3, M4, M5, M6, M7]
      have T8 : S' (6 + t) 8 = 0 := by rw [eS]; simp [upA, bcm, bfr, lvc, sndV, sndB, f_call, f_mt, N1, N2, N3, N4, M1, M2, M3, M4, M5, M6, M7]
      have H5 : S' 0 5 = S 0 5 := by rw [eS]; simp [upA, bcm, bfr, lvc, sndV, sndB, f_call, f_mt, N1, N2, N3, N4, M1, M2, M3, M4, M5, M6, M7]
      have H6 : S' 0 6 = S 0 6 := by rw [eS]; simp [upA, bcm, bfr, lvc, sndV, sndB, f_call, f_mt, N1, N2, N3, N4, M1, M2, M3, M4, M5, M6, M7]
      have H7 : S' 0 7 = S 0 7 := by rw [eS]; simp [upA, bcm, bfr, lvc, sndV, sndB, f_call, f_mt, N1, N2, N3, N4, M1, M2, M3, M4, M5, M6, M7]
      have H8 : S' 0 8 = S 0 8 := by rw [eS]; simp [upA, bcm, bfr, lvc, sndV, sndB, f_call, f_mt, N1, N2, N3, N4, M1, M2, M3, M4, M5, M6, M7]
      have H9 : S' 0 9 = S 0 9 := by rw [eS]; simp [upA, bcm, bfr, lvc, sndV, sndB, f_call, f_mt, N1, N2, N3, N4, M1, M2, M3, M4, M5, M6, M7]
      have H10 : S' 0 10 = S 0 10 := by rw [eS]; simp [upA, bcm, bfr, lvc, sndV, sndB, f_call, f_mt, N1, N2, N3, N4, M1, M2, M3, M4, M5, M6, M7]
      have H11 : S' 0 11 = S 0 11 := by rw [eS]; simp [upA, bcm, bfr, lvc, sndV, sndB, f_call, f_mt, N1, N2, N3, N4, M1, M2, M3, M4, M5, M6, M7]
      have H12 : S' 0 12 = S 0 12 := by rw [eS]; simp [upA, bcm, bfr, lvc, sndV, sndB, f_call, f_mt, N1, N2, N3, N4, M1, M2, M3, M4, M5, M6, M7]
      have H13 : S' 0 13 = S 0 13 := by rw [eS]; simp [upA, bcm, bfr, lvc, sndV, sndB, f_call, f_mt, N1, N2, N3, N4, M1, M2, M3, M4, M5, M6, M7]
      have H14 : S' 0 14 = S 0 14 := by rw [eS]; simp [upA, bcm, bfr, lvc, sndV, sndB, f_call, f_mt, N1, N2, N3, N4, M1, M2, M3, M4, M5, M6, M7]
      have H15 : S' 0 15 = S 0 15 := by rw [eS]; simp [upA, bcm, bfr, lvc, sndV, sndB, f_call, f_mt, N1, N2, N3, N4, M1, M2, M3, M4, M5, M6, M7]
      have eo : ∀ k, ¬ k = 22 + f → ¬ k = 6 + c → ¬ k = 6 + t → ¬ k = 0 → ∀ j, S' k j = S k j := fun k a b d e j => by rw [eS]; simp [upA, bcm, bfr, lvc, sndV, sndB, f_call, f_mt, a, b, d, e]
      have hfo : ∀ j : Nat, j < 4 → ¬ j = f → ∀ i, S' (22 + j) i = S (22 + j) i := fun j hj e i => eo _ (by omega) (by omega) (by omega) (by omega) i
      clear eS
      have D1 : w1 (S' (6 + c) 0) ≤ w1 (S (6 + c) 0) := by unfold w1; split <;> first | omega | (split <;> omega)
      have D1t : w1 (S' (6 + t) 0) ≤ w1 (S (6 + t) 0) := by unfold w1; split <;> first | omega | (split <;> omega)
      have D2 : w2 (S' (22 + f) 0) + (S' 0 11 - S 0 11) ≤ w2 (S (22 + f) 0) := by unfold w2; split <;> first | omega | (split <;> omega)
      have D3 : w3 (S' (22 + f) 0) + (S' 0 12 - S 0 12) ≤ w3 (S (22 + f) 0) + (S' 0 11 - S 0 11) := by unfold w3; split <;> first | omega | (split <;> omega)
      have RL : rv (S (6 + c) 0) = -1 := by unfold rv; rw [if_neg (by omega), if_pos (by omega)]
      have RLp : rv (S' (6 + c) 0) = 0 := by unfold rv; rw [if_neg (by omega), if_neg (by omega)]
      have RT : rv (S (6 + t) 0) = 1 := by unfold rv; rw [if_pos (by omega)]
      have RTp : rv (S' (6 + t) 0) = 0 := by unfold rv; rw [if_neg (by omega), if_neg (by omega)]
      have D5 : rv (S (6 + c) 0) + rv (S (6 + t) 0) = rv (S' (6 + c) 0) + rv (S' (6 + t) 0) := by omega
      exact Step_two (S' := S') (q' := q + 1) (t := t) hI hf (by omega) hc ht hct (by omega) ec hpt (fun z => by omega) eo ⟨⟨by omega, by omega⟩, ⟨by omega, by omega⟩, ⟨by omega, by omega⟩, ⟨by omega, by omega⟩, ⟨by omega, by omega⟩, ⟨by omega, by omega⟩, ⟨by omega, by omega⟩, ⟨by omega, by omega⟩, ⟨by omega, by omega⟩, ⟨by omega, by omega⟩, ⟨by omega, by omega⟩⟩ (by omega) (by omega) (by omega) ⟨⟨by omega, by omega⟩, ⟨by omega, by omega⟩, ⟨by omega, by omega⟩, ⟨by omega, by omega⟩, ⟨by omega, by omega⟩, ⟨by omega, by omega⟩, ⟨by omega, by omega⟩, fun _ => by omega, fun _ => by omega, fun _ => by omega, fun _ => by omega, fun _ => by omega, fun _ => by omega, fun _ => by omega, fun _ => by omega, fun _ => by omega, fun _ => by omega, fun _ => by omega⟩ ⟨⟨by omega, by omega⟩, by omega, ⟨by omega, by omega⟩, ⟨by omega, by omega⟩, by omega, ⟨by omega, by omega⟩, ⟨by omega, by omega⟩, fun _ => by omega, fun _ => by omega⟩ ⟨⟨by omega, by omega⟩, by omega, ⟨by omega, by omega⟩, ⟨by omega, by omega⟩, by omega, ⟨by omega, by omega⟩, ⟨by omega, by omega⟩, fun _ => by omega, fun _ => by omega⟩ (Or.inl ⟨by omega, by omega, by omega⟩) (Or.inl ⟨by omega, by omega, by omega, by omega⟩) (hX_no (by unfold hds; omega)) (by omega) (by omega) (by omega) (by omega) (by omega) (by omega) D5
  · rename_i e
    split
    · rename_i e3
      obtain ⟨S', eS⟩ : ∃ z : SS, z = up (up (up S (22 + f) 8 0) (22 + f) 7 (S (22 + f) 7 + 1)) (6 + c) 2 (S (6 + c) 2 + 1) := ⟨_, rfl⟩
      rw [← eS]
      have F0 : S' (22 + f) 0 = S (22 + f) 0 := by rw [eS]; simp [upA, bcm, bfr, lvc, sndV, sndB, f_call, f_mt, N1, N2, N3, N4, M1, M2, M3, M4, M5, M6, M7]
      have F1 : S' (22 + f) 1 = S (22 + f) 1 := by rw [eS]; simp [upA, bcm, bfr, lvc, sndV, sndB, f_call, f_mt, N1, N2, N3, N4, M1, M2, M3, M4, M5, M6, M7]
      have F2 : S' (22 + f) 2 = S (22 + f) 2 := by rw [eS]; simp [upA, bcm, bfr, lvc, sndV, sndB, f_call, f_mt, N1, N2, N3, N4, M1, M2, M3, M4, M5, M6, M7]
      have F3 : S' (22 + f) 3 = S (22 + f) 3 := by rw [eS]; simp [upA, bcm, bfr, lvc, sndV, sndB, f_call, f_mt, N1, N2, N3, N4, M1, M2, M3, M4, M5, M6, M7]
      have F4 : S' (22 + f) 4 = S (22 + f) 4 := by rw [eS]; simp [upA, bcm, bfr, lvc, sndV, sndB, f_call, f_mt, N1, N2, N3, N4, M1, M2, M3, M4, M5, M6, M7]
      have F5 : S' (22 + f) 5 = S (22 + f) 5 := by rw [eS]; simp [upA, bcm, bfr, lvc, sndV, sndB, f_call, f_mt, N1, N2, N3, N4, M1, M2, M3, M4, M5, M6, M7]
      have F6 : S' (22 + f) 6 = S (22 + f) 6 := by rw [eS]; simp [upA, bcm, bfr, lvc, sndV, sndB, f_call, f_mt, N1, N2, N3, N4, M1, M2, M3, M4, M5, M6, M7]
      have F7 : S' (22 + f) 7 = S (22 + f) 7 + 1 := by rw [eS]; simp [upA, bcm, bfr, lvc, sndV, sndB, f_call, f_mt, N1, N2, N3, N4, M1, M2, M3, M4, M5, M6, M7]
      have F8 : S' (22 + f) 8 = 0 := by rw [eS]; simp [upA, bcm, bfr, lvc, sndV, sndB, f_call, f_mt, N1, N2, N3, N4, M1, M2, M3, M4, M5, M6, M7]
      have F9 : S' (22 + f) 9 = S (22 + f) 9 := by rw [eS]; simp [upA, bcm, bfr, lvc, sndV, sndB, f_call, f_mt, N1, N2, N3, N4, M1, M2, M3, M4, M5, M6, M7]
      have L0 : S' (6 + c) 0 = S (6 + c) 0 := by rw [eS]; simp [upA, bcm, bfr, lvc, sndV, sndB, f_call, f_mt, N1, N2, N3, N4, M1, M2, M3, M4, M5, M6, M7]
      have L1 : S' (6 + c) 1 = S (6 + c) 1 := by rw [eS]; simp [upA, bcm, bfr, lvc, sndV, sndB, f_call, f_mt, N1, N2, N3, N4, M1, M2, M3, M4, M5, M6, M7]
      have L2 : S' (6 + c) 2 = S (6 + c) 2 + 1 := by rw [eS]; simp [upA, bcm, bfr, lvc, sndV, sndB, f_call, f_mt, N1, N2, N3, N4, M1, M2, M3, M4, M5, M6, M7]
      have L3 : S' (6 + c) 3 = S (6 + c) 3 := by rw [eS]; simp [upA, bcm, bfr, lvc, sndV, sndB, f_call, f_mt, N1, N2, N3, N4, M1, M2, M3, M4, M5, M6, M7]
      have L5 : S' (6 + c) 5 = S (6 + c) 5 := by rw [eS]; simp [upA, bcm, bfr, lvc, sndV, sndB, f_call, f_mt, N1, N2, N3, N4, M1, M2, M3, M4, M5, M6, M7]
      have L6 : S' (6 + c) 6 = S (6 + c) 6 := by rw [eS]; simp [upA, bcm, bfr, lvc, sndV, sndB, f_call, f_mt, N1, N2, N3, N4, M1, M2, M3, M4, M5, M6, M7]
      have L7 : S' (6 + c) 7 = S (6 + c) 7 := by rw [eS]; simp [upA, bcm, bfr, lvc, sndV, sndB, f_call, f_mt, N1, N2, N3, N4, M1, M2, M3, M4, M5, M6, M7]
      have L8 : S' (6 + c) 8 = S (6 + c) 8 := by rw [eS]; simp [upA, bcm, bfr, lvc, sndV, sndB, f_call, f_mt, N1, N2, N3, N4, M1, M2, M3, M4, M5, M6, M7]
      have T0 : S' (6 + t) 0 = S (6 + t) 0 := by rw [eS]; simp [upA, bcm, bfr, lvc, sndV, sndB, f_call, f_mt, N1, N2, N3, N4, M1, M2, M3, M4, M5, M6, M7]
      have T1 : S' (6 + t) 1 = S (6 + t) 1 := by rw [eS]; simp [upA, bcm, bfr, lvc, sndV, sndB, f_call, f_mt, N1, N2, N3, N4, M1, M2, M3, M4, M5, M6, M7]
      have T2 : S' (6 + t) 2 = S (6 + t) 2 := by rw [eS]; simp [upA, bcm, bfr, lvc, sndV, sndB, f_call, f_mt, N1, N2, N3, N4, M1, M2, M3, M4, M5, M6, M7]
      have T3 : S' (6 + t) 3 = S (6 + t) 3 := by rw [eS]; simp [upA, bcm, bfr, lvc, sndV, sndB, f_call, f_mt, N1, N2, N3, N4, M1, M2, M3, M4, M5, M6, M7]
      have T5 : S' (6 + t) 5 = S (6 + t) 5 := by rw [eS]; simp [upA, bcm, bfr, lvc, sndV, sndB, f_call, f_mt, N1, N2, N3, N4, M1, M2, M3, M4, M5, M6, M7]
      have T6 : S' (6 + t) 6 = S (6 + t) 6 := by rw [eS]; simp [upA, bcm, bfr, lvc, sndV, sndB, f_call, f_mt, N1, N2, N3, N4, M1, M2, M3, M4, M5, M6, M7]
      have T7 : S' (6 + t) 7 = S (6 + t) 7 := by rw [eS]; simp [upA, bcm, bfr, lvc, sndV, sndB, f_call, f_mt, N1, N2, N3, N4, M1, M2, M3, M4, M5, M6, M7]
      have T8 : S' (6 + t) 8 = S (6 + t) 8 := by rw [eS]; simp [upA, bcm, bfr, lvc, sndV, sndB, f_call, f_mt, N1, N2, N3, N4, M1, M2, M3, M4, M5, M6, M7]
      have H5 : S' 0 5 = S 0 5 := by rw [eS]; simp [upA, bcm, bfr, lvc, sndV, sndB, f_call, f_mt, N1, N2, N3, N4, M1, M2, M3, M4, M5, M6, M7]
      have H6 : S' 0 6 = S 0 6 := by rw [eS]; simp [upA, bcm, bfr, lvc, sndV, sndB, f_call, f_mt, N1, N2, N3, N4, M1, M2, M3, M4, M5, M6, M7]
      have H7 : S' 0 7 = S 0 7 := by rw [eS]; simp [upA, bcm, bfr, lvc, sndV, sndB, f_call, f_mt, N1, N2, N3, N4, M1, M2, M3, M4, M5, M6, M7]
      have H8 : S' 0 8 = S 0 8 := by rw [eS]; simp [upA, bcm, bfr, lvc, sndV, sndB, f_call, f_mt, N1, N2, N3, N4, M1, M2, M3, M4, M5, M6, M7]
      have H9 : S' 0 9 = S 0 9 := by rw [eS]; simp [upA, bcm, bfr, lvc, sndV, sndB, f_call, f_mt, N1, N2, N3, N4, M1, M2, M3, M4, M5, M6, M7]
      have H10 : S' 0 10 = S 0 10 := by rw [eS]; simp [upA, bcm, bfr, lvc, sndV, sndB, f_call, f_mt, N1, N2, N3, N4, M1, M2, M3, M4, M5, M6, M7]
      have H11 : S' 0 11 = S 0 11 := by rw [eS]; simp [upA, bcm, bfr, lvc, sndV, sndB, f_call, f_mt, N1, N2, N3, N4, M1, M2, M3, M4, M5, M6, M7]
      have H12 : S' 0 12 = S 0 12 := by rw [eS]; simp [upA, bcm, bfr, lvc, sndV, sndB, f_call, f_mt, N1, N2, N3, N4, M1, M2, M3, M4, M5, M6, M7]
      have H13 : S' 0 13 = S 0 13 := by rw [eS]; simp [upA, bcm, bfr, lvc, sndV, sndB, f_call, f_mt, N1, N2, N3, N4, M1, M2, M3, M4, M5, M6, M7]
      have H14 : S' 0 14 = S 0 14 := by rw [eS]; simp [upA, bcm, bfr, lvc, sndV, sndB, f_call, f_mt, N1, N2, N3, N4, M1, M2, M3, M4, M5, M6, M7]
      have H15 : S' 0 15 = S 0 15 := by rw [eS]; simp [upA, bcm, bfr, lvc, sndV, sndB, f_call, f_mt, N1, N2, N3, N4, M1, M2, M3, M4, M5, M6, M7]
      have eo : ∀ k, ¬ k = 22 + f → ¬ k = 6 + c → ¬ k = 6 + t → ¬ k = 0 → ∀ j, S' k j = S k j := fun k a b d e j => by rw [eS]; simp [upA, bcm, bfr, lvc, sndV, sndB, f_call, f_mt, a, b, d, e]
      have hfo : ∀ j : Nat, j < 4 → ¬ j = f → ∀ i, S' (22 + j) i = S (22 + j) i := fun j hj e i => eo _ (by omega) (by omega) (by omega) (by omega) i
      clear eS
      have D1 : w1 (S' (6 + c) 0) ≤ w1 (S (6 + c) 0) := by unfold w1; split <;> first | omega | (split <;> omega)
      have D1t : w1 (S' (6 + t) 0) ≤ w1 (S (6 + t) 0) := by unfold w1; split <;> first | omega | (split <;> omega)
      have D2 : w2 (S' (22 + f) 0) + (S' 0 11 - S 0 11) ≤ w2 (S (22 + f) 0) := by unfold w2; split <;> first | omega | (split <;> omega)
      have D3 : w3 (S' (22 + f) 0) + (S' 0 12 - S 0 12) ≤ w3 (S (22 + f) 0) + (S' 0 11 - S 0 11) := by unfold w3; split <;> first | omega | (split <;> omega)
      have RL : rv (S (6 + c) 0) = -1 := by unfold rv; rw [if_neg (by omega), if_pos (by omega)]
      have RLp : rv (S' (6 + c) 0) = -1 := by unfold rv; rw [if_neg (by omega), if_pos (by omega)]
      have RT : rv (S (6 + t) 0) = 1 := by unfold rv; rw [if_pos (by omega)]
      have RTp : rv (S' (6 + t) 0) = 1 := by unfold rv; rw [if_pos (by omega)]
      have D5 : rv (S (6 + c) 0) + rv (S (6 + t) 0) = rv (S' (6 + c) 0) + rv (S' (6 + t) 0) := by omega
      exact Step_two (S' := S') (q' := q + 1) (t := t) hI hf (by omega) hc ht hct (by omega) ec hpt (fun z => by omega) eo ⟨⟨by omega, by omega⟩, ⟨by omega, by omega⟩, ⟨by omega, by omega⟩, ⟨by omega, by omega⟩, ⟨by omega, by omega⟩, ⟨by omega, by omega⟩, ⟨by omega, by omega⟩, ⟨by omega, by omega⟩, ⟨by omega, by omega⟩, ⟨by omega, by omega⟩, ⟨by omega, by omega⟩⟩ (by omega) (by omega) (by omega) ⟨⟨by omega, by omega⟩, ⟨by omega, by omega⟩, ⟨by omega, by omega⟩, ⟨by omega, by omega⟩, ⟨by omega, by omega⟩, ⟨by omega, by omega⟩, ⟨by omega, by omega⟩, fun _ => by omega, fun _ => by omega, fun _ => by omega, fun _ => by omega, fun _ => by omega, fun _ => by omega, fun _ => by omega, fun _ => by omega, fun _ => by omega, fun _ => by omega, fun _ => by omega⟩ ⟨⟨by omega, by omega⟩, by omega, ⟨by omega, by omega⟩, ⟨by omega, by omega⟩, by omega, ⟨by omega, by omega⟩, ⟨by omega, by omega⟩, fun _ => by omega, fun _ => by omega⟩ ⟨⟨by omega, by omega⟩, by omega, ⟨by omega, by omega⟩, ⟨by omega, by omega⟩, by omega, ⟨by omega, by omega⟩, ⟨by omega, by omega⟩, fun _ => by omega, fun _ => by omega⟩ (Or.inr ⟨by omega, by omega, by omega, by unfold smt; omega⟩) (Or.inr ⟨by omega, by omega, by omega⟩) (hX_old hI hf hfo (by unfold hds; omega) (by omega) (by omega)) (by omega) (by omega) (by omega) (by omega) (by omega) (by omega) D5
    · rename_i e3
      obtain ⟨S', eS⟩ : ∃ z : SS, z = up (up S (22 + f) 8 0) (22 + f) 7 (S (22 + f) 7 + 1) := ⟨_, rfl⟩
      rw [← eS]
      have F0 : S' (22 + f) 0 = S (22 + f) 0 := by rw [eS]; simp [upA, bcm, bfr, lvc, sndV, sndB, f_call, f_mt, N1, N2, N3, N4, M1, M2, M3, M4, M5, M6, M7]
      have F1 : S' (22 + f) 1 = S (22 + f) 1 := by rw [eS]; simp [upA, bcm, bfr, lvc, sndV, sndB, f_call, f_mt, N1, N2, N3, N4, M1, M2, M3, M4, M5, M6, M7]
      have F2 : S' (22 + f) 2 = S (22 + f) 2 := by rw [eS]; simp [upA, bcm, bfr, lvc, sndV, sndB, f_call, f_mt, N1, N2, N3, N4, M1, M2, M3, M4, M5, M6, M7]
      have F3 : S' (22 + f) 3 = S (22 + f) 3 := by rw [eS]; simp [upA, bcm, bfr, lvc, sndV, sndB, f_call, f_mt, N1, N2, N3, N4, M1, M2, M3, M4, M5, M6, M7]
      have F4 : S' (22 + f) 4 = S (22 + f) 4 := by rw [eS]; simp [upA, bcm, bfr, lvc, sndV, sndB, f_call, f_mt, N1, N2, N3, N4, M1, M2, M3, M4, M5, M6, M7]
      have F5 : S' (22 + f) 5 = S (22 + f) 5 := by rw [eS]; simp [upA, bcm, bfr, lvc, sndV, sndB, f_call, f_mt, N1, N2, N3, N4, M1, M2, M3, M4, M5, M6, M7]
      have F6 : S' (22 + f) 6 = S (22 + f) 6 := by rw [eS]; simp [upA, bcm, bfr, lvc, sndV, sndB, f_call, f_mt, N1, N2, N3, N4, M1, M2, M3, M4, M5, M6, M7]
      have F7 : S' (22 + f) 7 = S (22 + f) 7 + 1 := by rw [eS]; simp [upA, bcm, bfr, lvc, sndV, sndB, f_call, f_mt, N1, N2, N3, N4, M1, M2, M3, M4, M5, M6, M7]
      have F8 : S' (22 + f) 8 = 0 := by rw [eS]; simp [upA, bcm, bfr, lvc, sndV, sndB, f_call, f_mt, N1, N2, N3, N4, M1, M2, M3, M4, M5, M6, M7]
      have F9 : S' (22 + f) 9 = S (22 + f) 9 := by rw [eS]; simp [upA, bcm, bfr, lvc, sndV, sndB, f_call, f_mt, N1, N2, N3, N4, M1, M2, M3, M4, M5, M6, M7]
      have L0 : S' (6 + c) 0 = S (6 + c) 0 := by rw [eS]; simp [upA, bcm, bfr, lvc, sndV, sndB, f_call, f_mt, N1, N2, N3, N4, M1, M2, M3, M4, M5, M6, M7]
      have L1 : S' (6 + c) 1 = S (6 + c) 1 := by rw [eS]; simp [upA, bcm, bfr, lvc, sndV, sndB, f_call, f_mt, N1, N2, N3, N4, M1, M2, M3, M4, M5, M6, M7]
      have L2 : S' (6 + c) 2 = S (6 + c) 2 := by rw [eS]; simp [upA, bcm, bfr, lvc, sndV, sndB, f_call, f_mt, N1, N2, N3, N4, M1, M2, M3, M4, M5, M6, M7]
      have L3 : S' (6 + c) 3 = S (6 + c) 3 := by rw [eS]; simp [upA, bcm, bfr, lvc, sndV, sndB, f_call, f_mt, N1, N2, N3, N4, M1, M2, M3, M4, M5, M6, M7]
      have L5 : S' (6 + c) 5 = S (6 + c) 5 := by rw [eS]; simp [upA, bcm, bfr, lvc, sndV, sndB, f_call, f_mt, N1, N2, N3, N4, M1, M2, M3, M4, M5, M6, M7]
      have L6 : S' (6 + c) 6 = S (6 + c) 6 := by rw [eS]; simp [upA, bcm, bfr, lvc, sndV, sndB, f_call, f_mt, N1, N2, N3, N4, M1, M2, M3, M4, M5, M6, M7]
      have L7 : S' (6 + c) 7 = S (6 + c) 7 := by rw [eS]; simp [upA, bcm, bfr, lvc, sndV, sndB, f_call, f_mt, N1, N2, N3, N4, M1, M2, M3, M4, M5, M6, M7]
      have L8 : S' (6 + c) 8 = S (6 + c) 8 := by rw [eS]; simp [upA, bcm, bfr, lvc, sndV, sndB, f_call, f_mt, N1, N2, N3, N4, M1, M2, M3, M4, M5, M6, M7]
      have T0 : S' (6 + t) 0 = S (6 + t) 0 := by rw [eS]; simp [upA, bcm, bfr, lvc, sndV, sndB, f_call, f_mt, N1, N2, N3, N4, M1, M2, M3, M4, M5, M6, M7]
      have T1 : S' (6 + t) 1 = S (6 + t) 1 := by rw [eS]; simp [upA, bcm, bfr, lvc, sndV, sndB, f_call, f_mt, N1, N2, N3, N4, M1, M2, M3, M4, M5, M6, M7]
      have T2 : S' (6 + t) 2 = S (6 + t) 2 := by rw [eS]; simp [upA, bcm, bfr, lvc, sndV, sndB, f_call, f_mt, N1, N2, N3, N4, M1, M2, M3, M4, M5, M6, M7]
      have T3 : S' (6 + t) 3 = S (6 + t) 3 := by rw [eS]; simp [upA, bcm, bfr, lvc, sndV, sndB, f_call, f_mt, N1, N2, N3, N4, M1, M2, M3, M4, M5, M6, M7]
      have T5 : S' (6 + t) 5 = S (6 + t) 5 := by rw [eS]; simp [upA, bcm, bfr, lvc, sndV, sndB, f_call, f_mt, N1, N2, N3, N4, M1, M2, M3, M4, M5, M6, M7]
      have T6 : S' (6 + t) 6 = S (6 + t) 6 := by rw [eS]; simp [upA, bcm, bfr, lvc, sndV, sndB, f_call, f_mt, N1, N2, N3, N4, M1, M2, M3, M4, M5, M6, M7]
      have T7 : S' (6 + t) 7 = S (6 + t) 7 := by rw [eS]; simp [upA, bcm, bfr, lvc, sndV, sndB, f_call, f_mt, N1, N2, N3, N4, M1, M2, M3, M4, M5, M6, M7]
      have T8 : S' (6 + t) 8 = S (6 + t) 8 := by rw [eS]; simp [upA, bcm, bfr, lvc, sndV, sndB, f_call, f_mt, N1, N2, N3, N4, M1, M2, M3, M4, M5, M6, M7]
      have H5 : S' 0 5 = S 0 5 := by rw [eS]; simp [upA, bcm, bfr, lvc, sndV, sndB, f_call, f_mt, N1, N2, N3, N4, M1, M2, M3, M4, M5, M6, M7]
      have H6 : S' 0 6 = S 0 6 := by rw [eS]; simp [upA, bcm, bfr, lvc, sndV, sndB, f_call, f_mt, N1, N2, N3, N4, M1, M2, M3, M4, M5, M6, M7]
      have H7 : S' 0 7 = S 0 7 := by rw [eS]; simp [upA, bcm, bfr, lvc, sndV, sndB, f_call, f_mt, N1, N2, N3, N4, M1, M2, M3, M4, M5, M6, M7]
      have H8 : S' 0 8 = S 0 8 := by rw [eS]; simp [upA, bcm, bfr, lvc, sndV, sndB, f_call, f_mt, N1, N2, N3, N4, M1, M2, M3, M4, M5, M6, M7]
      have H9 : S' 0 9 = S 0 9 := by rw [eS]; simp [upA, bcm, bfr, lvc, sndV, sndB, f_call, f_mt, N1, N2, N3, N4, M1, M2, M3, M4, M5, M6, M7]
      have H10 : S' 0 10 = S 0 10 := by rw [eS]; simp [upA, bcm, bfr, lvc, sndV, sndB, f_call, f_mt, N1, N2, N3, N4, M1, M2, M3, M4, M5, M6, M7]
      have H11 : S' 0 11 = S 0 11 := by rw [eS]; simp [upA, bcm, bfr, lvc, sndV, sndB, f_call, f_mt, N1, N2, N3, N4, M1, M2, M3, M4, M5, M6, M7]
      have H12 : S' 0 12 = S 0 12 := by rw [eS]; simp [upA, bcm, bfr, lvc, sndV, sndB, f_call, f_mt, N1, N2, N3, N4, M1, M2, M3, M4, M5, M6, M7]
      have H13 : S' 0 13 = S 0 13 := by rw [eS]; simp [upA, bcm, bfr, lvc, sndV, sndB, f_call, f_mt, N1, N2, N3, N4, M1, M2, M3, M4, M5, M6, M7]
      have H14 : S' 0 14 = S 0 14 := by rw [eS]; simp [upA, bcm, bfr, lvc, sndV, sndB, f_call, f_mt, N1, N2, N3, N4, M1, M2, M3, M4, M5, M6, M7]
      have H15 : S' 0 15 = S 0 15 := by rw [eS]; simp [upA, bcm, bfr, lvc, sndV, sndB, f_call, f_mt, N1, N2, N3, N4, M1, M2, M3, M4, M5, M6, M7]
      have eo : ∀ k, ¬ k = 22 + f → ¬ k = 6 + c → ¬ k = 6 + t → ¬ k = 0 → ∀ j, S' k j = S k j := fun k a b d e j => by rw [eS]; simp [upA, bcm, bfr, lvc, sndV, sndB, f_call, f_mt, a, b, d, e]
      have hfo : ∀ j : Nat, j < 4 → ¬ j = f → ∀ i, S' (22 + j) i = S (22 + j) i := fun j hj e i => eo _ (by omega) (by omega) (by omega) (by omega) i
      clear eS
      have D1 : w1 (S' (6 + c) 0) ≤ w1 (S (6 + c) 0) := by unfold w1; split <;> first | omega | (split <;> omega)
      have D1t : w1 (S' (6 + t) 0) ≤ w1 (S (6 + t) 0) := by unfold w1; split <;> first | omega | (split <;> omega)
      have D2 : w2 (S' (22 + f) 0) + (S' 0 11 - S 0 11) ≤ w2 (S (22 + f) 0) := by unfold w2; split <;> first | omega | (split <;> omega)
      have D3 : w3 (S' (22 + f) 0) + (S' 0 12 - S 0 12) ≤ w3 (S (22 + f) 0) + (S' 0 11 - S 0 11) := by unfold w3; split <;> first | omega | (split <;> omega)
      have RL : rv (S (6 + c) 0) = -1 := by unfold rv; rw [if_neg (by omega), if_pos (by omega)]
      have RLp : rv (S' (6 + c) 0) = -1 := by unfold rv; rw [if_neg (by omega), if_pos (by omega)]
      have RT : rv (S (6 + t) 0) = 1 := by unfold rv; rw [if_pos (by omega)]
      have RTp : rv (S' (6 + t) 0) = 1 := by unfold rv; rw [if_pos (by omega)]
      have D5 : rv (S (6 + c) 0) + rv (S (6 + t) 0) = rv (S' (6 + c) 0) + rv (S' (6 + t) 0) := by omega
      exact Step_two (S' := S') (q' := q + 1) (t := t) hI hf (by omega) hc ht hct (by omega) ec hpt (fun z => by omega) eo ⟨⟨by omega, by omega⟩, ⟨by omega, by omega⟩, ⟨by omega, by omega⟩, ⟨by omega, by omega⟩, ⟨by omega, by omega⟩, ⟨by omega, by omega⟩, ⟨by omega, by omega⟩, ⟨by omega, by omega⟩, ⟨by omega, by omega⟩, ⟨by omega, by omega⟩, ⟨by omega, by omega⟩⟩ (by omega) (by omega) (by omega) ⟨⟨by omega, by omega⟩, ⟨by omega, by omega⟩, ⟨by omega, by omega⟩, ⟨by omega, by omega⟩, ⟨by omega, by omega⟩, ⟨by omega, by omega⟩, ⟨by omega, by omega⟩, fun _ => by omega, fun _ => by omega, fun _ => by omega, fun _ => by omega, fun _ => by omega, fun _ => by omega, fun _ => by omega, fun _ => by omega, fun _ => by omega, fun _ => by omega, fun _ => by omega⟩ ⟨⟨by omega, by omega⟩, by omega, ⟨by omega, by omega⟩, ⟨by omega, by omega⟩, by omega, ⟨by omega, by omega⟩, ⟨by omega, by omega⟩, fun _ => by omega, fun _ => by omega⟩ ⟨⟨by omega, by omega⟩, by omega, ⟨by omega, by omega⟩, ⟨by omega, by omega⟩, by omega, ⟨by omega, by omega⟩, ⟨by omega, by omega⟩, fun _ => by omega, fun _ => by omega⟩ (Or.inr ⟨by omega, by omega, by omega, by unfold smt; omega⟩) (Or.inr ⟨by omega, by omega, by omega⟩) (hX_old hI hf hfo (by unfold hds; omega) (by omega) (by omega)) (by omega) (by omega) (by omega) (by omega) (by omega) (by omega) D5
/-- a step keeps what holds -/
theorem i_stpF (hI : Inv q S) (hf : f < 4) : Inv (q + 1) (stpF S f) := by
  by_cases z : S (22 + f) 0 = 0
  · rw [stpF, stp, if_neg (by omega), if_neg (by omega), if_neg (by omega), if_neg (by omega), if_neg (by omega), if_neg (by omega), if_neg (by omega), if_neg (by omega), if_neg (by omega)]
    obtain ⟨a, b, c, d, e, r⟩ := hI
    refine ⟨?_, b, c, fun f hf => finOK_mono (by omega) (d f hf), fun n hn => linOK_mono (by omega) (e n hn), r⟩
    unfold hdOK at a ⊢
    omega
  · obtain ⟨c, hc, ec, ec2, elk, esm⟩ := hI.cal hf z
    have h1 := hI.fin f hf
    unfold finOK at h1
    rw [stpF, ec2, stp]
    split
    · exact i_seek hI hf hc ec (by omega)
    · split
      · exact i_ready hI hf hc ec (by omega)
      · split
        · exact i_rise hI hf hc ec (by omega)
        · split
          · exact i_hunt hI hf hc ec (by omega)
          · split
            · exact i_linked hI hf hc ec (by omega)
            · split
              · exact i_stepOn hI hf hc ec (by omega)
              · split
                · rename_i e
                  obtain ⟨t, ht, et, et2, -, -⟩ := hI.tgt hf (Or.inl e)
                  rw [et2]
                  exact i_ring hI hf hc ec ht et e
                · split
                  · rename_i e
                    obtain ⟨t, ht, et, et2, -, -⟩ := hI.tgt hf (Or.inr e)
                    rw [et2]
                    exact i_talk hI hf hc ec ht et e
                  · split
                    · exact i_sound hI hf hc ec (by omega)
                    · omega
end ST
