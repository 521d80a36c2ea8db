-- ===== the steps with a connector =====
theorem hld_none {S : SS} {l n : Int} : ∀ (m i : Nat), hldF S l n m i = -6 → ∀ j : Nat, i ≤ j → j < i + m → hds (S (22 + j) 0) → ¬ (S (22 + j) 3 = l ∧ S (22 + j) 4 = n)
  | 0, i, _, j, h1, h2, _ => by omega
  | m + 1, i, h, j, h1, h2, h3 => by
    rw [hldF] at h
    by_cases g : (5 ≤ S (22 + i) 0 ∧ S (22 + i) 0 ≤ 8) ∧ S (22 + i) 3 = l ∧ S (22 + i) 4 = n
    · rw [if_pos g] at h; omega
    · rw [if_neg g] at h
      by_cases e : j = i
      · subst e
        unfold hds at h3
        exact fun z => g ⟨h3, z⟩
      · exact hld_none m (i + 1) h j (by omega) (by omega) h3
section ST
variable {q : Int} {S : SS} {f c t : Nat}
theorem i_hunt (hI : Inv q S) (hf : f < 4) (hc : c < 16) (ec : S (22 + f) 2 = (c : Int)) (hm : S (22 + f) 0 = 4) : Inv (q + 1) (f_hunt S (22 + f) (6 + c)) := by
  have hl := hI.lkC f hf c hc (by omega) ec
  obtain ⟨hl6, hls⟩ := hl
  unfold smt at hls
  have g := fin_45 (hI.fin f hf) (Or.inl hm)
  have gl := lin_own (hI.lin c hc) (by omega)
  have h0 := hI.hd
  unfold hdOK at h0
  have hnf : ¬ S 0 5 ≤ (f : Int) := fun z => absurd (hI.off f hf z) (by omega)
  have N1 : ¬ 22 + f = 6 + c := by omega
  have N2 : ¬ 6 + c = 22 + f := by omega
  have N3 : ¬ 0 = 22 + f := by omega
  have N4 : ¬ 0 = 6 + c := by omega
  unfold f_hunt
  split
  · rename_i e
    obtain ⟨S', eS⟩ : ∃ z : SS, z = bcm S (22 + f) 5 := ⟨_, rfl⟩
    rw [← eS]
    have F0 : S' (22 + f) 0 = 5 := by rw [eS]; simp [upA, bcm, bfr, lvc, sndV, sndB, f_call, f_mt, N1, N2, N3, N4]
    have F1 : S' (22 + f) 1 = S (22 + f) 1 := by rw [eS]; simp [upA, bcm, bfr, lvc, sndV, sndB, f_call, f_mt, N1, N2, N3, N4]
    have F2 : S' (22 + f) 2 = S (22 + f) 2 := by rw [eS]; simp [upA, bcm, bfr, lvc, sndV, sndB, f_call, f_mt, N1, N2, N3, N4]
    have F3 : S' (22 + f) 3 = S (22 + f) 3 := by rw [eS]; simp [upA, bcm, bfr, lvc, sndV, sndB, f_call, f_mt, N1, N2, N3, N4]
    have F4 : S' (22 + f) 4 = S (22 + f) 4 := by rw [eS]; simp [upA, bcm, bfr, lvc, sndV, sndB, f_call, f_mt, N1, N2, N3, N4]
    have F5 : S' (22 + f) 5 = S (22 + f) 5 := by rw [eS]; simp [upA, bcm, bfr, lvc, sndV, sndB, f_call, f_mt, N1, N2, N3, N4]
    have F6 : S' (22 + f) 6 = S (22 + f) 6 := by rw [eS]; simp [upA, bcm, bfr, lvc, sndV, sndB, f_call, f_mt, N1, N2, N3, N4]
    have F7 : S' (22 + f) 7 = 0 := by rw [eS]; simp [upA, bcm, bfr, lvc, sndV, sndB, f_call, f_mt, N1, N2, N3, N4]
    have F8 : S' (22 + f) 8 = 0 := by rw [eS]; simp [upA, bcm, bfr, lvc, sndV, sndB, f_call, f_mt, N1, N2, N3, N4]
    have F9 : S' (22 + f) 9 = S (22 + f) 9 := by rw [eS]; simp [upA, bcm, bfr, lvc, sndV, sndB, f_call, f_mt, N1, N2, N3, N4]
    have L0 : S' (6 + c) 0 = S (6 + c) 0 := by rw [eS]; simp [upA, bcm, bfr, lvc, sndV, sndB, f_call, f_mt, N1, N2, N3, N4]
    have L1 : S' (6 + c) 1 = S (6 + c) 1 := by rw [eS]; simp [upA, bcm, bfr, lvc, sndV, sndB, f_call, f_mt, N1, N2, N3, N4]
    have L2 : S' (6 + c) 2 = S (6 + c) 2 := by rw [eS]; simp [upA, bcm, bfr, lvc, sndV, sndB, f_call, f_mt, N1, N2, N3, N4]
    have L3 : S' (6 + c) 3 = S (6 + c) 3 := by rw [eS]; simp [upA, bcm, bfr, lvc, sndV, sndB, f_call, f_mt, N1, N2, N3, N4]
    have L5 : S' (6 + c) 5 = S (6 + c) 5 := by rw [eS]; simp [upA, bcm, bfr, lvc, sndV, sndB, f_call, f_mt, N1, N2, N3, N4]
    have L6 : S' (6 + c) 6 = S (6 + c) 6 := by rw [eS]; simp [upA, bcm, bfr, lvc, sndV, sndB, f_call, f_mt, N1, N2, N3, N4]
    have L7 : S' (6 + c) 7 = S (6 + c) 7 := by rw [eS]; simp [upA, bcm, bfr, lvc, sndV, sndB, f_call, f_mt, N1, N2, N3, N4]
    have L8 : S' (6 + c) 8 = S (6 + c) 8 := by rw [eS]; simp [upA, bcm, bfr, lvc, sndV, sndB, f_call, f_mt, N1, N2, N3, N4]
    have H5 : S' 0 5 = S 0 5 := by rw [eS]; simp [upA, bcm, bfr, lvc, sndV, sndB, f_call, f_mt, N1, N2, N3, N4]
    have H6 : S' 0 6 = S 0 6 := by rw [eS]; simp [upA, bcm, bfr, lvc, sndV, sndB, f_call, f_mt, N1, N2, N3, N4]
    have H7 : S' 0 7 = S 0 7 := by rw [eS]; simp [upA, bcm, bfr, lvc, sndV, sndB, f_call, f_mt, N1, N2, N3, N4]
    have H8 : S' 0 8 = S 0 8 := by rw [eS]; simp [upA, bcm, bfr, lvc, sndV, sndB, f_call, f_mt, N1, N2, N3, N4]
    have H9 : S' 0 9 = S 0 9 := by rw [eS]; simp [upA, bcm, bfr, lvc, sndV, sndB, f_call, f_mt, N1, N2, N3, N4]
    have H10 : S' 0 10 = S 0 10 := by rw [eS]; simp [upA, bcm, bfr, lvc, sndV, sndB, f_call, f_mt, N1, N2, N3, N4]
    have H11 : S' 0 11 = S 0 11 := by rw [eS]; simp [upA, bcm, bfr, lvc, sndV, sndB, f_call, f_mt, N1, N2, N3, N4]
    have H12 : S' 0 12 = S 0 12 := by rw [eS]; simp [upA, bcm, bfr, lvc, sndV, sndB, f_call, f_mt, N1, N2, N3, N4]
    have H13 : S' 0 13 = S 0 13 := by rw [eS]; simp [upA, bcm, bfr, lvc, sndV, sndB, f_call, f_mt, N1, N2, N3, N4]
    have H14 : S' 0 14 = S 0 14 := by rw [eS]; simp [upA, bcm, bfr, lvc, sndV, sndB, f_call, f_mt, N1, N2, N3, N4]
    have H15 : S' 0 15 = S 0 15 := by rw [eS]; simp [upA, bcm, bfr, lvc, sndV, sndB, f_call, f_mt, N1, N2, N3, N4]
    have eo : ∀ k, ¬ k = 22 + f → ¬ k = 6 + c → ¬ k = 0 → ∀ j, S' k j = S k j := fun k a b d j => by rw [eS]; simp [upA, bcm, bfr, lvc, sndV, sndB, f_call, f_mt, a, b, d]
    have hfo : ∀ j : Nat, j < 4 → ¬ j = f → ∀ i, S' (22 + j) i = S (22 + j) i := fun j hj e i => eo _ (by omega) (by omega) (by omega) i
    clear eS
    have D1 : w1 (S' (6 + c) 0) = w1 (S (6 + c) 0) := by rw [L0]
    have D0 : 0 ≤ w1 (S (6 + c) 0) := by unfold w1; split <;> omega
    have D2 : w2 (S' (22 + f) 0) ≤ w2 (S (22 + f) 0) + (S' 0 10 - S 0 10) := by unfold w2; split <;> split <;> omega
    have D3 : w3 (S' (22 + f) 0) ≤ w3 (S (22 + f) 0) := by unfold w3; split <;> split <;> omega
    have D5 : rv (S (6 + c) 0) = rv (S' (6 + c) 0) := by rw [L0]
    have D6 : S' 0 10 - S 0 10 ≤ w1 (S (6 + c) 0) - w1 (S' (6 + c) 0) := by omega
    have hXn : ∀ g : Nat, g < 4 → ¬ g = f → uqX S' f g := fun g hg hgf _ z => by
      rw [hfo g hg hgf] at z
      rw [hfo g hg hgf, hfo g hg hgf, F3, F4]
      by_cases e3 : S 0 5 ≤ (g : Int)
      · have := hI.off g hg e3
        unfold hds at z
        omega
      · have := hld_none (S 0 5).toNat 0 e g (by omega) (by omega) z
        exact fun y => this ⟨y.1.symm, y.2.symm⟩
    exact Step_one (S' := S') (q' := q + 1) hI hf (by omega) hc (by omega) ec (by omega) eo ⟨⟨by omega, by omega⟩, ⟨by omega, by omega⟩, ⟨by omega, by omega⟩, ⟨by omega, by omega⟩, ⟨by omega, by omega⟩, ⟨by omega, by omega⟩, ⟨by omega, by omega⟩, ⟨by omega, by omega⟩, ⟨by omega, by omega⟩, ⟨by omega, by omega⟩, ⟨by omega, by omega⟩⟩ (by omega) (by omega) (by omega) ⟨⟨by omega, by omega⟩, ⟨by omega, by omega⟩, ⟨by omega, by omega⟩, ⟨by omega, by omega⟩, ⟨by omega, by omega⟩, ⟨by omega, by omega⟩, ⟨by omega, by omega⟩, fun _ => by omega, fun _ => by omega, fun _ => by omega, fun _ => by omega, fun _ => by omega, fun _ => by omega, fun _ => by omega, fun _ => by omega, fun _ => by omega, fun _ => by omega, fun _ => by omega⟩ (by omega) ⟨⟨by omega, by omega⟩, by omega, ⟨by omega, by omega⟩, ⟨by omega, by omega⟩, by omega, ⟨by omega, by omega⟩, ⟨by omega, by omega⟩, fun _ => by omega, fun _ => by omega⟩ (Or.inr ⟨by omega, by omega, by omega, by unfold smt; omega⟩) hXn (fun z => by omega) (by omega) (by omega) (by omega) (by omega) D5
  · split
    · rename_i e e2
      obtain ⟨S', eS⟩ : ∃ z : SS, z = up S (22 + f) 4 (S (22 + f) 4 + 1) := ⟨_, rfl⟩
      rw [← eS]
      have F0 : S' (22 + f) 0 = S (22 + f) 0 := by rw [eS]; simp [upA, bcm, bfr, lvc, sndV, sndB, f_call, f_mt, N1, N2, N3, N4]
      have F1 : S' (22 + f) 1 = S (22 + f) 1 := by rw [eS]; simp [upA, bcm, bfr, lvc, sndV, sndB, f_call, f_mt, N1, N2, N3, N4]
      have F2 : S' (22 + f) 2 = S (22 + f) 2 := by rw [eS]; simp [upA, bcm, bfr, lvc, sndV, sndB, f_call, f_mt, N1, N2, N3, N4]
      have F3 : S' (22 + f) 3 = S (22 + f) 3 := by rw [eS]; simp [upA, bcm, bfr, lvc, sndV, sndB, f_call, f_mt, N1, N2, N3, N4]
      have F4 : S' (22 + f) 4 = S (22 + f) 4 + 1 := by rw [eS]; simp [upA, bcm, bfr, lvc, sndV, sndB, f_call, f_mt, N1, N2, N3, N4]
      have F5 : S' (22 + f) 5 = S (22 + f) 5 := by rw [eS]; simp [upA, bcm, bfr, lvc, sndV, sndB, f_call, f_mt, N1, N2, N3, N4]
      have F6 : S' (22 + f) 6 = S (22 + f) 6 := by rw [eS]; simp [upA, bcm, bfr, lvc, sndV, sndB, f_call, f_mt, N1, N2, N3, N4]
      have F7 : S' (22 + f) 7 = S (22 + f) 7 := by rw [eS]; simp [upA, bcm, bfr, lvc, sndV, sndB, f_call, f_mt, N1, N2, N3, N4]
      have F8 : S' (22 + f) 8 = S (22 + f) 8 := by rw [eS]; simp [upA, bcm, bfr, lvc, sndV, sndB, f_call, f_mt, N1, N2, N3, N4]
      have F9 : S' (22 + f) 9 = S (22 + f) 9 := by rw [eS]; simp [upA, bcm, bfr, lvc, sndV, sndB, f_call, f_mt, N1, N2, N3, N4]
      have L0 : S' (6 + c) 0 = S (6 + c) 0 := by rw [eS]; simp [upA, bcm, bfr, lvc, sndV, sndB, f_call, f_mt, N1, N2, N3, N4]
      have L1 : S' (6 + c) 1 = S (6 + c) 1 := by rw [eS]; simp [upA, bcm, bfr, lvc, sndV, sndB, f_call, f_mt, N1, N2, N3, N4]
      have L2 : S' (6 + c) 2 = S (6 + c) 2 := by rw [eS]; simp [upA, bcm, bfr, lvc, sndV, sndB, f_call, f_mt, N1, N2, N3, N4]
      have L3 : S' (6 + c) 3 = S (6 + c) 3 := by rw [eS]; simp [upA, bcm, bfr, lvc, sndV, sndB, f_call, f_mt, N1, N2, N3, N4]
      have L5 : S' (6 + c) 5 = S (6 + c) 5 := by rw [eS]; simp [upA, bcm, bfr, lvc, sndV, sndB, f_call, f_mt, N1, N2, N3, N4]
      have L6 : S' (6 + c) 6 = S (6 + c) 6 := by rw [eS]; simp [upA, bcm, bfr, lvc, sndV, sndB, f_call, f_mt, N1, N2, N3, N4]
      have L7 : S' (6 + c) 7 = S (6 + c) 7 := by rw [eS]; simp [upA, bcm, bfr, lvc, sndV, sndB, f_call, f_mt, N1, N2, N3, N4]
      have L8 : S' (6 + c) 8 = S (6 + c) 8 := by rw [eS]; simp [upA, bcm, bfr, lvc, sndV, sndB, f_call, f_mt, N1, N2, N3, N4]
      have H5 : S' 0 5 = S 0 5 := by rw [eS]; simp [upA, bcm, bfr, lvc, sndV, sndB, f_call, f_mt, N1, N2, N3, N4]
      have H6 : S' 0 6 = S 0 6 := by rw [eS]; simp [upA, bcm, bfr, lvc, sndV, sndB, f_call, f_mt, N1, N2, N3, N4]
      have H7 : S' 0 7 = S 0 7 := by rw [eS]; simp [upA, bcm, bfr, lvc, sndV, sndB, f_call, f_mt, N1, N2, N3, N4]
      have H8 : S' 0 8 = S 0 8 := by rw [eS]; simp [upA, bcm, bfr, lvc, sndV, sndB, f_call, f_mt, N1, N2, N3, N4]
      have H9 : S' 0 9 = S 0 9 := by rw [eS]; simp [upA, bcm, bfr, lvc, sndV, sndB, f_call, f_mt, N1, N2, N3, N4]
      have H10 : S' 0 10 = S 0 10 := by rw [eS]; simp [upA, bcm, bfr, lvc, sndV, sndB, f_call, f_mt, N1, N2, N3, N4]
      have H11 : S' 0 11 = S 0 11 := by rw [eS]; simp [upA, bcm, bfr, lvc, sndV, sndB, f_call, f_mt, N1, N2, N3, N4]
      have H12 : S' 0 12 = S 0 12 := by rw [eS]; simp [upA, bcm, bfr, lvc, sndV, sndB, f_call, f_mt, N1, N2, N3, N4]
      have H13 : S' 0 13 = S 0 13 := by rw [eS]; simp [upA, bcm, bfr, lvc, sndV, sndB, f_call, f_mt, N1, N2, N3, N4]
      have H14 : S' 0 14 = S 0 14 := by rw [eS]; simp [upA, bcm, bfr, lvc, sndV, sndB, f_call, f_mt, N1, N2, N3, N4]
      have H15 : S' 0 15 = S 0 15 := by rw [eS]; simp [upA, bcm, bfr, lvc, sndV, sndB, f_call, f_mt, N1, N2, N3, N4]
      have eo : ∀ k, ¬ k = 22 + f → ¬ k = 6 + c → ¬ k = 0 → ∀ j, S' k j = S k j := fun k a b d j => by rw [eS]; simp [upA, bcm, bfr, lvc, sndV, sndB, f_call, f_mt, a, b, d]
      have hfo : ∀ j : Nat, j < 4 → ¬ j = f → ∀ i, S' (22 + j) i = S (22 + j) i := fun j hj e i => eo _ (by omega) (by omega) (by omega) i
      clear eS
      have D1 : w1 (S' (6 + c) 0) = w1 (S (6 + c) 0) := by rw [L0]
      have D0 : 0 ≤ w1 (S (6 + c) 0) := by unfold w1; split <;> omega
      have D2 : w2 (S' (22 + f) 0) = w2 (S (22 + f) 0) := by rw [F0]
      have D3 : w3 (S' (22 + f) 0) = w3 (S (22 + f) 0) := by rw [F0]
      have D5 : rv (S (6 + c) 0) = rv (S' (6 + c) 0) := by rw [L0]
      have D6 : S' 0 10 - S 0 10 ≤ w1 (S (6 + c) 0) - w1 (S' (6 + c) 0) := by omega
      exact Step_one (S' := S') (q' := q + 1) hI hf (by omega) hc (by omega) ec (by omega) eo ⟨⟨by omega, by omega⟩, ⟨by omega, by omega⟩, ⟨by omega, by omega⟩, ⟨by omega, by omega⟩, ⟨by omega, by omega⟩, ⟨by omega, by omega⟩, ⟨by omega, by omega⟩, ⟨by omega, by omega⟩, ⟨by omega, by omega⟩, ⟨by omega, by omega⟩, ⟨by omega, by omega⟩⟩ (by omega) (by omega) (by omega) ⟨⟨by omega, by omega⟩, ⟨by omega, by omega⟩, ⟨by omega, by omega⟩, ⟨by omega, by omega⟩, ⟨by omega, by omega⟩, ⟨by omega, by omega⟩, ⟨by omega, by omega⟩, fun _ => by omega, fun _ => by omega, fun _ => by omega, fun _ => by omega, fun _ => by omega, fun _ => by omega, fun _ => by omega, fun _ => by omega, fun _ => by omega, fun _ => by omega, fun _ => by omega⟩ (by omega) ⟨⟨by omega, by omega⟩, by omega, ⟨by omega, by omega⟩, ⟨by omega, by omega⟩, by omega, ⟨by omega, by omega⟩, ⟨by omega, by omega⟩, fun _ => by omega, fun _ => by omega⟩ (Or.inr ⟨by omega, by omega, by omega, by unfold smt; omega⟩) (hX_no (by unfold hds; omega)) (fun z => by omega) (by omega) (by omega) (by omega) (by omega) D5
    · rename_i e e2
      obtain ⟨S', eS⟩ : ∃ z : SS, z = sndB (up S (22 + f) 4 (S (22 + f) 4 + 1)) (22 + f) (6 + c) 2 := ⟨_, rfl⟩
      rw [← eS]
      have F0 : S' (22 + f) 0 = 9 := by rw [eS]; simp [upA, bcm, bfr, lvc, sndV, sndB, f_call, f_mt, N1, N2, N3, N4]
      have F1 : S' (22 + f) 1 = S (22 + f) 1 := by rw [eS]; simp [upA, bcm, bfr, lvc, sndV, sndB, f_call, f_mt, N1, N2, N3, N4]
      have F2 : S' (22 + f) 2 = S (22 + f) 2 := by rw [eS]; simp [upA, bcm, bfr, lvc, sndV, sndB, f_call, f_mt, N1, N2, N3, N4]
      have F3 : S' (22 + f) 3 = S (22 + f) 3 := by rw [eS]; simp [upA, bcm, bfr, lvc, sndV, sndB, f_call, f_mt, N1, N2, N3, N4]
      have F4 : S' (22 + f) 4 = -6 := by rw [eS]; simp [upA, bcm, bfr, lvc, sndV, sndB, f_call, f_mt, N1, N2, N3, N4]
      have F5 : S' (22 + f) 5 = S (22 + f) 5 := by rw [eS]; simp [upA, bcm, bfr, lvc, sndV, sndB, f_call, f_mt, N1, N2, N3, N4]
      have F6 : S' (22 + f) 6 = S (22 + f) 6 := by rw [eS]; simp [upA, bcm, bfr, lvc, sndV, sndB, f_call, f_mt, N1, N2, N3, N4]
      have F7 : S' (22 + f) 7 = 0 := by rw [eS]; simp [upA, bcm, bfr, lvc, sndV, sndB, f_call, f_mt, N1, N2, N3, N4]
      have F8 : S' (22 + f) 8 = 0 := by rw [eS]; simp [upA, bcm, bfr, lvc, sndV, sndB, f_call, f_mt, N1, N2, N3, N4]
      have F9 : S' (22 + f) 9 = -6 := by rw [eS]; simp [upA, bcm, bfr, lvc, sndV, sndB, f_call, f_mt, N1, N2, N3, N4]
      have L0 : S' (6 + c) 0 = 8 := by rw [eS]; simp [upA, bcm, bfr, lvc, sndV, sndB, f_call, f_mt, N1, N2, N3, N4]
      have L1 : S' (6 + c) 1 = S (6 + c) 1 := by rw [eS]; simp [upA, bcm, bfr, lvc, sndV, sndB, f_call, f_mt, N1, N2, N3, N4]
      have L2 : S' (6 + c) 2 = S (6 + c) 2 := by rw [eS]; simp [upA, bcm, bfr, lvc, sndV, sndB, f_call, f_mt, N1, N2, N3, N4]
      have L3 : S' (6 + c) 3 = 2 := by rw [eS]; simp [upA, bcm, bfr, lvc, sndV, sndB, f_call, f_mt, N1, N2, N3, N4]
      have L5 : S' (6 + c) 5 = S (6 + c) 5 := by rw [eS]; simp [upA, bcm, bfr, lvc, sndV, sndB, f_call, f_mt, N1, N2, N3, N4]
      have L6 : S' (6 + c) 6 = S (6 + c) 6 := by rw [eS]; simp [upA, bcm, bfr, lvc, sndV, sndB, f_call, f_mt, N1, N2, N3, N4]
      have L7 : S' (6 + c) 7 = S (6 + c) 7 := by rw [eS]; simp [upA, bcm, bfr, lvc, sndV, sndB, f_call, f_mt, N1, N2, N3, N4]
      have L8 : S' (6 + c) 8 = S (6 + c) 8 := by rw [eS]; simp [upA, bcm, bfr, lvc, sndV, sndB, f_call, f_mt, N1, N2, N3, N4]
      have H5 : S' 0 5 = S 0 5 := by rw [eS]; simp [upA, bcm, bfr, lvc, sndV, sndB, f_call, f_mt, N1, N2, N3, N4]
      have H6 : S' 0 6 = S 0 6 := by rw [eS]; simp [upA, bcm, bfr, lvc, sndV, sndB, f_call, f_mt, N1, N2, N3, N4]
      have H7 : S' 0 7 = S 0 7 := by rw [eS]; simp [upA, bcm, bfr, lvc, sndV, sndB, f_call, f_mt, N1, N2, N3, N4]
      have H8 : S' 0 8 = S 0 8 := by rw [eS]; simp [upA, bcm, bfr, lvc, sndV, sndB, f_call, f_mt, N1, N2, N3, N4]
      have H9 : S' 0 9 = S 0 9 := by rw [eS]; simp [upA, bcm, bfr, lvc, sndV, sndB, f_call, f_mt, N1, N2, N3, N4]
      have H10 : S' 0 10 = S 0 10 := by rw [eS]; simp [upA, bcm, bfr, lvc, sndV, sndB, f_call, f_mt, N1, N2, N3, N4]
      have H11 : S' 0 11 = S 0 11 := by rw [eS]; simp [upA, bcm, bfr, lvc, sndV, sndB, f_call, f_mt, N1, N2, N3, N4]
      have H12 : S' 0 12 = S 0 12 := by rw [eS]; simp [upA, bcm, bfr, lvc, sndV, sndB, f_call, f_mt, N1, N2, N3, N4]
      have H13 : S' 0 13 = S 0 13 + 1 := by rw [eS]; simp [upA, bcm, bfr, lvc, sndV, sndB, f_call, f_mt, N1, N2, N3, N4]
      have H14 : S' 0 14 = S 0 14 := by rw [eS]; simp [upA, bcm, bfr, lvc, sndV, sndB, f_call, f_mt, N1, N2, N3, N4]
      have H15 : S' 0 15 = S 0 15 := by rw [eS]; simp [upA, bcm, bfr, lvc, sndV, sndB, f_call, f_mt, N1, N2, N3, N4]
      have eo : ∀ k, ¬ k = 22 + f → ¬ k = 6 + c → ¬ k = 0 → ∀ j, S' k j = S k j := fun k a b d j => by rw [eS]; simp [upA, bcm, bfr, lvc, sndV, sndB, f_call, f_mt, a, b, d]
      have hfo : ∀ j : Nat, j < 4 → ¬ j = f → ∀ i, S' (22 + j) i = S (22 + j) i := fun j hj e i => eo _ (by omega) (by omega) (by omega) i
      clear eS
      have D1 : w1 (S' (6 + c) 0) = 0 := by unfold w1; rw [if_neg (by omega)]
      have D0 : 0 ≤ w1 (S (6 + c) 0) := by unfold w1; split <;> omega
      have D2 : w2 (S' (22 + f) 0) ≤ w2 (S (22 + f) 0) + (S' 0 10 - S 0 10) := by unfold w2; split <;> split <;> omega
      have D3 : w3 (S' (22 + f) 0) ≤ w3 (S (22 + f) 0) := by unfold w3; split <;> split <;> omega
      have D5 : rv (S (6 + c) 0) = rv (S' (6 + c) 0) := by unfold rv; split <;> split <;> first | omega | (split <;> first | omega | (split <;> omega))
      have D6 : S' 0 10 - S 0 10 ≤ w1 (S (6 + c) 0) - w1 (S' (6 + c) 0) := by omega
      exact Step_one (S' := S') (q' := q + 1) hI hf (by omega) hc (by omega) ec (by omega) eo ⟨⟨by omega, by omega⟩, ⟨by omega, by omega⟩, ⟨by omega, by omega⟩, ⟨by omega, by omega⟩, ⟨by omega, by omega⟩, ⟨by omega, by omega⟩, ⟨by omega, by omega⟩, ⟨by omega, by omega⟩, ⟨by omega, by omega⟩, ⟨by omega, by omega⟩, ⟨by omega, by omega⟩⟩ (by omega) (by omega) (by omega) ⟨⟨by omega, by omega⟩, ⟨by omega, by omega⟩, ⟨by omega, by omega⟩, ⟨by omega, by omega⟩, ⟨by omega, by omega⟩, ⟨by omega, by omega⟩, ⟨by omega, by omega⟩, fun _ => by omega, fun _ => by omega, fun _ => by omega, fun _ => by omega, fun _ => by omega, fun _ => by omega, fun _ => by omega, fun _ => by omega, fun _ => by omega, fun _ => by omega, fun _ => by omega⟩ (by omega) ⟨⟨by omega, by omega⟩, by omega, ⟨by omega, by omega⟩, ⟨by omega, by omega⟩, by omega, ⟨by omega, by omega⟩, ⟨by omega, by omega⟩, fun _ => by omega, fun _ => by omega⟩ (Or.inr ⟨by omega, by omega, by omega, by unfold smt; omega⟩) (hX_no (by unfold hds; omega)) (fun z => by omega) (by omega) (by omega) (by omega) (by omega) D5
end ST
