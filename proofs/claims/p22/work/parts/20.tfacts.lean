-- ===== what a tick does =====
section TF
variable {q : Int} {S : SS} {f : Nat}
theorem due_stb (hI : Inv q S) {g : Nat} (hf : f < 4) (hg : g < 4) (hgf : ¬ f = g) : due (stpF S g) f = due S f := by
  have e2 : ∀ i, stpF S g (22 + f) i = S (22 + f) i := fun i => stp_fin hI hg hf hgf i
  by_cases z : S (22 + f) 0 = 0
  · have z2 := e2 0
    rw [z] at z2
    rw [due_0 (by omega) (by omega) (by omega) (by omega) (by omega) (by omega) (by omega) (by omega), due_0 (by omega) (by omega) (by omega) (by omega) (by omega) (by omega) (by omega) (by omega)]
  · obtain ⟨c, hc, ec, ec2, elk, esm⟩ := hI.cal hf z
    have hz := hI.fin f hf
    unfold finOK at hz
    unfold smt at esm
    have e5 : stpF S g (6 + (S (22 + f) 2).toNat) 5 = S (6 + (S (22 + f) 2).toNat) 5 := by
      rw [ec2]
      exact stp_keep hI hg hc (by rw [elk]; omega) (by omega) 5
    have e1 : stpF S g (6 + (S (22 + f) 9).toNat) 1 = S (6 + (S (22 + f) 9).toNat) 1 := stp_l1 hg (by omega)
    unfold due
    simp only [e2, e5, e1, stp_set]
theorem due_N (hI : Inv q S) (hf : f < 4) : ∀ n : Nat, n ≤ f → due (stpN S n) f = due S f
  | 0, _ => rfl
  | n + 1, h => by
    rw [stpN, due_stb (i_stpN hI n (by omega)) hf (by omega) (by omega), due_N hI hf n (by omega)]
theorem row_N (hI : Inv q S) (hf : f < 4) (i : Nat) : ∀ n : Nat, f + 1 + n ≤ 4 → stpN S (f + 1 + n) (22 + f) i = stpN S (f + 1) (22 + f) i
  | 0, _ => rfl
  | n + 1, h => by
    rw [show f + 1 + (n + 1) = (f + 1 + n) + 1 by omega, stpN, stp_fin (i_stpN hI (f + 1 + n) (by omega)) (by omega) hf (by omega), row_N hI hf i n (by omega)]
theorem stepd_due (hI : Inv q S) (hf : (f : Int) < S 0 5) (hd : 0 ≤ due S f) : stepd S (22 + f) 0 = due S f := by
  have h0 := hI.hd
  unfold hdOK at h0
  have h1 := row_N hI (f := f) (by omega) 0 ((S 0 5).toNat - (f + 1)) (by omega)
  unfold stepd
  rw [show (S 0 5).toNat = f + 1 + ((S 0 5).toNat - (f + 1)) by omega, h1, stpN]
  have h2 := due_N hI (f := f) (by omega) f (Nat.le_refl _)
  rw [stp_due (i_stpN hI f (by omega)) (by omega) (by rw [h2]; exact hd), h2]
theorem allot_fin (hI : Inv q S) (hf : f < 4) : (∀ i, allot S (22 + f) i = S (22 + f) i) ∨ (S (22 + f) 0 = 0 ∧ allot S (22 + f) 0 = 1 ∧ ∃ w : Nat, w < 16 ∧ uns S w ∧ allot S (22 + f) 2 = (w : Int)) := by
  unfold allot
  rcases nfr_spec hI with ⟨e, -⟩ | ⟨g, hg, hg2, eg, ez⟩
  · rw [if_pos e]; exact Or.inl fun _ => rfl
  · rw [if_neg (by omega)]
    rcases fw_spec S with ⟨e, -⟩ | ⟨w, hw, ew, hu, -⟩
    · rw [if_pos e]; exact Or.inl fun _ => rfl
    · rw [if_neg (by omega), eg, ew, Int.toNat_natCast, Int.toNat_natCast]
      by_cases e : f = g
      · subst e
        refine Or.inr ⟨ez, ?_, w, hw, hu, ?_⟩
        · simp only [upA, bcm, show ¬ 22 + f = 0 by omega, show ¬ 22 + f = 6 + w by omega, false_and, if_false, true_and]; simp
        · simp only [upA, bcm, show ¬ 22 + f = 0 by omega, show ¬ 22 + f = 6 + w by omega, false_and, if_false, true_and]; simp
      · refine Or.inl fun i => ?_
        simp only [upA, bcm, show ¬ 22 + f = 0 by omega, show ¬ 22 + f = 6 + w by omega, show ¬ 22 + f = 22 + g by omega, false_and, if_false]
theorem allot_lin (hI : Inv q S) {n j : Nat} (hn : n < 16) (hj : ¬ j = 6) : allot S (6 + n) j = S (6 + n) j := by
  unfold allot
  rcases nfr_spec hI with ⟨e, -⟩ | ⟨g, hg, hg2, eg, ez⟩
  · rw [if_pos e]
  · rw [if_neg (by omega)]
    split
    · rfl
    · rw [eg, Int.toNat_natCast]
      simp only [upA, bcm, show ¬ 6 + n = 0 by omega, show ¬ 6 + n = 22 + g by omega, hj, and_false, false_and, if_false]
theorem tick_fin {i : Nat} : tick S (22 + f) i = allot (stepd S) (22 + f) i := by
  unfold tick
  rw [upA, if_neg (by omega), parkd_fin]
theorem tick_time : tick S 0 7 = S 0 7 + 1 := by
  unfold tick
  rw [upA, if_pos ⟨rfl, rfl⟩, parkd_hd, allot_hd (by decide)]
  unfold stepd
  rw [stpN_hd (by decide)]
theorem tick_hd {j : Nat} (hj : j = 5 ∨ j = 6) : tick S 0 j = S 0 j := by
  unfold tick
  rw [upA, if_neg (by omega), parkd_hd, allot_hd (by omega)]
  unfold stepd
  rw [stpN_hd (by omega)]
theorem tick_due (hI : Inv q S) (hf : (f : Int) < S 0 5) (hd : 0 ≤ due S f) : tick S (22 + f) 0 = due S f ∨ (due S f = 0 ∧ tick S (22 + f) 0 = 1) := by
  have h0 := hI.hd
  unfold hdOK at h0
  have h1 := stepd_due hI hf hd
  rw [tick_fin]
  rcases allot_fin (i_stepd hI) (f := f) (by omega) with e | ⟨e1, e2, -⟩
  · rw [e, h1]; exact Or.inl rfl
  · rw [h1] at e1; exact Or.inr ⟨e1, e2⟩
-- the meters
theorem stp_meter (hI : Inv q S) (hf : f < 4) {n : Nat} (hn : n < 16) : stpF S f (6 + n) 2 = S (6 + n) 2 ∨ (stpF S f (6 + n) 2 = S (6 + n) 2 + 1 ∧ stpF S f (6 + n) 0 = 6 ∧ stpF S f (6 + n) 6 = (f : Int)) := by
  have n1 : ¬ 6 + n = 22 + f := by omega
  have n4 : ¬ 6 + n = 0 := by omega
  have cal : S (22 + f) 0 = 7 ∨ S (22 + f) 0 = 8 → S (6 + (S (22 + f) 2).toNat) 6 = (f : Int) ∧ (S (22 + f) 0 = 8 → S (6 + (S (22 + f) 2).toNat) 0 = 6) ∧ ¬ 6 + (S (22 + f) 2).toNat = 6 + (S (22 + f) 9).toNat := fun e => by
    obtain ⟨c, hc, ec, ec2, elk, esm⟩ := hI.cal hf (by omega)
    obtain ⟨t, ht, et, et2, -, -⟩ := hI.tgt hf e
    have := hI.ne hf hc ht e ec et
    unfold smt at esm
    rw [ec2, et2]
    exact ⟨elk, fun e => by omega, by omega⟩
  refine stp_el (P := fun Y => Y (6 + n) 2 = S (6 + n) 2 ∨ (Y (6 + n) 2 = S (6 + n) 2 + 1 ∧ Y (6 + n) 0 = 6 ∧ Y (6 + n) 6 = (f : Int))) ?_ ?_ ?_ ?_ ?_ ?_ ?_ ?_ ?_ ?_ ?_ ?_ ?_ ?_ ?_ ?_ ?_ ?_ ?_ ?_ ?_ ?_ ?_ ?_ ?_ ?_ ?_ ?_ ?_ <;> intros <;> first
    | (refine Or.inl ?_; simp (decide := true) only [upA, bcm, bfr, lvc, sndV, sndB, f_call, n1, n4, and_false, false_and, if_false]; done)
    | skip
  · rename_i em e0
    by_cases e : 6 + n = 6 + (S (22 + f) 2).toNat
    · refine Or.inr ?_
      have g := cal (Or.inl em)
      rw [← e] at g ⊢
      simp (decide := true) only [upA, bcm, n1, n4, g.2.2, and_false, false_and, true_and, and_true, if_false, if_true]
      exact g.1
    · refine Or.inl ?_
      simp (decide := true) only [upA, bcm, n1, n4, e, and_false, false_and, if_false]
  · rename_i em e0 e1 e2
    by_cases e : 6 + n = 6 + (S (22 + f) 2).toNat
    · refine Or.inr ?_
      have g := cal (Or.inr em)
      rw [← e] at g ⊢
      simp (decide := true) only [upA, n1, n4, and_false, false_and, true_and, and_true, if_false, if_true]
      exact ⟨g.2.1 em, g.1⟩
    · refine Or.inl ?_
      simp (decide := true) only [upA, n1, n4, e, and_false, false_and, if_false]
  · rename_i em e0 e1
    by_cases e : 6 + n = 6 + (S (22 + f) 2).toNat
    · refine Or.inr ?_
      have g := cal (Or.inr em)
      rw [← e] at g ⊢
      simp (decide := true) only [upA, n1, n4, and_false, false_and, true_and, and_true, if_false, if_true]
      exact ⟨g.2.1 em, g.1⟩
    · refine Or.inl ?_
      simp (decide := true) only [upA, n1, n4, e, and_false, false_and, if_false]
theorem meter_N (hI : Inv q S) {n : Nat} (hn : n < 16) : ∀ k : Nat, k ≤ 4 → stpN S k (6 + n) 2 = S (6 + n) 2 ∨ (stpN S k (6 + n) 2 = S (6 + n) 2 + 1 ∧ stpN S k (6 + n) 0 = 6 ∧ 0 ≤ stpN S k (6 + n) 6 ∧ stpN S k (6 + n) 6 < (k : Int))
  | 0, _ => Or.inl rfl
  | k + 1, hk => by
    have hJ := i_stpN hI k (by omega)
    rw [stpN]
    rcases meter_N hI hn k (by omega) with h | ⟨h1, h2, h3, h4⟩
    · rcases stp_meter hJ (f := k) (by omega) hn with g | ⟨g1, g2, g3⟩
      · exact Or.inl (g.trans h)
      · exact Or.inr ⟨by omega, g2, by omega, by omega⟩
    · have hk2 := fun j => stp_keep hJ (f := k) (by omega) hn (by omega) (by omega) j
      rw [hk2, hk2, hk2]
      exact Or.inr ⟨h1, h2, h3, by omega⟩
theorem pkN_c2 {h : Int} {i : Nat} : ∀ n : Nat, pkN S h n (6 + i) 2 = S (6 + i) 2
  | 0 => rfl
  | n + 1 => by
    rw [pkN]
    unfold pk1
    split
    · split <;> (simp (decide := true) only [upA, and_false, if_false]; exact pkN_c2 n)
    · exact pkN_c2 n
theorem pkN_c0 {h : Int} {i : Nat} (hi : ¬ S (6 + i) 0 = 10) : ∀ n : Nat, pkN S h n (6 + i) 0 = S (6 + i) 0
  | 0 => rfl
  | n + 1 => by
    have ih := pkN_c0 (h := h) hi n
    rw [pkN]
    unfold pk1
    by_cases e : i = n
    · subst e
      rw [if_neg (by rw [ih]; exact hi)]; exact ih
    · split
      · split <;> (simp (decide := true) only [upA, show ¬ 6 + i = 6 + n by omega, false_and, if_false]; exact ih)
      · exact ih
theorem tick_meter (hI : Inv q S) {n : Nat} (hn : n < 16) : tick S (6 + n) 2 = S (6 + n) 2 ∨ (tick S (6 + n) 2 = S (6 + n) 2 + 1 ∧ tick S (6 + n) 0 = 6) := by
  have h0 := hI.hd
  unfold hdOK at h0
  have e2 : tick S (6 + n) 2 = stepd S (6 + n) 2 := by
    unfold tick
    rw [upA, if_neg (by omega)]
    unfold parkd
    rw [pkN_c2, allot_lin (i_stepd hI) hn (by decide)]
  have h := meter_N hI hn (S 0 5).toNat (by omega)
  rw [show stpN S (S 0 5).toNat = stepd S from rfl] at h
  rw [e2]
  rcases h with h | ⟨h1, h2, -⟩
  · exact Or.inl h
  · refine Or.inr ⟨h1, ?_⟩
    have e3 : allot (stepd S) (6 + n) 0 = 6 := by rw [allot_lin (i_stepd hI) hn (by decide)]; exact h2
    unfold tick
    rw [upA, if_neg (by omega)]
    unfold parkd
    rw [pkN_c0 (by omega), e3]
-- the lines that wait
theorem uns_stp (hI : Inv q S) (hf : f < 4) {n : Nat} (hn : n < 16) : (uns (stpF S f) n ↔ uns S n) ∧ (uns S n → stpF S f (6 + n) 7 = S (6 + n) 7) := by
  have k : uns S n → ∀ j, stpF S f (6 + n) j = S (6 + n) j := fun h => by
    unfold uns at h
    exact fun j => stp_keep hI hf hn (by omega) (by omega) j
  refine ⟨⟨fun h => ?_, fun h => ?_⟩, fun h => k h 7⟩
  · have a := stp_c0 hf hn h.1
    refine ⟨a, ?_⟩
    have hl := hI.lin n hn
    unfold linOK at hl
    rcases hI.lkL n hn with g | ⟨g, hg, g1, g2, g3⟩
    · exact g.1
    · exfalso
      by_cases e : g = f
      · subst e
        have em : S (22 + g) 0 = 1 ∧ S (22 + g) 2 = (n : Int) := by
          rcases g3 with g3 | g3
          · have := (hI.lkC g hg n hn g2 g3).2
            unfold smt at this
            exact ⟨by omega, g3⟩
          · have := (hI.lkT g hg n hn g3).2
            omega
        have hu := h
        unfold uns at hu
        rw [stpF, stp, if_pos em.1, f_seek] at hu
        have n1 : ¬ 6 + n = 22 + g := by omega
        have n4 : ¬ 6 + n = 0 := by omega
        split at hu
        · rw [em.2, Int.toNat_natCast] at hu
          simp (decide := true) only [upA, bcm, n1, n4, and_self, true_and, and_true, and_false, false_and, if_false, if_true] at hu
        · simp (decide := true) only [upA, n1, false_and, if_false] at hu
          omega
      · have := stp_keep hI hf hn (by rw [g1]; omega) (by omega) 6
        have h6 := h.2
        omega
  · unfold uns
    rw [k h, k h]
    exact h
theorem uns_N (hI : Inv q S) {n : Nat} (hn : n < 16) : ∀ k : Nat, k ≤ 4 → (uns (stpN S k) n ↔ uns S n) ∧ (uns S n → stpN S k (6 + n) 7 = S (6 + n) 7)
  | 0, _ => ⟨Iff.rfl, fun _ => rfl⟩
  | k + 1, hk => by
    have ih := uns_N hI hn k (by omega)
    have h := uns_stp (i_stpN hI k (by omega)) (f := k) (by omega) hn
    rw [stpN]
    exact ⟨h.1.trans ih.1, fun hu => (h.2 (ih.1.mpr hu)).trans (ih.2 hu)⟩
theorem free_N (hI : Inv q S) (hf : f < 4) (hz : S (22 + f) 0 = 0) : ∀ k : Nat, k ≤ 4 → stpN S k (22 + f) 0 = 0
  | 0, _ => hz
  | k + 1, hk => by
    have ih := free_N hI hf hz k (by omega)
    rw [stpN]
    by_cases e : f = k
    · subst e; rw [stpF_0 ih]; exact ih
    · rw [stp_fin (i_stpN hI k (by omega)) (by omega) hf e]; exact ih
/-- the line that waited first is sought by one finder, if one was free -/
theorem tick_first (hI : Inv q S) {z f0 : Nat} (hz : z < 16) (hu : uns S z) (hmin : ∀ n : Nat, n < 16 → uns S n → S (6 + z) 7 ≤ S (6 + n) 7) (hf0 : (f0 : Int) < S 0 5) (hfr : S (22 + f0) 0 = 0) : ∃ g : Nat, (g : Int) < S 0 5 ∧ ∀ f : Nat, f < 4 → ((tick S (22 + f) 0 = 1 ∧ tick S (22 + f) 2 = (z : Int)) ↔ f = g) := by
  have h0 := hI.hd
  unfold hdOK at h0
  have hJ := i_stepd hI
  have e05 : stepd S 0 5 = S 0 5 := stpN_hd (by decide) _
  have hun : ∀ n : Nat, n < 16 → (uns (stepd S) n ↔ uns S n) ∧ (uns S n → stepd S (6 + n) 7 = S (6 + n) 7) := fun n hn => uns_N hI hn (S 0 5).toNat (by omega)
  have hfr1 : stepd S (22 + f0) 0 = 0 := free_N hI (by omega) hfr (S 0 5).toNat (by omega)
  have huz : uns (stepd S) z := (hun z hz).1.mpr hu
  rcases nfr_spec hJ with ⟨-, e⟩ | ⟨g, hg, hg2, eg, ez⟩
  · exact absurd hfr1 (e f0 (by omega))
  rcases fw_spec (stepd S) with ⟨-, e⟩ | ⟨w, hw, ew, hw1, hw2⟩
  · exact absurd huz (e z hz)
  have hwz : w = z := by
    by_cases e : w = z
    · exact e
    · exfalso
      have a1 := hw2 z hz huz
      have a2 := hmin w hw ((hun w hw).1.mp hw1)
      rw [← (hun z hz).2 hu, ← (hun w hw).2 ((hun w hw).1.mp hw1)] at a2
      have := hJ.uqT.1 w z hw hz e hw1.1 huz.1
      omega
  subst hwz
  refine ⟨g, by omega, fun f hf => ?_⟩
  rw [tick_fin, tick_fin]
  unfold allot
  rw [if_neg (by omega), if_neg (by omega), eg, ew, Int.toNat_natCast, Int.toNat_natCast]
  by_cases e : f = g
  · subst e
    refine ⟨fun _ => rfl, fun _ => ?_⟩
    simp (decide := true) only [upA, bcm, show ¬ 22 + f = 0 by omega, show ¬ 22 + f = 6 + w by omega, false_and, and_false, if_false, true_and, if_true, and_self]
  · simp only [upA, bcm, show ¬ 22 + f = 0 by omega, show ¬ 22 + f = 6 + w by omega, show ¬ 22 + f = 22 + g by omega, false_and, if_false]
    refine ⟨fun h => ?_, fun h => absurd h e⟩
    have := (hJ.lkC f hf w hw (by omega) h.2).1
    unfold uns at huz
    omega
end TF
