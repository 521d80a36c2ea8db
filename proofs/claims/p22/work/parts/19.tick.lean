-- ===== parking, the time, a whole tick =====
/-- a line and the head change; the links stay -/
theorem Inv_same {q q' : Int} {S S' : SS} {n : Nat} (hI : Inv q S) (hq : q ≤ q') (hn : n < 16) (eo : ∀ k, ¬ k = 6 + n → ¬ k = 0 → ∀ j, S' k j = S k j) (hH : hdOK q' (S' 0)) (e05 : S' 0 5 = S 0 5) (e06 : S' 0 6 = S 0 6) (e9 : S' 0 9 = S 0 9) (e10 : S' 0 10 = S 0 10) (e11 : S' 0 11 = S 0 11) (e12 : S' 0 12 = S 0 12)
    (l0 : S' (6 + n) 0 = S (6 + n) 0) (l2 : S' (6 + n) 2 = S (6 + n) 2) (l6 : S' (6 + n) 6 = S (6 + n) 6) (l7 : S' (6 + n) 7 = S (6 + n) 7) (hL : linOK q' (S' (6 + n))) : Inv q' S' := by
  have hfo : ∀ j : Nat, j < 4 → ∀ i, S' (22 + j) i = S (22 + j) i := fun j hj => eo _ (by omega) (by omega)
  have hlo : ∀ j : Nat, j < 16 → ¬ j = n → ∀ i, S' (6 + j) i = S (6 + j) i := fun j hj e => eo _ (by omega) (by omega)
  have h0 : ∀ j : Nat, j < 16 → S' (6 + j) 0 = S (6 + j) 0 := fun j hj => by
    by_cases e : j = n
    · subst e; exact l0
    · exact hlo j hj e 0
  have h2 : ∀ j : Nat, j < 16 → S' (6 + j) 2 = S (6 + j) 2 := fun j hj => by
    by_cases e : j = n
    · subst e; exact l2
    · exact hlo j hj e 2
  have h6 : ∀ j : Nat, j < 16 → S' (6 + j) 6 = S (6 + j) 6 := fun j hj => by
    by_cases e : j = n
    · subst e; exact l6
    · exact hlo j hj e 6
  have h7 : ∀ j : Nat, j < 16 → S' (6 + j) 7 = S (6 + j) 7 := fun j hj => by
    by_cases e : j = n
    · subst e; exact l7
    · exact hlo j hj e 7
  refine ⟨hH, rowOK (P := setOK) (eo 5 (by omega) (by omega)) hI.set, by rw [eo 3 (by omega) (by omega)]; exact hI.no, fun j hj => ?_, fun i hi => ?_, fun j hj hnf => ?_, fun j hj => ?_, fun j hj => ?_, fun i hi => ?_, fun a b ha hb hab => ?_, ⟨fun i m hi hm him a1 a2 => ?_, fun i hi a1 => ?_⟩, ?_⟩
  · rw [e06]
    exact rowOK (P := finOK q' (S 0 6)) (hfo j hj) (finOK_mono hq (hI.fin j hj))
  · by_cases e : i = n
    · subst e; exact hL
    · exact rowOK (P := linOK q') (hlo i hi e) (linOK_mono hq (hI.lin i hi))
  · rw [e05] at hnf
    rw [hfo j hj]; exact hI.off j hj hnf
  · intro c hc hm g2
    rw [hfo j hj] at hm g2 ⊢
    rw [h6 c hc, h0 c hc]
    exact hI.lkC j hj c hc hm g2
  · intro t ht g2
    rw [hfo j hj] at g2 ⊢
    rw [h6 t ht, h0 t ht]
    exact hI.lkT j hj t ht g2
  · unfold lkL
    rw [h6 i hi, h0 i hi]
    rcases hI.lkL i hi with g | ⟨f, hf, g1, g2, g3⟩
    · exact Or.inl g
    · exact Or.inr ⟨f, hf, g1, by rw [hfo f hf]; exact g2, by rw [hfo f hf, hfo f hf]; exact g3⟩
  · unfold uqX
    rw [hfo a ha, hfo b hb, hfo a ha, hfo b hb, hfo a ha, hfo b hb]
    exact hI.uqX a b ha hb hab
  · rw [h0 i hi] at a1
    rw [h0 m hm] at a2
    rw [h7 i hi, h7 m hm]
    exact hI.uqT.1 i m hi hm him a1 a2
  · rw [h0 i hi] at a1
    rw [h7 i hi, e9]
    exact hI.uqT.2 i hi a1
  · obtain ⟨k1, k2, k3, k4, k5⟩ := hI.cnt
    unfold cnt
    have s1 : ∀ g : Int → Int, sm (fun n => g (S' (6 + n) 0)) 16 = sm (fun n => g (S (6 + n) 0)) 16 := fun g => sm_eq 16 (fun i hi => by simp only [h0 i hi])
    have s2 : ∀ g : Int → Int, sm (fun n => g (S' (22 + n) 0)) 4 = sm (fun n => g (S (22 + n) 0)) 4 := fun g => sm_eq 4 (fun i hi => by simp only [hfo i hi])
    have s3 : sm (fun n => S' (6 + n) 2) 16 = sm (fun n => S (6 + n) 2) 16 := sm_eq 16 (fun i hi => h2 i hi)
    rw [e9, e10, e11, e12, s1 w1, s1 rv, s2 w2, s2 w3, s3]
    exact ⟨k1, k2, k3, k4, k5⟩
/-- a line without a finder changes its state -/
theorem Inv_line {q q' : Int} {S S' : SS} {n : Nat} (hI : Inv q S) (hq : q ≤ q') (hn : n < 16) (eo : ∀ k, ¬ k = 6 + n → ¬ k = 0 → ∀ j, S' k j = S k j) (hH : hdOK q' (S' 0)) (e05 : S' 0 5 = S 0 5) (e06 : S' 0 6 = S 0 6) (e9 : S 0 9 ≤ S' 0 9) (e10 : S' 0 10 = S 0 10) (e11 : S' 0 11 = S 0 11) (e12 : S' 0 12 = S 0 12)
    (hp : S (6 + n) 6 = -6) (hp' : S' (6 + n) 6 = -6) (hs : S' (6 + n) 0 = 0 ∨ S' (6 + n) 0 = 1 ∨ S' (6 + n) 0 = 10 ∨ S' (6 + n) 0 = 11) (hL : linOK q' (S' (6 + n))) (l2 : S' (6 + n) 2 = S (6 + n) 2)
    (ht : S' (6 + n) 0 = 1 → S 0 9 < S' (6 + n) 7 ∧ S' (6 + n) 7 ≤ S' 0 9) (d1 : S 0 9 - w1 (S (6 + n) 0) ≤ S' 0 9 - w1 (S' (6 + n) 0)) : Inv q' S' := by
  have hfo : ∀ j : Nat, j < 4 → ∀ i, S' (22 + j) i = S (22 + j) i := fun j hj => eo _ (by omega) (by omega)
  have hlo : ∀ j : Nat, j < 16 → ¬ j = n → ∀ i, S' (6 + j) i = S (6 + j) i := fun j hj e => eo _ (by omega) (by omega)
  have hrest : S (6 + n) 0 = 0 ∨ S (6 + n) 0 = 1 ∨ S (6 + n) 0 = 10 ∨ S (6 + n) 0 = 11 := by
    rcases hI.lkL n hn with g | ⟨f, hf, g1, -⟩
    · exact g.2
    · omega
  refine ⟨hH, rowOK (P := setOK) (eo 5 (by omega) (by omega)) hI.set, by rw [eo 3 (by omega) (by omega)]; exact hI.no, fun j hj => ?_, fun i hi => ?_, fun j hj hnf => ?_, fun j hj => ?_, fun j hj => ?_, fun i hi => ?_, fun a b ha hb hab => ?_, ⟨fun i m hi hm him a1 a2 => ?_, fun i hi a1 => ?_⟩, ?_⟩
  · rw [e06]
    exact rowOK (P := finOK q' (S 0 6)) (hfo j hj) (finOK_mono hq (hI.fin j hj))
  · by_cases e : i = n
    · subst e; exact hL
    · exact rowOK (P := linOK q') (hlo i hi e) (linOK_mono hq (hI.lin i hi))
  · rw [e05] at hnf
    rw [hfo j hj]; exact hI.off j hj hnf
  · intro c hc hm g2
    rw [hfo j hj] at hm g2 ⊢
    have := hI.lkC j hj c hc hm g2
    by_cases e : c = n
    · subst e; omega
    · rw [hlo c hc e, hlo c hc e]; exact this
  · intro t ht g2
    rw [hfo j hj] at g2 ⊢
    have := hI.lkT j hj t ht g2
    by_cases e : t = n
    · subst e; omega
    · rw [hlo t ht e, hlo t ht e]; exact this
  · by_cases e : i = n
    · subst e; exact Or.inl ⟨hp', hs⟩
    · unfold lkL
      rw [hlo i hi e, hlo i hi e]
      rcases hI.lkL i hi with g | ⟨f, hf, g1, g2, g3⟩
      · exact Or.inl g
      · exact Or.inr ⟨f, hf, g1, by rw [hfo f hf]; exact g2, by rw [hfo f hf, hfo f hf]; exact g3⟩
  · unfold uqX
    rw [hfo a ha, hfo b hb, hfo a ha, hfo b hb, hfo a ha, hfo b hb]
    exact hI.uqX a b ha hb hab
  · by_cases e : i = n
    · subst e
      have g := ht a1
      rw [hlo m hm (fun z => him z.symm)] at a2 ⊢
      have := hI.uqT.2 m hm a2
      omega
    · rw [hlo i hi e] at a1 ⊢
      by_cases e2 : m = n
      · subst e2
        have g := ht a2
        have := hI.uqT.2 i hi a1
        omega
      · rw [hlo m hm e2] at a2 ⊢
        exact hI.uqT.1 i m hi hm him a1 a2
  · by_cases e : i = n
    · subst e; exact (ht a1).2
    · rw [hlo i hi e] at a1 ⊢
      have := hI.uqT.2 i hi a1
      omega
  · obtain ⟨k1, k2, k3, k4, k5⟩ := hI.cnt
    have r0 : rv (S (6 + n) 0) = 0 := by unfold rv; rw [if_neg (by omega), if_neg (by omega)]
    have r1 : rv (S' (6 + n) 0) = 0 := by unfold rv; rw [if_neg (by omega), if_neg (by omega)]
    unfold cnt
    have s1 : ∀ g : Int → Int, sm (fun n => g (S' (6 + n) 0)) 16 = sm (fun n => g (S (6 + n) 0)) 16 + (g (S' (6 + n) 0) - g (S (6 + n) 0)) := fun g => by
      rw [sm_one (g := fun n => g (S (6 + n) 0)) (g' := fun n => g (S' (6 + n) 0)) (c := n) 16 (fun i hi e => by simp only [hlo i hi e]), if_pos hn]
    have s2 : ∀ g : Int → Int, sm (fun n => g (S' (22 + n) 0)) 4 = sm (fun n => g (S (22 + n) 0)) 4 := fun g => sm_eq 4 (fun i hi => by simp only [hfo i hi])
    have s3 : sm (fun n => S' (6 + n) 2) 16 = sm (fun n => S (6 + n) 2) 16 := sm_eq 16 (fun i hi => by
      by_cases e : i = n
      · subst e; exact l2
      · exact hlo i hi e 2)
    rw [e10, e11, e12, s1 w1, s1 rv, s2 w2, s2 w3, s3]
    exact ⟨by omega, by omega, by omega, by omega, by omega⟩
section PK
variable {q : Int} {S : SS}
theorem i_pk1 (hI : Inv q S) {n : Nat} (hn : n < 16) (h : Int) : Inv (q + 1) (pk1 S (6 + n) h) := by
  have N4 : ¬ 0 = 6 + n := by omega
  have hl := hI.lin n hn
  have h0 := hI.hd
  unfold hdOK at h0
  have hH : hdOK (q + 1) (S 0) := by unfold hdOK; omega
  unfold pk1
  by_cases e : S (6 + n) 0 = 10
  · rw [if_pos e]
    have hp : S (6 + n) 6 = -6 := by
      rcases hI.lkL n hn with g | ⟨f, hf, g1, g2, g3⟩
      · exact g.1
      · rcases g3 with g3 | g3
        · have := (hI.lkC f hf n hn g2 g3).2
          unfold smt at this; omega
        · have := (hI.lkT f hf n hn g3).2
          omega
    unfold linOK at hl
    by_cases e2 : S (6 + n) 8 + 1 < h
    · rw [if_pos e2]
      refine Inv_same hI (by omega) hn (fun k a b j => by simp [upA, a]) (rowOK (P := hdOK (q + 1)) (fun j => by simp [upA, N4]) hH) (by simp [upA]) (by simp [upA]) (by simp [upA]) (by simp [upA]) (by simp [upA]) (by simp [upA]) (by simp [upA]) (by simp [upA]) (by simp [upA]) (by simp [upA]) ?_
      unfold linOK
      simp [upA]
      omega
    · rw [if_neg e2]
      refine Inv_line hI (by omega) hn (fun k a b j => by simp [upA, a]) (rowOK (P := hdOK (q + 1)) (fun j => by simp [upA, N4]) hH) (by simp [upA]) (by simp [upA]) (by simp [upA]) (by simp [upA]) (by simp [upA]) (by simp [upA]) hp (by simp [upA]; exact hp) (by simp [upA]) ?_ (by simp [upA]) (by simp [upA]) (by simp [upA, w1, e])
      unfold linOK
      simp [upA]
      omega
  · rw [if_neg e]
    obtain ⟨a, b, c, d, e, r⟩ := hI
    exact ⟨hH, b, c, fun f hf => finOK_mono (by omega) (d f hf), fun n hn => linOK_mono (by omega) (e n hn), r⟩
theorem pk1_row {n k j : Nat} {h : Int} (hk : ¬ k = 6 + n) : pk1 S (6 + n) h k j = S k j := by
  unfold pk1
  split
  · split <;> simp [upA, hk]
  · rfl
theorem pkN_row {h : Int} : ∀ (n k j : Nat), (∀ i, i < n → ¬ k = 6 + i) → pkN S h n k j = S k j
  | 0, _, _, _ => rfl
  | n + 1, k, j, hk => by rw [pkN, pk1_row (hk n (by omega)), pkN_row n k j (fun i hi => hk i (by omega))]
theorem i_pkN (hI : Inv q S) (h : Int) : ∀ n : Nat, n ≤ 16 → Inv (q + n) (pkN S h n)
  | 0, _ => by rw [pkN, show q + ((0 : Nat) : Int) = q by omega]; exact hI
  | n + 1, hn => by
    rw [pkN, show q + ((n + 1 : Nat) : Int) = q + n + 1 by omega]
    exact i_pk1 (i_pkN hI h n (by omega)) (by omega) h
theorem w_pk {X : ES} {K : ES → Prop} (hq : 0 ≤ q ∧ q < 900000) (hI : Inv q S) {h : Int} (hh : 0 ≤ h ∧ h < 1000) : ∀ (m n : Nat) (X : ES), n + m = 16 → Ag (pkN S h n) X → (∀ X', Ag (pkN S h 16) X' → K X') → wpl_X0_countParked_8 (en h) K (fun _ X => K X) (m + 1) (en (n : Int)) X
  | 0, n, X, hn, hA, hK => by
    have e : n = 16 := by omega
    subst e
    rw [wpl_X0_countParked_8]
    exact ⟨fun _ => hK X hA, fun z => absurd (show (16 : Int32) ≤ 16 by decide) z⟩
  | m + 1, n, X, hn, hA, hK => by
    rw [wpl_X0_countParked_8]
    refine ⟨fun z => absurd z ?_, fun _ => ?_⟩
    · rw [show (16 : Int32) = en 16 from rfl, en_le (by omega) (by omega) (by omega) (by omega)]
      omega
    · have hl := (i_pkN hI h n (by omega)).lin n (by omega)
      unfold linOK at hl
      have r0 := hA.l (k := 6 + n) (by omega) (j := 0) (by decide)
      have r8 := hA.l (k := 6 + n) (by omega) (j := 8) (by decide)
      rw [lix_en (by omega) (by omega), Int.toNat_natCast]
      simp only [wp_X2_waitParked, forall_eq]
      rw [show en (n : Int) + 1 = en ((n + 1 : Nat) : Int) from en_s _]
      have ih := fun X hX => w_pk (X := X) hq hI hh m (n + 1) X (by omega) hX hK
      rw [pkN] at ih
      refine ⟨fun e => ⟨fun e2 => ih _ ?_, fun e2 => ih _ ?_⟩, fun e => ih _ ?_⟩
      · rw [r0, e_10 (by omega) (by omega)] at e
        rw [pk_us, r8, en_s, en_lt (by omega) (by omega) (by omega) (by omega)] at e2
        rw [pk1, if_pos e, if_pos e2]
        exact hA.slf.up (by rw [r8, en_s])
      · rw [r0, e_10 (by omega) (by omega)] at e
        rw [pk_us, r8, en_s, en_lt (by omega) (by omega) (by omega) (by omega)] at e2
        rw [pk1, if_pos e, if_neg e2]
        exact ((hA.slf.up (by rw [r8, en_s])).up rfl).up rfl
      · rw [r0, e_10 (by omega) (by omega)] at e
        rw [pk1, if_neg e]
        exact hA.slf
theorem i_stpN (hI : Inv q S) : ∀ n : Nat, n ≤ 4 → Inv (q + n) (stpN S n)
  | 0, _ => by rw [stpN, show q + ((0 : Nat) : Int) = q by omega]; exact hI
  | n + 1, hn => by
    rw [stpN, show q + ((n + 1 : Nat) : Int) = q + n + 1 by omega]
    exact i_stpF (i_stpN hI n (by omega)) (by omega)
theorem stpN_hd {j : Nat} (hj : j < 10) : ∀ n : Nat, stpN S n 0 j = S 0 j
  | 0 => rfl
  | n + 1 => by rw [stpN, stp_hd hj, stpN_hd hj n]
theorem stpN_set {j : Nat} : ∀ n : Nat, stpN S n 5 j = S 5 j
  | 0 => rfl
  | n + 1 => by rw [stpN, stp_set, stpN_set n]
theorem w_stpN {K0 K : ES → Prop} (hq : 0 ≤ q ∧ q < 800000) (hI : Inv q S) : ∀ (m n : Nat) (X : ES), (n : Int) + m = S 0 5 → Ag (stpN S n) X → (∀ X', Ag (stepd S) X' → K X') → wpl_X0_pass_9 K0 (fun _ X => K X) (m + 1) (en (n : Int)) X
  | 0, n, X, hn, hA, hK => by
    have h0 := hI.hd
    unfold hdOK at h0
    rw [wpl_X0_pass_9]
    refine ⟨fun _ => hK X ?_, fun z => absurd ?_ z⟩
    · unfold stepd
      rw [show (S 0 5).toNat = n by omega]; exact hA
    · rw [hA.h (j := 5) (by decide) (by decide), stpN_hd (by decide), en_le (by omega) (by omega) (by omega) (by omega)]
      omega
  | m + 1, n, X, hn, hA, hK => by
    have h0 := hI.hd
    unfold hdOK at h0
    rw [wpl_X0_pass_9]
    refine ⟨fun z => absurd z ?_, fun _ => ?_⟩
    · rw [hA.h (j := 5) (by decide) (by decide), stpN_hd (by decide), en_le (by omega) (by omega) (by omega) (by omega)]
      omega
    · rw [fix_en (by omega) (by omega), Int.toNat_natCast]
      refine w_take hA (q := q + n) (by omega) (i_stpN hI n (by omega)) (by omega) (fun X' hX' => ?_)
      simp only [forall_eq]
      rw [show en (n : Int) + 1 = en ((n + 1 : Nat) : Int) from en_s _]
      exact w_stpN hq hI m (n + 1) X' (by omega) hX' hK
theorem i_stepd (hI : Inv q S) : Inv (q + 4) (stepd S) := by
  have h0 := hI.hd
  unfold hdOK at h0
  have h := i_stpN hI (S 0 5).toNat (by omega)
  obtain ⟨a, b, c, d, e, r⟩ := h
  refine ⟨?_, b, c, fun f hf => finOK_mono (by omega) (d f hf), fun n hn => linOK_mono (by omega) (e n hn), r⟩
  unfold hdOK at a ⊢
  unfold stepd
  omega
theorem allot_hd {j : Nat} (hj : ¬ j = 8) : allot S 0 j = S 0 j := by
  unfold allot
  split
  · rfl
  · split
    · rfl
    · simp only [upA, bcm, show ∀ x, ¬ 0 = 22 + x from fun x => by omega, show ∀ x, ¬ 0 = 6 + x from fun x => by omega, hj, false_and, and_false, if_false]
theorem allot_set {j : Nat} : allot S 5 j = S 5 j := by
  unfold allot
  split
  · rfl
  · split
    · rfl
    · simp only [upA, bcm, show ∀ x, ¬ 5 = 22 + x from fun x => by omega, show ∀ x, ¬ 5 = 6 + x from fun x => by omega, show ¬ 5 = 0 by decide, false_and, and_false, if_false]
theorem parkd_hd {j : Nat} : parkd S 0 j = S 0 j := pkN_row 16 0 j (fun i _ => by omega)
theorem parkd_fin {f j : Nat} : parkd S (22 + f) j = S (22 + f) j := pkN_row 16 (22 + f) j (fun i _ => by omega)
/-- the time alone changes -/
theorem Inv_time {q q' : Int} {v : Int} (hI : Inv q S) (hq : q ≤ q') (hv : 0 ≤ v ∧ v ≤ q') : Inv q' (up S 0 7 v) := by
  have h0 := hI.hd
  have hl := hI.lin 0 (by decide)
  refine Inv_same hI hq (n := 0) (by decide) (fun k a b j => by simp [upA, b]) ?_ (by simp [upA]) (by simp [upA]) (by simp [upA]) (by simp [upA]) (by simp [upA]) (by simp [upA]) (by simp [upA]) (by simp [upA]) (by simp [upA]) (by simp [upA]) ?_
  · unfold hdOK at h0 ⊢
    simp [upA]
    omega
  · exact rowOK (P := linOK q') (A := S 6) (fun j => by simp [upA]) (linOK_mono hq hl)
theorem i_tick (hI : Inv q S) : Inv (q + 21) (tick S) := by
  have h1 := i_pkN (i_allot (i_stepd hI)) (allot (stepd S) 5 4) 16 (by omega)
  have h2 := h1.hd
  unfold hdOK at h2
  exact Inv_time h1 (by omega) ⟨by show 0 ≤ pkN (allot (stepd S)) (allot (stepd S) 5 4) 16 0 7 + 1; omega, by show pkN (allot (stepd S)) (allot (stepd S) 5 4) 16 0 7 + 1 ≤ _; omega⟩
theorem w_pass1 {X : ES} {K : ES → Prop} (h : Ag S X) (hq : 0 ≤ q ∧ q < 500000) (hI : Inv q S) (hK : ∀ X', Ag (tick S) X' → K X') : wp_X0_pass X 1 K := by
  have h0 := hI.hd
  unfold hdOK at h0
  refine ⟨2, ?_⟩
  rw [wpl_X0_pass_2]
  refine ⟨fun z => absurd z (by decide), fun _ => ⟨(S 0 5).toNat + 1, w_stpN (K := fun X => _) (q := q) (by omega) hI (S 0 5).toNat 0 X (by omega) h (fun X1 hA1 => ?_)⟩⟩
  refine w_allot hA1 (q := q + 4) (by omega) (i_stepd hI) (fun X2 hA2 => ?_)
  have hI2 := i_allot (i_stepd hI)
  have hs := hI2.set
  unfold setOK at hs
  unfold wp_X0_countParked
  rw [stg_4, hA2.s (j := 4) (by decide)]
  refine ⟨17, w_pk (X := X2) (K := fun X => _) (q := q + 4) (by omega) hI2 (by omega) 16 0 X2 rfl hA2 (fun X3 hA3 => ?_)⟩
  simp only [forall_eq]
  rw [wpl_X0_pass_2]
  refine ⟨fun _ => hK _ ?_, fun z => absurd (show (1 : Int32) ≤ 0 + 1 by decide) z⟩
  refine Ag.up (S := parkd (allot (stepd S))) (Ag.slf hA3) ?_
  rw [hA3.h (by decide) (by decide), en_s]
  rfl
end PK
