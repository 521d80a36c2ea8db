-- ===== the allotter =====
def uns (S : SS) (n : Nat) : Prop := S (6 + n) 0 = 1 ∧ S (6 + n) 6 = -6
theorem nfN_rng {q : Int} {S : SS} (hI : Inv q S) {i : Int} (h1 : 1 ≤ i) (h2 : i ≤ S 0 5) : 0 ≤ nfN S i ∧ nfN S i < S 0 5 := by
  have h0 := hI.hd
  unfold hdOK at h0
  unfold nfN
  split <;> omega
theorem nfF_spec {q : Int} {S : SS} (hI : Inv q S) : ∀ (m : Nat) (i : Int), 1 ≤ i → i + m = S 0 5 + 1 → (nfF S m i = -6 ∧ ∀ j : Int, i ≤ j → j ≤ S 0 5 → ¬ S (22 + (nfN S j).toNat) 0 = 0) ∨ (0 ≤ nfF S m i ∧ nfF S m i < S 0 5 ∧ S (22 + (nfF S m i).toNat) 0 = 0)
  | 0, i, h1, h2 => Or.inl ⟨rfl, fun j hj hj2 => by omega⟩
  | m + 1, i, h1, h2 => by
    rw [nfF]
    by_cases e : S (22 + (nfN S i).toNat) 0 = 0
    · rw [if_pos e]
      have := nfN_rng hI h1 (by omega)
      exact Or.inr ⟨this.1, this.2, e⟩
    · rw [if_neg e]
      rcases nfF_spec hI m (i + 1) (by omega) (by omega) with ⟨a, b⟩ | a
      · refine Or.inl ⟨a, fun j hj hj2 => ?_⟩
        by_cases e2 : j = i
        · rw [e2]; exact e
        · exact b j (by omega) hj2
      · exact Or.inr a
theorem nfr_spec {q : Int} {S : SS} (hI : Inv q S) : (nfr S = -6 ∧ ∀ f : Nat, (f : Int) < S 0 5 → ¬ S (22 + f) 0 = 0) ∨ ∃ f : Nat, f < 4 ∧ (f : Int) < S 0 5 ∧ nfr S = (f : Int) ∧ S (22 + f) 0 = 0 := by
  have h0 := hI.hd
  unfold hdOK at h0
  rcases nfF_spec hI (S 0 5).toNat 1 (by omega) (by omega) with ⟨a, b⟩ | ⟨a, b, c⟩
  · refine Or.inl ⟨a, fun f hf => ?_⟩
    by_cases e : (f : Int) ≤ S 0 8
    · have := b (f - S 0 8 + S 0 5) (by omega) (by omega)
      have e2 : nfN S (f - S 0 8 + S 0 5) = (f : Int) := by unfold nfN; split <;> omega
      rw [e2] at this
      exact this
    · have := b (f - S 0 8) (by omega) (by omega)
      have e2 : nfN S (f - S 0 8) = (f : Int) := by unfold nfN; split <;> omega
      rw [e2] at this
      exact this
  · obtain ⟨f, hf⟩ := Int.eq_ofNat_of_zero_le a
    have hf : nfr S = (f : Int) := hf
    refine Or.inr ⟨f, ?_, ?_, hf, ?_⟩
    · have : nfr S < S 0 5 := b
      omega
    · have : nfr S < S 0 5 := b
      omega
    · have : S (22 + (nfr S).toNat) 0 = 0 := c
      rw [hf] at this
      exact this
theorem fwF_spec {S : SS} : ∀ (m i : Nat) (w : Int), ((w = -6 ∧ ∀ n : Nat, n < i → ¬ uns S n) ∨ ∃ z : Nat, z < i ∧ w = (z : Int) ∧ uns S z ∧ ∀ n : Nat, n < i → uns S n → S (6 + z) 7 ≤ S (6 + n) 7) → ((fwF S m i w = -6 ∧ ∀ n : Nat, n < i + m → ¬ uns S n) ∨ ∃ z : Nat, z < i + m ∧ fwF S m i w = (z : Int) ∧ uns S z ∧ ∀ n : Nat, n < i + m → uns S n → S (6 + z) 7 ≤ S (6 + n) 7)
  | 0, i, w, h => by rw [fwF]; exact h
  | m + 1, i, w, h => by
    rw [fwF, show i + (m + 1) = (i + 1) + m by omega]
    by_cases g : S (6 + i) 0 = 1 ∧ S (6 + i) 6 = -6 ∧ (w = -6 ∨ S (6 + i) 7 < S (6 + w.toNat) 7)
    · rw [if_pos g]
      refine fwF_spec m (i + 1) i (Or.inr ⟨i, by omega, rfl, ⟨g.1, g.2.1⟩, fun n hn hu => ?_⟩)
      by_cases e : n = i
      · subst e; omega
      · rcases h with ⟨h1, h2⟩ | ⟨z, h1, h2, h3, h4⟩
        · exact absurd hu (h2 n (by omega))
        · have := h4 n (by omega) hu
          rcases g.2.2 with g3 | g3
          · omega
          · rw [h2] at g3
            rw [Int.toNat_natCast] at g3
            omega
    · rw [if_neg g]
      refine fwF_spec m (i + 1) w ?_
      rcases h with ⟨h1, h2⟩ | ⟨z, h1, h2, h3, h4⟩
      · refine Or.inl ⟨h1, fun n hn hu => ?_⟩
        by_cases e : n = i
        · subst e; exact g ⟨hu.1, hu.2, Or.inl h1⟩
        · exact h2 n (by omega) hu
      · refine Or.inr ⟨z, by omega, h2, h3, fun n hn hu => ?_⟩
        by_cases e : n = i
        · subst e
          have : ¬ S (6 + n) 7 < S (6 + w.toNat) 7 := fun z => g ⟨hu.1, hu.2, Or.inr z⟩
          rw [h2, Int.toNat_natCast] at this
          omega
        · exact h4 n (by omega) hu
theorem fw_spec (S : SS) : (fw S = -6 ∧ ∀ n : Nat, n < 16 → ¬ uns S n) ∨ ∃ z : Nat, z < 16 ∧ fw S = (z : Int) ∧ uns S z ∧ ∀ n : Nat, n < 16 → uns S n → S (6 + z) 7 ≤ S (6 + n) 7 :=
  fwF_spec 16 0 (-6) (Or.inl ⟨rfl, fun n hn => by omega⟩)
-- the machine's side
theorem q_wait {L : CS} {s p : Int} {K : Int32 → Prop} (h0 : L 0 = en s) (h6 : L 6 = en p) (b0 : 0 ≤ s ∧ s < 1000) (b6 : -6 ≤ p ∧ p < 1000) : wp_X2_waitsUnsought L K = K (if s = 1 ∧ p = -6 then 1 else 0) := by
  unfold wp_X2_waitsUnsought
  rw [h0, h6, e_1 (by omega) (by omega), e_m6 (by omega) (by omega)]
  by_cases a : s = 1
  · by_cases b : p = -6
    · simp [a, b]
    · simp [a, b]
  · simp [a]
section WN
variable {S : SS} {X : ES} {q : Int}
theorem w_nf (h : Ag S X) (hq : 0 ≤ q ∧ q < 1000000) (hI : Inv q S) {K : Int32 → Prop} : ∀ (m : Nat) (i : Int), 1 ≤ i → i + m = S 0 5 + 1 → K (en (nfF S m i)) → wpl_X0_nextFreeFinder_2 X K (fun _ => K (-6)) (m + 1) (en i)
  | 0, i, h1, h2, hK => by
    have h0 := hI.hd
    unfold hdOK at h0
    rw [wpl_X0_nextFreeFinder_2]
    refine ⟨fun _ => hK, fun z => absurd ?_ z⟩
    rw [h.h (j := 5) (by decide) (by decide), en_lt (by omega) (by omega) (by omega) (by omega)]
    omega
  | m + 1, i, h1, h2, hK => by
    have h0 := hI.hd
    unfold hdOK at h0
    have hr := nfN_rng hI h1 (by omega)
    rw [wpl_X0_nextFreeFinder_2]
    refine ⟨fun z => absurd z ?_, fun _ => ?_⟩
    · rw [h.h (j := 5) (by decide) (by decide), en_lt (by omega) (by omega) (by omega) (by omega)]
      omega
    · have hf := hI.fin (nfN S i).toNat (by omega)
      unfold finOK at hf
      have ih := w_nf h hq hI (K := K) m (i + 1) (by omega) (by omega)
      simp only [forall_eq]
      rw [h.h (j := 5) (by decide) (by decide), h.h (j := 8) (by decide) (by decide), en_s, en_add, en_sub, en_lt (by omega) (by omega) (by omega) (by omega)]
      have key : ∀ z : Int, z = nfN S i → (X (fix (en z)) 0 = 0 → K (en z)) ∧ (¬ X (fix (en z)) 0 = 0 → wpl_X0_nextFreeFinder_2 X K (fun _ => K (-6)) (m + 1) (en (i + 1))) := by
        intro z hz
        subst hz
        rw [fix_en hr.1 (by omega), h.f (by omega) (by decide), e_0 (by omega) (by omega)]
        rw [nfF] at hK
        refine ⟨fun e => ?_, fun e => ?_⟩
        · rw [if_pos e] at hK; exact hK
        · rw [if_neg e] at hK; exact ih hK
      refine ⟨fun z => key _ ?_, fun z => key _ ?_⟩
      · unfold nfN; rw [if_pos z]
      · unfold nfN; rw [if_neg z]
theorem w_fw (h : Ag S X) (hq : 0 ≤ q ∧ q < 1000000) (hI : Inv q S) {K : Int32 → Prop} : ∀ (m i : Nat) (w : Int), i + m = 16 → (w = -6 ∨ (0 ≤ w ∧ w < 16)) → K (en (fwF S m i w)) → wpl_X0_firstWaitingLine_5 X K (fun j _ => K j) (m + 1) (en w) (en (i : Int))
  | 0, i, w, h1, h2, hK => by
    rw [wpl_X0_firstWaitingLine_5]
    refine ⟨fun _ => hK, fun z => absurd ?_ z⟩
    rw [show (16 : Int32) = en 16 from rfl, en_le (by omega) (by omega) (by omega) (by omega)]
    omega
  | m + 1, i, w, h1, h2, hK => by
    rw [wpl_X0_firstWaitingLine_5]
    refine ⟨fun z => absurd z ?_, fun _ => ?_⟩
    · rw [show (16 : Int32) = en 16 from rfl, en_le (by omega) (by omega) (by omega) (by omega)]
      omega
    · have hl := hI.lin i (by omega)
      unfold linOK at hl
      have hx := fun j (hj : j < 9) => h.l (k := 6 + i) (by omega) hj
      rw [lix_en (by omega) (by omega), Int.toNat_natCast, q_wait (hx 0 (by decide)) (hx 6 (by decide)) (by omega) (by omega)]
      simp only [forall_eq]
      rw [show en (i : Int) + 1 = en ((i + 1 : Nat) : Int) from en_s _, e_m6 (by omega) (by omega)]
      rw [fwF] at hK
      by_cases a : S (6 + i) 0 = 1 ∧ S (6 + i) 6 = -6
      · rw [if_pos a]
        refine ⟨fun z => absurd z (by decide), fun _ => ⟨fun e => ?_, fun e => ⟨fun e2 => ?_, fun e2 => ?_⟩⟩⟩
        · rw [if_pos ⟨a.1, a.2, Or.inl e⟩] at hK
          exact w_fw h hq hI (K := K) m (i + 1) i (by omega) (by omega) hK
        · have hlw := hI.lin w.toNat (by omega)
          unfold linOK at hlw
          rw [lix_en (by omega) (by omega), h.l (k := 6 + w.toNat) (by omega) (by decide), hx 7 (by decide), en_le (by omega) (by omega) (by omega) (by omega)] at e2
          rw [if_neg (fun z => z.2.2.elim (fun z => e z) (fun z => by omega))] at hK
          exact w_fw h hq hI (K := K) m (i + 1) w (by omega) h2 hK
        · have hlw := hI.lin w.toNat (by omega)
          unfold linOK at hlw
          rw [lix_en (by omega) (by omega), h.l (k := 6 + w.toNat) (by omega) (by decide), hx 7 (by decide), en_le (by omega) (by omega) (by omega) (by omega)] at e2
          rw [if_pos ⟨a.1, a.2, Or.inr (by omega)⟩] at hK
          exact w_fw h hq hI (K := K) m (i + 1) i (by omega) (by omega) hK
      · rw [if_neg a]
        rw [if_neg (fun z => a ⟨z.1, z.2.1⟩)] at hK
        exact ⟨fun _ => w_fw h hq hI (K := K) m (i + 1) w (by omega) h2 hK, fun z => absurd rfl z⟩
theorem w_allot (h : Ag S X) (hq : 0 ≤ q ∧ q < 1000000) (hI : Inv q S) {K : ES → Prop} (hK : ∀ X', Ag (allot S) X' → K X') : wp_X0_allotFinder X K := by
  have h0 := hI.hd
  unfold hdOK at h0
  unfold wp_X0_allotFinder
  refine ⟨(S 0 5).toNat + 1, w_nf h hq hI (K := fun r_1 => (r_1 = (-6) → (K X)) ∧ (¬ r_1 = (-6) → _)) (S 0 5).toNat 1 (by omega) (by omega) ?_⟩
  rw [show nfF S (S 0 5).toNat 1 = nfr S from rfl]
  rcases nfr_spec hI with ⟨e, -⟩ | ⟨f, hf, hf2, ef, ez⟩
  · rw [e]
    rw [allot, if_pos e] at hK
    exact ⟨fun _ => hK X h, fun z => absurd rfl z⟩
  · have nm : ¬ nfr S = -6 := by omega
    rw [allot, if_neg nm] at hK
    refine ⟨fun z => absurd ((e_m6 (by omega) (by omega)).mp z) nm, fun _ => ?_⟩
    refine ⟨17, w_fw h hq hI (K := fun r_3 => (r_3 = (-6) → (K X)) ∧ (¬ r_3 = (-6) → _)) 16 0 (-6) (by omega) (Or.inl rfl) ?_⟩
    rw [show fwF S 16 0 (-6) = fw S from rfl]
    rcases fw_spec S with ⟨e, -⟩ | ⟨w, hw, ew, -, -⟩
    · rw [e]
      rw [if_pos e] at hK
      exact ⟨fun _ => hK X h, fun z => absurd rfl z⟩
    · have nw : ¬ fw S = -6 := by omega
      rw [if_neg nw] at hK
      refine ⟨fun z => absurd ((e_m6 (by omega) (by omega)).mp z) nw, fun _ => ?_⟩
      rw [fix_en (by omega) (by omega), lix_en (by omega) (by omega)]
      simp only [wp_X1_become, forall_eq]
      refine hK _ ?_
      repeat' first | exact h | refine Ag.up ?_ ?_ | refine Ag.slf ?_
      all_goals rfl
end WN
/-- the allotter keeps what holds -/
theorem i_allot {q : Int} {S : SS} (hI : Inv q S) : Inv q (allot S) := by
  unfold allot
  rcases nfr_spec hI with ⟨e, -⟩ | ⟨f, hf, hf2, ef, ez⟩
  · rw [if_pos e]; exact hI
  · rw [if_neg (by omega)]
    rcases fw_spec S with ⟨e, -⟩ | ⟨w, hw, ew, hu, -⟩
    · rw [if_pos e]; exact hI
    · rw [if_neg (by omega), ef, ew, Int.toNat_natCast, Int.toNat_natCast]
      have N1 : ¬ 22 + f = 6 + w := by omega
      have N2 : ¬ 6 + w = 22 + f := by omega
      have N3 : ¬ 0 = 22 + f := by omega
      have N4 : ¬ 0 = 6 + w := by omega
      obtain ⟨S', eS⟩ : ∃ z : SS, z = up (up (up (bcm S (22 + f) 1) (22 + f) 2 (w : Int)) (6 + w) 6 (f : Int)) 0 8 (f : Int) := ⟨_, rfl⟩
      rw [← eS]
      have hFj : ∀ j, S' (22 + f) j = if j = 0 then 1 else if j = 7 ∨ j = 8 then 0 else if j = 2 then (w : Int) else S (22 + f) j := fun j => by
        rw [eS]; simp only [upA, bcm, N1, N3, false_and, if_false, true_and]
        by_cases e0 : j = 0
        · subst e0; simp
        · by_cases e2 : j = 2
          · subst e2; simp
          · by_cases e7 : j = 7
            · subst e7; simp
            · by_cases e8 : j = 8 <;> simp [e0, e2, e7, e8]
      have hLj : ∀ j, S' (6 + w) j = if j = 6 then (f : Int) else S (6 + w) j := fun j => by
        rw [eS]; simp [upA, bcm, N1, N2, N4]
      have hHj : ∀ j, S' 0 j = if j = 8 then (f : Int) else S 0 j := fun j => by
        rw [eS]; simp [upA, bcm, N3, N4]
      have eo : ∀ k, ¬ k = 22 + f → ¬ k = 6 + w → ¬ k = 0 → ∀ j, S' k j = S k j := fun k a b d j => by rw [eS]; simp [upA, bcm, a, b, d]
      clear eS
      have hfo : ∀ j : Nat, j < 4 → ¬ j = f → ∀ i, S' (22 + j) i = S (22 + j) i := fun j hj e => eo _ (by omega) (by omega) (by omega)
      have hlo : ∀ j : Nat, j < 16 → ¬ j = w → ∀ i, S' (6 + j) i = S (6 + j) i := fun j hj e => eo _ (by omega) (by omega) (by omega)
      have h0 := hI.hd
      have hz := hI.fin f hf
      have hl := hI.lin w hw
      have F0 := hFj 0; have F1 := hFj 1; have F2 := hFj 2; have F3 := hFj 3; have F4 := hFj 4; have F5 := hFj 5; have F6 := hFj 6; have F7 := hFj 7; have F8 := hFj 8; have F9 := hFj 9
      have L0 := hLj 0; have L1 := hLj 1; have L2 := hLj 2; have L5 := hLj 5; have L6 := hLj 6; have L7 := hLj 7; have L8 := hLj 8
      have H5 := hHj 5; have H6 := hHj 6; have H7 := hHj 7; have H8 := hHj 8; have H9 := hHj 9; have H10 := hHj 10; have H11 := hHj 11; have H12 := hHj 12; have H13 := hHj 13; have H14 := hHj 14; have H15 := hHj 15
      simp at F0 F1 F2 F3 F4 F5 F6 F7 F8 F9 L0 L1 L2 L5 L6 L7 L8 H5 H6 H7 H8 H9 H10 H11 H12 H13 H14 H15
      unfold uns at hu
      refine Inv_gen hI hf (Int.le_refl _) (eo 5 (by omega) (by omega) (by omega)) (eo 3 (by omega) (by omega) (by omega) 0) ?_ H5 H6 (by omega) hfo ?_ (fun z => by omega) ?_ ?_ (fun i hi => ?_) (hX_no (by unfold hds; omega)) (fun i hi h1 => ?_) ?_
      · unfold hdOK at h0 ⊢; omega
      · unfold finOK at hz ⊢; omega
      · intro c hc _ h2
        have : c = w := by omega
        subst this
        exact ⟨L6, by unfold smt; omega⟩
      · intro t ht h2
        unfold finOK at hz
        omega
      · by_cases e : i = w
        · subst e
          refine Or.inr ⟨Or.inr hu.2, ?_, Or.inr ⟨f, hf, L6, by omega, Or.inl F2⟩⟩
          unfold linOK at hl ⊢
          omega
        · refine Or.inl ⟨hlo i hi e, fun z => ?_⟩
          rcases hI.lkL i hi with g | ⟨j, hj, g1, g2, g3⟩
          · omega
          · have : j = f := by omega
            subst this
            exact g2 ez
      · by_cases e : i = w
        · subst e; rw [L0] at h1; exact ⟨h1, L7⟩
        · rw [hlo i hi e] at h1 ⊢
          exact ⟨h1, rfl⟩
      · obtain ⟨k1, k2, k3, k4, k5⟩ := hI.cnt
        have e1 : ∀ g : Int → Int, sm (fun n => g (S' (6 + n) 0)) 16 = sm (fun n => g (S (6 + n) 0)) 16 := fun g => sm_eq 16 (fun i hi => by
          by_cases e : i = w
          · subst e; simp only [L0]
          · simp only [hlo i hi e])
        have e2 : sm (fun n => S' (6 + n) 2) 16 = sm (fun n => S (6 + n) 2) 16 := sm_eq 16 (fun i hi => by
          by_cases e : i = w
          · subst e; simp only [L2]
          · simp only [hlo i hi e])
        have e3 : sm (fun n => w2 (S' (22 + n) 0)) 4 = sm (fun n => w2 (S (22 + n) 0)) 4 := sm_eq 4 (fun i hi => by
          by_cases e : i = f
          · subst e; simp only [F0, ez]; decide
          · simp only [hfo i hi e])
        have e4 : sm (fun n => w3 (S' (22 + n) 0)) 4 = sm (fun n => w3 (S (22 + n) 0)) 4 := sm_eq 4 (fun i hi => by
          by_cases e : i = f
          · subst e; simp only [F0, ez]; decide
          · simp only [hfo i hi e])
        unfold cnt
        rw [e1 w1, e1 rv, e2, e3, e4]
        exact ⟨by omega, by omega, by omega, by omega, k5⟩
