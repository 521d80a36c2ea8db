-- ===== the allotter =====
def Qd (X : ES) (a : Nat) : Prop := X (6 + a) 0 = 1 ∧ X (6 + a) 6 = -6
theorem waits_q {X : ES} {a : Nat} (K : Int32 → Prop) (h1 : Qd X a → K 1) (h0 : ¬ Qd X a → K 0) : wp_X2_waitsUnsought (X (6 + a)) K :=
  ⟨fun z => ⟨fun y => h1 ⟨z, y⟩, fun y => h0 (fun w => y w.2)⟩, fun z => h0 (fun w => z w.1)⟩
theorem LC_val {q nf i : Nat} {X : ES} {h : CS} {N G : ES} (hR : XR q nf X h N G) (hi : i < 16) : X (6 + i) 6 = -6 ∨ ∃ f, f < 4 ∧ X (6 + i) 6 = nI f := by
  rcases hR.2.2.2.2.2.1 i hi with ⟨z, -⟩ | ⟨f, f1, f2, -⟩
  · exact Or.inl z
  · exact Or.inr ⟨f, f1, f2⟩
theorem isQueued_q {q nf i : Nat} {X : ES} {h : CS} {N G : ES} (hR : XR q nf X h N G) (hi : i < 16) (Z : ES) (K : Int32 → Prop) (h1 : Qd X i → K 1) (h0 : ¬ Qd X i → K 0) : wp_X5_isQueued (ms Z h N G) (nI i) K := by
  unfold wp_X5_isQueued
  rw [of_0 hi, ← (hR.2.1 i hi).1.1]
  refine ⟨fun e => fo_ptr hR hi (by rw [e]; decide) (by rw [e]; decide) Z N _ ?_, fun e => h0 (fun w => e w.1)⟩
  rcases LC_val hR hi with z | ⟨f, f1, z⟩
  · exact ⟨fun y => absurd y (by rw [z]; decide), fun _ => h1 ⟨e, z⟩⟩
  · exact ⟨fun _ => h0 (fun w => nI_neg (by omega) (z.symm.trans w.2)), fun y => absurd (nI_pos' (n := f) (by omega)) (by rw [z] at y; exact y)⟩
theorem Qd_turn {q nf i : Nat} {X : ES} {h : CS} {N G : ES} (hR : XR q nf X h N G) (hi : i < 16) (hQ : Qd X i) : ∃ s : Nat, s < q ∧ N i 4 = nI s ∧ X (6 + i) 7 = nI (s + 1) := by
  obtain ⟨⟨l0, -⟩, ds, -, hS⟩ := hR.2.1 i hi
  have z : N i 0 = 1 := l0.symm.trans hQ.1
  simp [LSt, z] at hS
  obtain ⟨-, -, -, s, s1, s2, s3⟩ := hS
  exact ⟨s, s1, s2, s3⟩
theorem fw_loop {q nf : Nat} {X : ES} {h : CS} {N G : ES} (hR : XR q nf X h N G) (hq : q < 2 ^ 30) : ∀ (j i : Nat) (acc : Int32), i + j = 16 → (acc = -6 ∨ ∃ a, a < 16 ∧ acc = nI a ∧ Qd X a) → ∃ r : Int32, (r = -6 ∨ ∃ a, a < 16 ∧ r = nI a ∧ Qd X a) ∧ (∀ (K : Int32 → Prop) (Kx : Int32 → Int32 → Prop), (∀ y, Kx r y) → wpl_X0_firstWaitingLine_5 X K Kx (j + 1) acc (nI i)) ∧ ∀ (Z : ES) (K : ES → Prop) (Kx : Int32 → Int32 → Prop), (∀ y, Kx r y) → wpl_X5_allot_5 (ms Z h N G) K Kx (j + 1) acc (nI i)
  | 0, i, acc, he, ha => by
    have e : i = 16 := by omega
    subst e
    refine ⟨acc, ha, fun K Kx hK => ?_, fun Z K Kx hK => ?_⟩
    · rw [wpl_X0_firstWaitingLine_5]
      exact ⟨fun _ => hK _, fun z => absurd (nI_le (a := 16) (b := 16) (Nat.le_refl _) (by decide)) z⟩
    · rw [wpl_X5_allot_5]
      exact ⟨fun _ => hK _, fun z => absurd (nI_le (a := 16) (b := 16) (Nat.le_refl _) (by decide)) z⟩
  | j + 1, i, acc, he, ha => by
    have hi : i < 16 := by omega
    have hlt : ¬ (16 : Int32) ≤ nI i := nI_ge (b := 16) hi (by decide)
    by_cases hQ : Qd X i
    · rcases ha with rfl | ⟨a, a1, rfl, a2⟩
      · obtain ⟨r, r1, r2, r3⟩ := fw_loop hR hq j (i + 1) (nI i) (by omega) (Or.inr ⟨i, hi, rfl, hQ⟩)
        refine ⟨r, r1, fun K Kx hK => ?_, fun Z K Kx hK => ?_⟩
        · rw [wpl_X0_firstWaitingLine_5, lix_nI hi]
          refine ⟨fun z => absurd z hlt, fun _ => waits_q _ (fun _ => ⟨fun z => absurd z (by decide), fun _ => ⟨fun _ v ev => ?_, fun z => absurd rfl z⟩⟩) (fun z => absurd hQ z)⟩
          rw [ev, nI_1]; exact r2 K Kx hK
        · rw [wpl_X5_allot_5]
          refine ⟨fun z => absurd z hlt, fun _ => isQueued_q hR hi Z _ (fun _ => ⟨fun z => absurd z (by decide), fun _ => ⟨fun _ v ev => ?_, fun z => absurd (by decide) z⟩⟩) (fun z => absurd hQ z)⟩
          rw [ev, nI_1]; exact r3 Z K Kx hK
      · obtain ⟨s, s1, s2, s3⟩ := Qd_turn hR hi hQ
        obtain ⟨u, u1, u2, u3⟩ := Qd_turn hR a1 a2
        have ha6 : ¬ nI a = -6 := nI_neg (by omega)
        have ha0 : ¬ nI a < 0 := nI_pos (by omega)
        by_cases hc : u ≤ s
        · obtain ⟨r, r1, r2, r3⟩ := fw_loop hR hq j (i + 1) (nI a) (by omega) (Or.inr ⟨a, a1, rfl, a2⟩)
          refine ⟨r, r1, fun K Kx hK => ?_, fun Z K Kx hK => ?_⟩
          · rw [wpl_X0_firstWaitingLine_5, lix_nI hi, lix_nI a1, s3, u3]
            refine ⟨fun z => absurd z hlt, fun _ => waits_q _ (fun _ => ⟨fun z => absurd z (by decide), fun _ => ⟨fun z => absurd z ha6, fun _ => ⟨fun _ v ev => ?_, fun z => absurd (nI_le (by omega) (by omega)) z⟩⟩⟩) (fun z => absurd hQ z)⟩
            rw [ev, nI_1]; exact r2 K Kx hK
          · rw [wpl_X5_allot_5]
            refine ⟨fun z => absurd z hlt, fun _ => isQueued_q hR hi Z _ (fun _ => ⟨fun z => absurd z (by decide), fun _ => ⟨fun z => absurd z ha0, fun _ => ?_⟩⟩) (fun z => absurd hQ z)⟩
            rw [of_4 hi, of_4 a1, s2, u2]
            refine ⟨fun _ v ev => ?_, fun z => absurd (nI_le hc (by omega)) z⟩
            rw [ev, nI_1]; exact r3 Z K Kx hK
        · obtain ⟨r, r1, r2, r3⟩ := fw_loop hR hq j (i + 1) (nI i) (by omega) (Or.inr ⟨i, hi, rfl, hQ⟩)
          refine ⟨r, r1, fun K Kx hK => ?_, fun Z K Kx hK => ?_⟩
          · rw [wpl_X0_firstWaitingLine_5, lix_nI hi, lix_nI a1, s3, u3]
            refine ⟨fun z => absurd z hlt, fun _ => waits_q _ (fun _ => ⟨fun z => absurd z (by decide), fun _ => ⟨fun z => absurd z ha6, fun _ => ⟨fun z => absurd z (nI_ge (by omega) (by omega)), fun _ v ev => ?_⟩⟩⟩) (fun z => absurd hQ z)⟩
            rw [ev, nI_1]; exact r2 K Kx hK
          · rw [wpl_X5_allot_5]
            refine ⟨fun z => absurd z hlt, fun _ => isQueued_q hR hi Z _ (fun _ => ⟨fun z => absurd z (by decide), fun _ => ⟨fun z => absurd z ha0, fun _ => ?_⟩⟩) (fun z => absurd hQ z)⟩
            rw [of_4 hi, of_4 a1, s2, u2]
            refine ⟨fun z => absurd z (nI_ge (by omega) (by omega)), fun _ v ev => ?_⟩
            rw [ev, nI_1]; exact r3 Z K Kx hK
    · obtain ⟨r, r1, r2, r3⟩ := fw_loop hR hq j (i + 1) acc (by omega) ha
      refine ⟨r, r1, fun K Kx hK => ?_, fun Z K Kx hK => ?_⟩
      · rw [wpl_X0_firstWaitingLine_5, lix_nI hi]
        refine ⟨fun z => absurd z hlt, fun _ => waits_q _ (fun z => absurd z hQ) (fun _ => ⟨fun _ v ev => ?_, fun z => absurd rfl z⟩)⟩
        rw [ev, nI_1]; exact r2 K Kx hK
      · rw [wpl_X5_allot_5]
        refine ⟨fun z => absurd z hlt, fun _ => isQueued_q hR hi Z _ (fun z => absurd z hQ) (fun _ => ⟨fun _ v ev => ?_, fun z => absurd rfl z⟩)⟩
        rw [ev, nI_1]; exact r3 Z K Kx hK
/-- the k-th finder behind the one that was allotted last -/
def sq (fr nf k : Nat) : Nat := if fr + k < nf then fr + k else fr + k - nf
def ffv (X : ES) (fr nf : Nat) : Nat → Nat → Int32
  | 0, _ => -6
  | j + 1, k => if X (22 + sq fr nf k) 0 = 0 then nI (sq fr nf k) else ffv X fr nf j (k + 1)
theorem sq_lt {fr nf k : Nat} (h : fr ≤ nf) (hk : k < nf) : sq fr nf k < nf := by
  unfold sq; split <;> omega
theorem ffv_val {X : ES} {fr nf : Nat} (h : fr ≤ nf) : ∀ j k, k + j = nf → ffv X fr nf j k = -6 ∨ ∃ f, f < nf ∧ ffv X fr nf j k = nI f ∧ X (22 + f) 0 = 0
  | 0, k, _ => Or.inl rfl
  | j + 1, k, he => by
    rw [ffv]
    by_cases e : X (22 + sq fr nf k) 0 = 0
    · rw [if_pos e]; exact Or.inr ⟨_, sq_lt h (by omega), rfl, e⟩
    · rw [if_neg e]; exact ffv_val h j (k + 1) (by omega)
/-- where the search begins -/
def frOf (h : CS) (nf fr : Nat) (x : Int32) : Prop := fr ≤ nf ∧ ((h 3 = -6 ∧ x = -1 ∧ fr = 0) ∨ ∃ j, j < nf ∧ h 3 = nI j ∧ x = nI j ∧ fr = j + 1)
theorem nff_num {h : CS} {nf fr k : Nat} {x : Int32} (hn : nf ≤ 4) (hf : frOf h nf fr x) (hk : k < nf) : (x + nI (k + 1) < nI nf ∧ x + nI (k + 1) = nI (sq fr nf k)) ∨ (¬ x + nI (k + 1) < nI nf ∧ x + nI (k + 1) - nI nf = nI (sq fr nf k)) := by
  have key : x + nI (k + 1) = nI (fr + k) := by
    rcases hf.2 with ⟨-, e, e2⟩ | ⟨j, -, -, e, e2⟩
    · rw [e, e2, Int32.add_comm, pk_m1, Nat.zero_add]
    · rw [e, e2, nI_add]; congr 1; omega
  rw [key]
  unfold sq
  by_cases hc : fr + k < nf
  · left; rw [if_pos hc]; exact ⟨nI_lt hc (by omega), rfl⟩
  · right; rw [if_neg hc]; exact ⟨nI_nlt (by omega) (by have := hf.1; omega), pk_sub (by omega)⟩
theorem nff_comp {q nf fr : Nat} {X : ES} {h : CS} {N G : ES} (hR : XR q nf X h N G) (hf : frOf h nf fr (X 0 8)) : ∀ j k, k + j = nf → ∀ (K Kx : Int32 → Prop), (∀ y, K (-6) → Kx y) → K (ffv X fr nf j k) → wpl_X0_nextFreeFinder_2 X K Kx (j + 1) (nI (k + 1))
  | 0, k, he, K, Kx, hx, hK => by
    have h4 : nf ≤ 4 := hR.1.2.1.2.1
    rw [wpl_X0_nextFreeFinder_2, hR.1.2.1.2.2.2]
    exact ⟨fun _ => hx _ hK, fun z => absurd (nI_lt (by omega) (by omega)) z⟩
  | j + 1, k, he, K, Kx, hx, hK => by
    have h4 : nf ≤ 4 := hR.1.2.1.2.1
    have hs := sq_lt hf.1 (show k < nf by omega)
    rw [ffv] at hK
    rw [wpl_X0_nextFreeFinder_2, hR.1.2.1.2.2.2]
    refine ⟨fun z => absurd z (nI_nlt (by omega) (by omega)), fun _ v ev => ?_⟩
    subst ev
    rcases nff_num h4 hf (show k < nf by omega) with ⟨c1, c2⟩ | ⟨c1, c2⟩
    · refine ⟨fun _ => ?_, fun z => absurd c1 z⟩
      rw [c2, fix_nI (by omega)]
      refine ⟨fun e => by rw [if_pos e] at hK; exact hK, fun e w ew => ?_⟩
      rw [if_neg e] at hK
      rw [ew, nI_1]; exact nff_comp hR hf j (k + 1) (by omega) K Kx hx hK
    · refine ⟨fun z => absurd z c1, fun _ v ev => ?_⟩
      subst ev
      rw [c2, fix_nI (by omega)]
      refine ⟨fun e => by rw [if_pos e] at hK; exact hK, fun e w ew => ?_⟩
      rw [if_neg e] at hK
      rw [ew, nI_1]; exact nff_comp hR hf j (k + 1) (by omega) K Kx hx hK
theorem nff_mod {q nf fr : Nat} {X : ES} {h : CS} {N G : ES} (hR : XR q nf X h N G) (hf : fr ≤ nf) (Z : ES) (K : ES → Prop) (Kx : Int32 → Int32 → Prop) : ∀ k, k ≤ nf → (∀ y, Kx (ffv X fr nf nf 0) y) → wpl_X5_allot_85 (ms Z h N G) (nI fr) K Kx (k + 1) (ffv X fr nf (nf - k) k) (nI k + (-1))
  | 0, hk, hK => by
    rw [wpl_X5_allot_85]
    exact ⟨fun _ => hK _, fun z => absurd (by decide) z⟩
  | k + 1, hk, hK => by
    have h4 : nf ≤ 4 := hR.1.2.1.2.1
    have hs := sq_lt hf (show k < nf by omega)
    rw [wpl_X5_allot_85, pk_m1, hd_1, hR.1.2.1.2.2.1]
    refine ⟨fun z => absurd z (nI_pos (by omega)), fun _ => ⟨vpl (n := 1) rfl (by decide), nI_ne0 (by have := hR.1.2.1.1; omega) (by omega), fun v ev => ?_⟩⟩
    have e1 : nI fr + nI k - (nI fr + nI k) / nI nf * nI nf = nI (sq fr nf k) := by
      rw [nI_add, pk_rem (by omega) (by omega) (by omega)]
      congr 1
      unfold sq
      by_cases hc : fr + k < nf
      · rw [if_pos hc]; exact Nat.mod_eq_of_lt hc
      · rw [if_neg hc, Nat.mod_eq_sub_mod (by omega)]; exact Nat.mod_eq_of_lt (by omega)
    rw [e1] at ev
    subst ev
    rw [ofF_0 (by omega), ← (hR.2.2.1 _ (by omega)).1.1]
    have nxt := nff_mod hR hf Z K Kx k (by omega) hK
    have e2 : nf - k = (nf - (k + 1)) + 1 := by omega
    rw [e2, ffv] at nxt
    refine ⟨fun e w ew => ?_, fun e w ew => ?_⟩
    · rw [if_pos e] at nxt; rw [ew]; exact nxt
    · rw [if_neg e] at nxt; rw [ew]; exact nxt
theorem frOf_ex {q nf : Nat} {X : ES} {h : CS} {N G : ES} (hR : XR q nf X h N G) : ∃ fr, frOf h nf fr (X 0 8) := by
  rcases hR.1.2.2.2.2.1 with ⟨a, b⟩ | ⟨j, a, b, c⟩
  · exact ⟨0, by omega, Or.inl ⟨a, b, rfl⟩⟩
  · exact ⟨j + 1, by omega, Or.inr ⟨j, a, b, c, rfl⟩⟩
def SimA (q nf : Nat) (X : ES) (h : CS) (N G : ES) : Prop := ∃ (X' : ES) (h' : CS) (N' G' : ES), (∀ K : ES → Prop, K X' → wp_X0_allotFinder X K) ∧ (∀ (Z : ES) (K : ES → Prop), K (ms Z h' N' G') → wp_X5_allot (ms Z h N G) K) ∧ XR q nf X' h' N' G' ∧ (∀ l, l < 16 → X' (6 + l) 0 = X (6 + l) 0) ∧ X' 0 7 = X 0 7
theorem HR_last {q nf f : Nat} {T H S h : CS} (hf : f < nf) (r : HRr q nf T H S h) : HRr q nf T (upd H 8 (nI f)) S (upd h 3 (nI f)) := by
  simp only [HRr, updA] at r ⊢
  obtain ⟨a1, a2, a3, a4, a5, a6, a7, a8, a9⟩ := r
  refine ⟨a1, by simpa using a2, by simpa using a3, by simpa using a4, Or.inr ⟨f, hf, by simp, by simp⟩, by simpa using a6, by simpa using a7, by simpa using a8, by simpa using a9⟩
set_option maxHeartbeats 2000000 in
theorem sim_allot {q nf : Nat} {X : ES} {h : CS} {N G : ES} (hR : XR q nf X h N G) (hq : q < 2 ^ 30) : SimA q nf X h N G := by
  have h4 : nf ≤ 4 := hR.1.2.1.2.1
  have h1 : 1 ≤ nf := hR.1.2.1.1
  obtain ⟨fr, hfr⟩ := frOf_ex hR
  obtain ⟨w, w1, w2, w3⟩ := fw_loop hR hq 16 0 (-6) rfl (Or.inl rfl)
  have nfe : nI nf - 1 = nI nf + (-1) := by
    obtain ⟨n', rfl⟩ : ∃ n', nf = n' + 1 := ⟨nf - 1, by omega⟩
    rw [nI_pred, pk_m1]
  -- the class's two searches
  have cN : ∀ K : Int32 → Prop, K (ffv X fr nf nf 0) → wp_X0_nextFreeFinder X K := fun K hK => ⟨nf + 1, nff_comp hR hfr nf 0 (by omega) K _ (fun _ z => z) hK⟩
  have cW : ∀ K : Int32 → Prop, K w → wp_X0_firstWaitingLine X K := fun K hK => ⟨17, w2 K _ (fun _ => hK)⟩
  -- the model's
  have mA : ∀ (Z : ES) (K : ES → Prop), (∀ y : Int32, (w < 0 → K (ms Z h N G)) ∧ (¬ w < 0 → ((ffv X fr nf nf 0 < 0 → K (ms Z h N G)) ∧ (¬ ffv X fr nf nf 0 < 0 → wp_X5_layFinder (ms Z h N G) (ffv X fr nf nf 0) 0 1 (fun X_14 => wp_X5_layFinder X_14 (ffv X fr nf nf 0) 2 w (fun X_15 => vp_in 3 233 ∧ ∀ X_16 : ES, X_16 = va_up X_15 1 (upd (X_15 1) (3 : Int32).toNatClampNeg (ffv X fr nf nf 0)) → K X_16)))))) → wp_X5_allot (ms Z h N G) K := by
    intro Z K hK
    refine ⟨17, w3 Z K _ (fun y => ⟨vpl (n := 3) rfl (by decide), ?_⟩)⟩
    rw [hd_3, hd_1, hR.1.2.1.2.2.1]
    rcases hfr.2 with ⟨e1, -, e2⟩ | ⟨j, j1, e1, -, e2⟩
    · rw [e1]
      refine ⟨fun z => absurd z (by decide), fun _ => ⟨vpl (n := 1) rfl (by decide), fun v ev => ⟨nf + 1, ?_⟩⟩⟩
      rw [ev, nfe]
      have := nff_mod hR hfr.1 Z K (fun (j_45 : Int32) (_ : Int32) => (w < 0 → K (ms Z h N G)) ∧ (¬ w < 0 → ((j_45 < 0 → K (ms Z h N G)) ∧ (¬ j_45 < 0 → wp_X5_layFinder (ms Z h N G) j_45 0 1 (fun X_14 => wp_X5_layFinder X_14 j_45 2 w (fun X_15 => vp_in 3 233 ∧ ∀ X_16 : ES, X_16 = va_up X_15 1 (upd (X_15 1) (3 : Int32).toNatClampNeg j_45) → K X_16)))))) nf (Nat.le_refl _) hK
      rw [Nat.sub_self, e2] at this
      exact this
    · rw [e1]
      refine ⟨fun _ => ⟨vpl (n := 3) rfl (by decide), fun v ev => ⟨vpl (n := 1) rfl (by decide), fun u eu => ⟨nf + 1, ?_⟩⟩⟩, fun z => absurd (nI_pos' (by omega)) z⟩
      rw [eu, nfe, ev, nI_1, ← e2]
      have := nff_mod hR hfr.1 Z K (fun (j_45 : Int32) (_ : Int32) => (w < 0 → K (ms Z h N G)) ∧ (¬ w < 0 → ((j_45 < 0 → K (ms Z h N G)) ∧ (¬ j_45 < 0 → wp_X5_layFinder (ms Z h N G) j_45 0 1 (fun X_14 => wp_X5_layFinder X_14 j_45 2 w (fun X_15 => vp_in 3 233 ∧ ∀ X_16 : ES, X_16 = va_up X_15 1 (upd (X_15 1) (3 : Int32).toNatClampNeg j_45) → K X_16)))))) nf (Nat.le_refl _) hK
      rw [Nat.sub_self] at this
      exact this
  rcases ffv_val hfr.1 nf 0 (by omega) (X := X) with f0 | ⟨f, f1, f2, f3⟩
  · refine ⟨X, h, N, G, fun K hK => ?_, fun Z K hK => mA Z K (fun y => ?_), hR, fun _ _ => rfl, rfl⟩
    · exact cN _ (by rw [f0]; exact ⟨fun _ => hK, fun z => absurd rfl z⟩)
    · exact ⟨fun _ => hK, fun _ => ⟨fun _ => hK, fun z => absurd (by rw [f0]; decide) z⟩⟩
  · rcases w1 with w0 | ⟨a, a1, a2, a3⟩
    · refine ⟨X, h, N, G, fun K hK => ?_, fun Z K hK => mA Z K (fun y => ?_), hR, fun _ _ => rfl, rfl⟩
      · refine cN _ ⟨fun _ => hK, fun _ => cW _ (by rw [w0]; exact ⟨fun _ => hK, fun z => absurd rfl z⟩)⟩
      · exact ⟨fun _ => hK, fun z => absurd (by rw [w0]; decide) z⟩
    · have hf4 : f < 4 := by omega
      have hf6 : ¬ nI f = -6 := nI_neg (by omega)
      have ha6 : ¬ nI a = -6 := nI_neg (by omega)
      have n1 : ¬ (22 + f = 6 + a) := by omega
      have n2 : ¬ (6 + a = 22 + f) := by omega
      have n3 : ¬ (22 + f = 0) := by omega
      have n4 : ¬ (6 + a = 0) := by omega
      have n5 : ¬ (0 = 22 + f) := by omega
      have n6 : ¬ (0 = 6 + a) := by omega
      obtain ⟨⟨g0, g1, g2, g3, g4, g5, g7, g8, g9⟩, ⟨po, hpo, hpe⟩, hFM⟩ := hR.2.2.1 f hf4
      simp [FM, f3] at hFM
      obtain ⟨⟨l0, l1, l2, l3, l5⟩, ds, hD, hS⟩ := hR.2.1 a a1
      have z0 : N a 0 = 1 := l0.symm.trans a3.1
      have noP : ∀ i, i < 16 → ¬ X (6 + i) 6 = nI f := fun i hi z => (XR_ptr hR hf4 hi z).1 f3
      refine ⟨va_up (va_up (va_up X (22 + f) (upd (upd (upd (upd (X (22 + f)) 0 1) 7 0) 8 0) 2 (nI a))) (6 + a) (upd (X (6 + a)) 6 (nI f))) 0 (upd (X 0) 8 (nI f)), upd h 3 (nI f), N, va_up G f (upd (upd (G f) 0 1) 2 (nI a)), fun K hK => ?_, fun Z K hK => mA Z K (fun y => ?_), ?_, fun l hl => ?_, by rw [vuS]; simp [updA]⟩
      · refine cN _ ?_
        rw [f2]
        refine ⟨fun z => absurd z hf6, fun _ => cW _ ?_⟩
        rw [a2]
        refine ⟨fun z => absurd z ha6, fun _ => ?_⟩
        rw [fix_nI hf4, lix_nI a1]
        simp only [wp_X1_become, forall_eq, vuU, vuS, vuN n2, vuN n5, vuN n6]
        exact hK
      · rw [a2, f2]
        refine ⟨fun z => absurd z (nI_pos (by omega)), fun _ => ⟨fun z => absurd z (nI_pos (by omega)), fun _ => ?_⟩⟩
        simp only [layF_0 hf4, layF_2 hf4, vuU, vuS, vpl_3, true_and, forall_eq, hu_3]
        exact hK
      · refine XR_gen hR hf4 (Nat.le_refl q) ?_ (fun j hj e => ⟨?_, vuN e⟩) ?_ (fun z => absurd f1 (by omega)) ?_ ?_ (fun i hi => ?_)
        · show HRr q nf (va_up _ _ _ 3) (va_up _ _ _ 0) (va_up _ _ _ 5) _
          rw [vuS, vuN (by omega), vuN (by omega), vuN (by omega), vuN (by omega), vuN (by omega), vuN (by omega)]
          exact HR_last f1 hR.1
        · rw [vuN (by omega), vuN (by omega), vuN (by omega)]
        · rw [vuN (by omega), vuN n1, vuS, vuS]
          simp [FR, FM, updA, ← g0, ← g1, ← g2, ← g3, ← g4, ← g5, ← g7, ← g8, ← g9, f3, hFM, hpe]
          exact ⟨po, hpo, rfl⟩
        · intro _
          refine ⟨a, a1, ?_, ?_, ?_⟩
          · rw [vuN n3, vuN n1, vuS]; simp [updA]
          · rw [vuN n4, vuS]; simp [updA]
          · rw [vuN n3, vuN n1, vuS, vuN n4, vuS]; simp [updA, smt, a3.1]
        · intro z
          rw [vuN n3, vuN n1, vuS] at z
          simp [updA] at z
        · by_cases e : i = a
          · subst e
            refine Or.inr ⟨Or.inr a3.2, ?_, ?_⟩
            · rw [vuN n4, vuS]
              refine ⟨by simp [updA, l0, l1, l2, l3, l5], ds, LD_keep hD (by simp [updA]) rfl rfl rfl rfl rfl, ?_⟩
              simp [LSt, z0] at hS
              simp [LSt, updA, z0, hS]
            · refine Or.inr ⟨f, hf4, ?_, ?_, Or.inl ?_⟩
              · rw [vuN n4, vuS]; simp [updA]
              · rw [vuN n3, vuN n1, vuS]; simp [updA]
              · rw [vuN n3, vuN n1, vuS]; simp [updA]
          · refine Or.inl ⟨?_, rfl, noP i hi⟩
            rw [vuN (by omega), vuN (by omega), vuN (by omega)]
      · rw [vuN (by omega)]
        by_cases e : l = a
        · subst e; rw [vuS]; simp [updA]
        · rw [vuN (by omega), vuN (by omega)]
