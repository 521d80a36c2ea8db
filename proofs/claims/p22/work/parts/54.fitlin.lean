-- ===== fits: a line =====
section FL
variable {S : SS} {X : ES} {q : Int} {o lo ar n : Nat} {K : Int32 → ES → Prop} {Kx Rec : Int32 → Int32 → Int32 → Int32 → Int32 → Int32 → Int32 → ES → Prop} {a0 a1 : Int32}
theorem fit_lin (h : Ag S (vw (o + 1) X)) (hq : 0 ≤ q ∧ q < 1000000) (hI : Inv q S) (hn : n < 16) (hown : X ar n = en (own S (S 0 5).toNat n)) {vl vm vr vw' : Int} (hR : Rec a0 a1 (en (vl + S (6 + n) 1)) (en (vm + S (6 + n) 2)) (en (vr + rv (S (6 + n) 0))) (en (vw' + wB S n)) (en ((n + 1 : Nat) : Int)) X) : wp_X4_line o X (en (n : Int)) 0 (fun r_328 => wp_X4_line o X (en (n : Int)) 1 (fun r_329 => ∀ v_330 : Int32, v_330 = (en vl) + r_329 → (wp_X4_line o X (en (n : Int)) 5 (fun r_331 => ∀ v_332 : Int32, v_332 = (en vm) + r_331 → ((r_328 = 5 → (wpj_L_fits_576 o lo ar K Kx Rec a0 a1 v_330 v_332 (en vr) (en vw') (en (n : Int)) r_328 X (en vr))) ∧ (¬ r_328 = 5 → ((r_328 = 7 → (wpj_L_fits_576 o lo ar K Kx Rec a0 a1 v_330 v_332 (en vr) (en vw') (en (n : Int)) r_328 X (en vr))) ∧ (¬ r_328 = 7 → (wpj_L_fits_581 o lo ar K Kx Rec a0 a1 v_330 v_332 (en vr) (en vw') (en (n : Int)) r_328 X (en vr) 0))))))))) := by
  have hl := hI.lin n hn
  unfold linOK at hl
  have hoa := own_all hI hn
  have hvp : vp_in (en (n : Int)) 16 := vp_en hn (by decide)
  have hcl : (en (n : Int)).toNatClampNeg = n := cl_en (by omega)
  have hbs := sm_rng (g := bef S n) (b := 1) (fun i => bef_rng n i) 16
  -- the lines that wait
  have h840 : ∀ (y z u : Int32), u = en (wB S n) → wpj_L_fits_840 o lo ar K Kx Rec a0 a1 (en (vl + S (6 + n) 1)) (en (vm + S (6 + n) 2)) (en (vr + rv (S (6 + n) 0))) (en vw') (en (n : Int)) (en (S (6 + n) 0)) y z X (en vw') u := fun y z u hu => by
    unfold wpj_L_fits_840
    intro v ev w ew
    rw [hu, en_add] at ev
    rw [show en (n : Int) + 1 = en ((n + 1 : Nat) : Int) from en_s _] at ew
    rw [ev, ew]; exact hR
  have h814 : ∀ (y u t : Int32), u = (if S (6 + n) 0 = 1 ∧ S (6 + n) 6 = -6 then 1 else 0) → t = u → wpj_L_fits_814 o lo ar K Kx Rec a0 a1 (en (vl + S (6 + n) 1)) (en (vm + S (6 + n) 2)) (en (vr + rv (S (6 + n) 0))) (en vw') (en (n : Int)) (en (S (6 + n) 0)) y u X u t := fun y u t hu ht => by
    unfold wpj_L_fits_814
    refine ⟨fun _ => ?_, fun z => absurd ht.symm z⟩
    by_cases c : S (6 + n) 0 = 1 ∧ S (6 + n) 6 = -6
    · rw [if_pos c] at hu
      rw [hu]
      refine ⟨fun z => absurd z (by decide), fun _ => ?_⟩
      refine g_line7 h hq hI hn ?_
      rw [plc, if_pos c, shl_ok (by omega)]
      exact h840 _ _ _ (by rw [wB, if_pos c])
    · rw [if_neg c] at hu
      rw [hu]
      exact ⟨fun _ => h840 _ _ _ (by rw [wB, if_neg c]; rfl), fun z => absurd rfl z⟩
  have h794 : ∀ (y u : Int32), u = (if S (6 + n) 0 = 1 ∧ S (6 + n) 6 = -6 then 1 else 0) → wpj_L_fits_794 o lo ar K Kx Rec a0 a1 (en (vl + S (6 + n) 1)) (en (vm + S (6 + n) 2)) (en (vr + rv (S (6 + n) 0))) (en vw') (en (n : Int)) (en (S (6 + n) 0)) y X u := fun y u hu => by
    unfold wpj_L_fits_794
    refine g_line7 h hq hI hn ?_
    rw [plc]
    by_cases c : S (6 + n) 0 = 1 ∧ S (6 + n) 6 = -6
    · rw [if_pos c]
      refine ⟨fun z => absurd z (en_neg (by omega) (by omega)), fun _ => h814 _ _ _ hu ?_⟩
      rw [hu, if_pos c]
    · rw [if_neg c]
      refine ⟨fun _ => h814 _ _ _ hu ?_, fun z => absurd (by decide) z⟩
      rw [hu, if_neg c]
  have h770 : ∀ (y t u : Int32), ¬ t = u → wpj_L_fits_770 o lo ar K Kx Rec a0 a1 (en (vl + S (6 + n) 1)) (en (vm + S (6 + n) 2)) (en (vr + rv (S (6 + n) 0))) (en vw') (en (n : Int)) (en (S (6 + n) 0)) y X t u := fun y t u htu => by
    unfold wpj_L_fits_770
    refine ⟨fun z => absurd z htu, fun _ => ?_⟩
    rw [e_1 (by omega) (by omega), hcl, hown]
    have h793 : (¬ (S (6 + n) 0 = 1 ∧ S (6 + n) 6 = -6)) → wpj_L_fits_793 o lo ar K Kx Rec a0 a1 (en (vl + S (6 + n) 1)) (en (vm + S (6 + n) 2)) (en (vr + rv (S (6 + n) 0))) (en vw') (en (n : Int)) (en (S (6 + n) 0)) y X := fun c => h794 _ _ (by rw [if_neg c])
    refine ⟨fun e => ⟨hvp, ?_⟩, fun e => h793 (fun z => e z.1)⟩
    rcases hoa with ⟨a, b⟩ | ⟨a, b⟩
    · rw [a]
      exact ⟨fun _ => h794 _ _ (by rw [if_pos (by omega)]), fun z => absurd rfl z⟩
    · rw [a]
      exact ⟨fun z => absurd z (by decide), fun _ => h793 (fun z => by omega)⟩
  have h753 : ∀ (y t : Int32), t = (if S (6 + n) 0 = 5 ∨ S (6 + n) 0 = 7 then 1 else 0) → wpj_L_fits_753 o lo ar K Kx Rec a0 a1 (en (vl + S (6 + n) 1)) (en (vm + S (6 + n) 2)) (en (vr + rv (S (6 + n) 0))) (en vw') (en (n : Int)) (en (S (6 + n) 0)) y X t := fun y t ht => by
    unfold wpj_L_fits_753
    by_cases c : S (6 + n) 0 = 5 ∨ S (6 + n) 0 = 7
    · rw [if_pos c] at ht
      rcases hI.lkL n hn with g | ⟨f, hf, g1, g2, g3⟩
      · omega
      · have hz := hI.fin f hf
        unfold finOK at hz
        refine g_traceY h hI hn hf g1 c (w := 2) (v := S (22 + f) 2) (Or.inr (Or.inr ⟨rfl, rfl⟩)) ?_
        rw [e_m6 (by omega) (by omega), ht]
        exact ⟨fun e => by omega, fun _ => h770 _ _ _ (by decide)⟩
    · rw [if_neg c] at ht
      refine g_traceN h hI hn (w := 2) (by omega) c ⟨fun _ => h770 _ _ _ (by rw [ht]; decide), fun z => absurd rfl z⟩
  have h735 : ∀ y : Int32, wpj_L_fits_735 o lo ar K Kx Rec a0 a1 (en (vl + S (6 + n) 1)) (en (vm + S (6 + n) 2)) (en (vr + rv (S (6 + n) 0))) (en vw') (en (n : Int)) (en (S (6 + n) 0)) y X := fun y => by
    unfold wpj_L_fits_735
    rw [e_5 (by omega) (by omega), e_7 (by omega) (by omega)]
    exact ⟨fun e => h753 _ _ (by rw [if_pos (Or.inl e)]), fun e => ⟨fun e2 => h753 _ _ (by rw [if_pos (Or.inr e2)]), fun e2 => h753 _ _ (by rw [if_neg (by omega)])⟩⟩
  have h716 : ∀ y : Int32, wpj_L_fits_716 o lo ar K Kx Rec a0 a1 (en (vl + S (6 + n) 1)) (en (vm + S (6 + n) 2)) (en (vr + rv (S (6 + n) 0))) (en vw') (en (n : Int)) (en (S (6 + n) 0)) y X := fun y => by
    unfold wpj_L_fits_716
    rw [show (9 : Int32) = en 9 from rfl, en_le (by omega) (by omega) (by omega) (by omega)]
    refine ⟨fun _ => h735 y, fun e => ?_⟩
    refine g_line2 h hn ?_
    rcases hI.lkL n hn with g | ⟨f, hf, g1, g2, g3⟩
    · rw [g.1]
      exact ⟨fun _ => h735 y, fun z => absurd rfl z⟩
    · rcases g3 with g3 | g3
      · have := (hI.lkC f hf n hn g2 g3).2
        unfold smt at this
        omega
      · have := (hI.lkT f hf n hn g3).2
        omega
  have h675 : ∀ y t : Int32, y = t → wpj_L_fits_675 o lo ar K Kx Rec a0 a1 (en (vl + S (6 + n) 1)) (en (vm + S (6 + n) 2)) (en (vr + rv (S (6 + n) 0))) (en vw') (en (n : Int)) (en (S (6 + n) 0)) y X y t := fun y t hyt => by
    unfold wpj_L_fits_675
    refine ⟨fun _ => ?_, fun z => absurd hyt z⟩
    rw [e_0 (by omega) (by omega)]
    refine ⟨fun e => ?_, fun _ => h716 y⟩
    have g := hl.2.2.2.2.2.2.2.1 e
    refine g_line1 h hI hn ?_
    refine ⟨fun z => absurd ((show en (S (6 + n) 1) = en 0 by rw [g.1]).symm.trans z) (by decide), fun _ => ?_⟩
    refine g_line4 h hn ?_
    rw [g.2.1]
    refine ⟨fun z => absurd z (by decide), fun _ => ?_⟩
    refine g_line2 h hn ?_
    rw [g.2.2]
    exact ⟨fun _ => h716 y, fun z => absurd rfl z⟩
  have h674 : ∀ y : Int32, y = 0 → wpj_L_fits_674 o lo ar K Kx Rec a0 a1 (en (vl + S (6 + n) 1)) (en (vm + S (6 + n) 2)) (en (vr + rv (S (6 + n) 0))) (en vw') (en (n : Int)) (en (S (6 + n) 0)) y X y := fun y hy => h675 y 0 hy
  have h651 : ∀ t : Int32, t = (if S (6 + n) 0 = 2 ∨ S (6 + n) 0 = 3 ∨ S (6 + n) 0 = 4 ∨ S (6 + n) 0 = 6 ∨ S (6 + n) 0 = 8 ∨ S (6 + n) 0 = 9 then 1 else 0) → wpj_L_fits_651 o lo ar K Kx Rec a0 a1 (en (vl + S (6 + n) 1)) (en (vm + S (6 + n) 2)) (en (vr + rv (S (6 + n) 0))) (en vw') (en (n : Int)) (en (S (6 + n) 0)) X t := fun t ht => by
    unfold wpj_L_fits_651
    rw [hcl, hown, e_1 (s := S (6 + n) 0) (by omega) (by omega)]
    refine ⟨hvp, ?_⟩
    rcases hoa with ⟨a, b⟩ | ⟨a, b⟩
    · rw [a]
      rw [if_neg (by omega)] at ht
      exact ⟨fun z => absurd z (by decide), fun _ => h674 t ht⟩
    · rw [a]
      refine ⟨fun _ => ⟨fun e => h674 t (by rw [ht, if_neg (by omega)]), fun e => h675 t 1 (by rw [ht, if_pos (by omega)])⟩, fun z => absurd rfl z⟩
  have h646 : (S (6 + n) 0 = 2 ∨ S (6 + n) 0 = 3 ∨ S (6 + n) 0 = 4 ∨ S (6 + n) 0 = 6 ∨ S (6 + n) 0 = 8 ∨ S (6 + n) 0 = 9) → wpj_L_fits_646 o lo ar K Kx Rec a0 a1 (en (vl + S (6 + n) 1)) (en (vm + S (6 + n) 2)) (en (vr + rv (S (6 + n) 0))) (en vw') (en (n : Int)) (en (S (6 + n) 0)) X := fun c => h651 1 (by rw [if_pos c])
  have h604 : ∀ (r : Int32) (u v : Int), u - v = vr + rv (S (6 + n) 0) → ∀ t : Int32, t = en v → wpj_L_fits_604 o lo ar K Kx Rec a0 a1 (en (vl + S (6 + n) 1)) (en (vm + S (6 + n) 2)) r (en vw') (en (n : Int)) (en (S (6 + n) 0)) X (en u) t := fun r u v huv t ht => by
    unfold wpj_L_fits_604
    intro w ew
    rw [ht, en_sub, huv] at ew
    subst ew
    rw [e_2 (by omega) (by omega), e_3 (by omega) (by omega), e_4 (by omega) (by omega), e_6 (by omega) (by omega), e_8 (by omega) (by omega), e_9 (by omega) (by omega)]
    exact ⟨fun e => h646 (by omega), fun _ => ⟨fun e => h646 (by omega), fun _ => ⟨fun e => h646 (by omega), fun _ => ⟨fun e => h646 (by omega), fun _ => ⟨fun e => h646 (by omega), fun _ => ⟨fun e => h646 (by omega), fun _ => h651 0 (by rw [if_neg (by omega)])⟩⟩⟩⟩⟩⟩
  have h581 : ∀ t : Int32, t = (if S (6 + n) 0 = 5 ∨ S (6 + n) 0 = 7 then 1 else 0) → wpj_L_fits_581 o lo ar K Kx Rec a0 a1 (en (vl + S (6 + n) 1)) (en (vm + S (6 + n) 2)) (en vr) (en vw') (en (n : Int)) (en (S (6 + n) 0)) X (en vr) t := fun t ht => by
    unfold wpj_L_fits_581
    intro w ew
    rw [e_4 (by omega) (by omega), e_6 (by omega) (by omega)]
    by_cases c : S (6 + n) 0 = 5 ∨ S (6 + n) 0 = 7
    · rw [if_pos c] at ht
      rw [ht, en_s] at ew
      subst ew
      have e : rv (S (6 + n) 0) = 1 := by unfold rv; rw [if_pos c]
      exact ⟨fun z => by omega, fun _ => ⟨fun z => by omega, fun _ => h604 _ (vr + 1) 0 (by omega) 0 rfl⟩⟩
    · rw [if_neg c] at ht
      rw [ht, show (0 : Int32) = en 0 from rfl, en_add] at ew
      subst ew
      by_cases c2 : S (6 + n) 0 = 4 ∨ S (6 + n) 0 = 6
      · have e : rv (S (6 + n) 0) = -1 := by unfold rv; rw [if_neg c, if_pos c2]
        exact ⟨fun z => h604 _ (vr + 0) 1 (by omega) 1 rfl, fun _ => ⟨fun z => h604 _ (vr + 0) 1 (by omega) 1 rfl, fun z => by omega⟩⟩
      · have e : rv (S (6 + n) 0) = 0 := by unfold rv; rw [if_neg c, if_neg c2]
        exact ⟨fun z => by omega, fun _ => ⟨fun z => by omega, fun _ => h604 _ (vr + 0) 0 (by omega) 0 rfl⟩⟩
  have h576 : (S (6 + n) 0 = 5 ∨ S (6 + n) 0 = 7) → wpj_L_fits_576 o lo ar K Kx Rec a0 a1 (en (vl + S (6 + n) 1)) (en (vm + S (6 + n) 2)) (en vr) (en vw') (en (n : Int)) (en (S (6 + n) 0)) X (en vr) := fun c => h581 1 (by rw [if_pos c])
  refine g_line0 h hn ?_
  refine g_line1 h hI hn ?_
  intro v ev
  rw [en_add] at ev
  subst ev
  refine g_line5 h hn ?_
  intro v ev
  rw [en_add] at ev
  subst ev
  rw [e_5 (by omega) (by omega), e_7 (by omega) (by omega)]
  exact ⟨fun e => h576 (Or.inl e), fun _ => ⟨fun e => h576 (Or.inr e), fun _ => h581 0 (by rw [if_neg (by omega)])⟩⟩
end FL
-- ===== fits answers true =====
section FT
variable {S : SS} {q : Int} {o lo : Nat}
theorem fits_lines {X : ES} {ar : Nat} {K : Int32 → ES → Prop} {Kx : Int32 → Int32 → Int32 → Int32 → Int32 → Int32 → Int32 → ES → Prop} {a0 a1 : Int32} (h : Ag S (vw (o + 1) X)) (hq : 0 ≤ q ∧ q < 1000000) (hI : Inv q S) (hown : ∀ n : Nat, n < 16 → X ar n = en (own S (S 0 5).toNat n)) (hK : Kx a0 a1 (en (sm (fun n => S (6 + n) 1) 16)) (en (sm (fun n => S (6 + n) 2) 16)) (en (sm (fun n => rv (S (6 + n) 0)) 16)) (en (sm (wB S) 16)) 16 X) : ∀ (m i : Nat), i + m = 16 → wpl_L_fits_523 o lo ar K Kx (m + 1) a0 a1 (en (sm (fun n => S (6 + n) 1) i)) (en (sm (fun n => S (6 + n) 2) i)) (en (sm (fun n => rv (S (6 + n) 0)) i)) (en (sm (wB S) i)) (en (i : Int)) X
  | 0, i, e => by
    have e : i = 16 := by omega
    subst e
    rw [wpl_L_fits_523]
    exact ⟨fun _ => hK, fun z => absurd (show (16 : Int32) ≤ 16 by decide) z⟩
  | m + 1, i, e => by
    rw [wpl_L_fits_523]
    refine ⟨fun z => absurd z ?_, fun _ => ?_⟩
    · rw [show (16 : Int32) = en 16 from rfl, en_le (by omega) (by omega) (by omega) (by omega)]
      omega
    · exact fit_lin h hq hI (by omega) (hown i (by omega)) (fits_lines h hq hI hown hK m (i + 1) (by omega))
theorem fits_fins {ar : Nat} {K : Int32 → ES → Prop} {Kx : Int32 → Int32 → Int32 → Int32 → Int32 → ES → Prop} {X0 : ES} (hq : 0 ≤ q ∧ q < 1000000) (hI : Inv q S) (har : o + 27 ≤ ar) (h0 : Ag S (vw (o + 1) X0)) (hK : ∀ X : ES, (∀ a, ¬ a = ar → X a = X0 a) → (∀ n : Nat, n < 16 → X ar n = en (own S (S 0 5).toNat n)) → Kx (en (sm (frI S) (S 0 5).toNat)) (en (sm (hdI S) (S 0 5).toNat)) 0 0 (en (S 0 5)) X) : ∀ (m i : Nat) (X : ES), (i : Int) + m = S 0 5 → (∀ a, ¬ a = ar → X a = X0 a) → (∀ n : Nat, n < 16 → X ar n = en (own S i n)) → wpl_L_fits_18 o lo ar K Kx (m + 1) (en (sm (frI S) i)) (en (sm (hdI S) i)) 0 0 (en (i : Int)) X
  | 0, i, X, e, hX, hown => by
    have hh := hI.hd
    unfold hdOK at hh
    have h : Ag S (vw (o + 1) X) := fun k j hr => by
      have hk : k < 26 := by unfold rl at hr; omega
      show X (o + 1 + k) j = _
      rw [hX _ (by omega)]
      exact h0 k j hr
    rw [wpl_L_fits_18]
    refine g_count1 h ?_
    rw [en_le (by omega) (by omega) (by omega) (by omega)]
    have ei : (S 0 5).toNat = i := by omega
    have := hK X hX (fun n hn => by rw [ei]; exact hown n hn)
    rw [ei, show S 0 5 = (i : Int) by omega] at this
    exact ⟨fun _ => this, fun z => by omega⟩
  | m + 1, i, X, e, hX, hown => by
    have hh := hI.hd
    unfold hdOK at hh
    have h : Ag S (vw (o + 1) X) := fun k j hr => by
      have hk : k < 26 := by unfold rl at hr; omega
      show X (o + 1 + k) j = _
      rw [hX _ (by omega)]
      exact h0 k j hr
    rw [wpl_L_fits_18]
    refine g_count1 h ?_
    rw [en_le (by omega) (by omega) (by omega) (by omega)]
    refine ⟨fun z => by omega, fun _ => ?_⟩
    exact fit_fin h hq hI (by omega) har hown (fun X' h1 h2 => fits_fins hq hI har h0 hK m (i + 1) X' (by omega) (fun a ha => (h1 a ha).trans (hX a ha)) h2)
theorem fits_ok {E0 : ES} {K : Int32 → ES → Prop} (h : Ag S (vw (o + 1) E0)) (hq : 0 ≤ q ∧ q < 1000000) (hI : Inv q S) (hlo : o + 55 ≤ lo) (hK : ∀ X : ES, (∀ a, a ≤ lo → X a = E0 a) → K 1 X) : wp_L_fits o lo E0 K := by
  have hh := hI.hd
  unfold hdOK at hh
  unfold wp_L_fits
  intro ar har X2 eX2
  have hX2 : ∀ a, ¬ a = ar → X2 a = E0 a := fun a ha => by rw [eX2, vuN ha]
  have h2 : Ag S (vw (o + 1) X2) := fun k j hr => by
    have hk : k < 26 := by unfold rl at hr; omega
    show X2 (o + 1 + k) j = _
    rw [hX2 _ (by omega)]
    exact h k j hr
  refine ⟨(S 0 5).toNat + 1, fits_fins hq hI (by omega) h2 (fun X hX hown => ?_) (S 0 5).toNat 0 X2 (by omega) (fun _ _ => rfl) (fun n _ => by rw [eX2, vuS]; rfl)⟩
  have hA : Ag S (vw (o + 1) X) := fun k j hr => by
    have hk : k < 26 := by unfold rl at hr; omega
    show X (o + 1 + k) j = _
    rw [hX _ (by omega)]
    exact h2 k j hr
  refine ⟨17, fits_lines hA hq hI hown ?_ 16 0 rfl⟩
  obtain ⟨k1, k2, k3, k4, k5⟩ := hI.cnt
  have s1 := sm_ge (g := fun n => w1 (S (6 + n) 0)) (fun i => by unfold w1; split <;> omega) 16
  have s2 := sm_ge (g := fun f => w2 (S (22 + f) 0)) (fun i => by unfold w2; split <;> omega) 4
  have s3 := sm_ge (g := fun f => w3 (S (22 + f) 0)) (fun i => by unfold w3; split <;> omega) 4
  have s4 : ∀ k : Nat, k ≤ 16 → sm (fun n => S (6 + n) 2) k ≤ 1000000 * k := fun k => by
    induction k with
    | zero => intro _; simp [sm]
    | succ k ih =>
      intro hk
      have a := ih (by omega)
      have b := hI.lin k (by omega)
      unfold linOK at b
      simp only [sm]
      omega
  have s5 := s4 16 (by omega)
  obtain ⟨kb, hkb, eb⟩ := wB_sum hI hq.1
  rw [k5, eb]
  refine ⟨fun _ => ?_, fun z => absurd rfl z⟩
  refine ⟨fun _ => ?_, fun z => absurd (bits_ok hkb) z⟩
  refine g_count3 hA hI ⟨fun _ => ?_, fun z => absurd rfl z⟩
  refine g_count4 hA hI ?_
  refine g_count2 hA ⟨fun _ => ?_, fun z => absurd (by rw [show (4 : Int32) = en 4 from rfl, en_mul, en_sub]) z⟩
  refine g_count5 hA ⟨fun _ => ?_, fun z => absurd rfl z⟩
  refine g_count13 hA hI ⟨fun _ => ?_, fun z => absurd rfl z⟩
  refine g_count7 hA ?_
  refine g_count6 hA ?_
  rw [en_lt (by omega) (by omega) (by omega) (by omega)]
  refine ⟨fun z => by omega, fun _ => ?_⟩
  refine g_count8 hA ?_
  refine g_count7 hA ?_
  rw [en_lt (by omega) (by omega) (by omega) (by omega)]
  refine ⟨fun z => by omega, fun _ => ?_⟩
  refine g_count9 hA ?_
  refine g_count8 hA ?_
  rw [en_lt (by omega) (by omega) (by omega) (by omega)]
  refine ⟨fun z => by omega, fun _ => ?_⟩
  refine g_count9 hA ?_
  rw [en_lt (by omega) (by omega) (by omega) (by omega)]
  exact ⟨fun z => by omega, fun _ => hK X (fun a ha => (hX a (by omega)).trans (hX2 a (by omega)))⟩
end FT
