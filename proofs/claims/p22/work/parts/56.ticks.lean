-- ===== ticks =====
def sameA (a1 a6 : Nat) (X X' : ES) : Prop := ∀ a, ¬ a = a1 → ¬ a = a6 → X' a = X a
theorem Ag.out {S : SS} {X X' : ES} {o : Nat} (h : Ag S (vw (o + 1) X)) (he : ∀ k, k < 26 → X' (o + 1 + k) = X (o + 1 + k)) : Ag S (vw (o + 1) X') := fun k j hr => by
  have hk : k < 26 := by unfold rl at hr; omega
  show X' (o + 1 + k) j = _
  rw [he k hk]
  exact h k j hr
/-- the line that waited first, as the law finds it -/
def fstF (S : SS) : Nat → Int
  | 0 => -6
  | i + 1 => if plc S i = 0 then (i : Int) else fstF S i
theorem fstF_spec {S : SS} : ∀ i : Nat, fstF S i = -6 ∨ ∃ z : Nat, z < i ∧ fstF S i = (z : Int) ∧ plc S z = 0
  | 0 => Or.inl rfl
  | i + 1 => by
    rw [fstF]
    by_cases c : plc S i = 0
    · rw [if_pos c]; exact Or.inr ⟨i, by omega, rfl, c⟩
    · rw [if_neg c]
      rcases fstF_spec (S := S) i with h | ⟨z, h1, h2, h3⟩
      · exact Or.inl h
      · exact Or.inr ⟨z, by omega, h2, h3⟩
theorem sm_z {g : Nat → Int} (h : ∀ i, 0 ≤ g i) : ∀ n : Nat, sm g n = 0 → ∀ i, i < n → g i = 0
  | 0, _, i, hi => by omega
  | n + 1, e, i, hi => by
    simp only [sm] at e
    have a := sm_ge h n
    have b := h n
    by_cases c : i = n
    · subst c; omega
    · exact sm_z h n (by omega) i (by omega)
theorem plc_min {S : SS} {z : Nat} (h : plc S z = 0) : uns S z ∧ ∀ n : Nat, n < 16 → uns S n → S (6 + z) 7 ≤ S (6 + n) 7 := by
  unfold plc at h
  by_cases c : S (6 + z) 0 = 1 ∧ S (6 + z) 6 = -6
  · rw [if_pos c] at h
    refine ⟨c, fun n hn hu => ?_⟩
    have := sm_z (g := bef S z) (fun i => (bef_rng z i).1) 16 h n hn
    unfold bef at this
    by_cases d : S (6 + n) 7 < S (6 + z) 7
    · rw [if_pos ⟨hu, d⟩] at this; omega
    · omega
  · rw [if_neg c] at h; omega
def skI (S : SS) (z : Int) (f : Nat) : Int := if 0 ≤ z ∧ S (22 + f) 0 = 1 ∧ S (22 + f) 2 = z then 1 else 0
theorem frI_pos {S : SS} : ∀ n : Nat, 0 < sm (frI S) n → ∃ f : Nat, f < n ∧ S (22 + f) 0 = 0
  | 0, h => by simp [sm] at h
  | n + 1, h => by
    by_cases c : S (22 + n) 0 = 0
    · exact ⟨n, by omega, c⟩
    · have e : frI S n = 0 := by unfold frI; rw [if_neg c]
      simp only [sm] at h
      obtain ⟨f, h1, h2⟩ := frI_pos (S := S) n (by omega)
      exact ⟨f, by omega, h2⟩
theorem sm_at {g : Nat} : ∀ n : Nat, g < n → sm (fun f => if f = g then 1 else 0) n = 1 := fun n hn => by
  have h := sm_one (g := fun _ => 0) (g' := fun f => if f = g then 1 else 0) (c := g) n (fun i _ hi => by simp only [if_neg hi])
  rw [if_pos hn, sm_0 (g := fun _ => 0) n (fun _ _ => rfl)] at h
  rw [h]; simp
section TK
variable {S : SS} {q : Int} {o lo a1 a6 : Nat} {K : Int32 → ES → Prop}
theorem tk_due {X0 : ES} {Kx : Int32 → Int32 → Int32 → ES → Prop} {b0 b1 : Int32} (hq : 0 ≤ q ∧ q < 1000000) (hI : Inv q S) (h1 : o + 55 < a1) (h6 : a1 < a6) (h0 : Ag S (vw (o + 1) X0)) (hK : ∀ X : ES, sameA a1 a6 X0 X → (∀ f : Nat, (f : Int) < S 0 5 → X a1 f = en (due S f)) → Kx b0 b1 (en (S 0 5)) X) : ∀ (m i : Nat) (X : ES), (i : Int) + m = S 0 5 → sameA a1 a6 X0 X → (∀ f : Nat, f < i → X a1 f = en (due S f)) → wpl_L_ticks_21 o lo a1 a6 K Kx (m + 1) b0 b1 (en (i : Int)) X
  | 0, i, X, e, hX, hd => by
    have hh := hI.hd
    unfold hdOK at hh
    have h : Ag S (vw (o + 1) X) := h0.out (fun k hk => hX _ (by omega) (by omega))
    rw [wpl_L_ticks_21]
    refine g_count1 h ?_
    rw [en_le (by omega) (by omega) (by omega) (by omega)]
    have := hK X hX (fun f hf => hd f (by omega))
    rw [show S 0 5 = (i : Int) by omega] at this
    exact ⟨fun _ => this, fun z => by omega⟩
  | m + 1, i, X, e, hX, hd => by
    have hh := hI.hd
    unfold hdOK at hh
    have h : Ag S (vw (o + 1) X) := h0.out (fun k hk => hX _ (by omega) (by omega))
    rw [wpl_L_ticks_21]
    refine g_count1 h ?_
    rw [en_le (by omega) (by omega) (by omega) (by omega)]
    refine ⟨fun z => by omega, fun _ => ?_⟩
    refine next_ok h hq hI (by omega) ⟨vp_en (by omega) (by decide), fun X1 e1 => ?_⟩
    rw [cl_en (by omega)] at e1
    have hX1 : sameA a1 a6 X0 X1 := fun a ha hb => by rw [e1, vuN ha]; exact hX a ha hb
    have h1A : Ag S (vw (o + 1) X1) := h0.out (fun k hk => hX1 _ (by omega) (by omega))
    refine g_finder6 h1A hI (by omega) ⟨vp_en (by omega) (by decide), fun X2 e2 v ev => ?_⟩
    rw [show en (i : Int) + 1 = en ((i + 1 : Nat) : Int) from en_s _] at ev
    subst ev
    refine tk_due hq hI h1 h6 h0 hK m (i + 1) X2 (by omega) (fun a ha hb => by rw [e2, vuN hb]; exact hX1 a ha hb) (fun f hf => ?_)
    rw [e2, vuN (by omega), e1, vuS, updA]
    by_cases c : f = i
    · subst c; rw [if_pos rfl]
    · rw [if_neg c]; exact hd f (by omega)
theorem tk_had {X0 : ES} {Kx : Int32 → Int32 → Int32 → ES → Prop} {b0 b1 : Int32} (hq : 0 ≤ q ∧ q < 1000000) (h1 : o + 55 < a1) (h6 : a1 < a6) (h0 : Ag S (vw (o + 1) X0)) (hK : ∀ X : ES, (∀ a, ¬ a = a6 → X a = X0 a) → (∀ n : Nat, n < 16 → X a6 n = en (S (6 + n) 2)) → Kx b0 b1 16 X) : ∀ (m i : Nat) (X : ES), i + m = 16 → (∀ a, ¬ a = a6 → X a = X0 a) → (∀ n : Nat, n < i → X a6 n = en (S (6 + n) 2)) → wpl_L_ticks_62 o lo a1 a6 K Kx (m + 1) b0 b1 (en (i : Int)) X
  | 0, i, X, e, hX, hd => by
    have e : i = 16 := by omega
    subst e
    rw [wpl_L_ticks_62]
    exact ⟨fun _ => hK X hX hd, fun z => absurd (show (16 : Int32) ≤ 16 by decide) z⟩
  | m + 1, i, X, e, hX, hd => by
    have h : Ag S (vw (o + 1) X) := h0.out (fun k hk => hX _ (by omega))
    rw [wpl_L_ticks_62]
    refine ⟨fun z => absurd z ?_, fun _ => ?_⟩
    · rw [show (16 : Int32) = en 16 from rfl, en_le (by omega) (by omega) (by omega) (by omega)]
      omega
    · refine g_line5 h (by omega) ⟨vp_en (by omega) (by decide), fun X1 e1 v ev => ?_⟩
      rw [cl_en (by omega)] at e1
      rw [show en (i : Int) + 1 = en ((i + 1 : Nat) : Int) from en_s _] at ev
      subst ev
      refine tk_had hq h1 h6 h0 hK m (i + 1) X1 (by omega) (fun a ha => by rw [e1, vuN ha]; exact hX a ha) (fun n hn => ?_)
      rw [e1, vuS, updA]
      by_cases c : n = i
      · subst c; rw [if_pos rfl]
      · rw [if_neg c]; exact hd n (by omega)
theorem tk_first {X : ES} {Kx : Int32 → Int32 → Int32 → Int32 → Int32 → ES → Prop} {b0 b1 b2 : Int32} (h : Ag S (vw (o + 1) X)) (hq : 0 ≤ q ∧ q < 1000000) (hI : Inv q S) (hK : Kx b0 b1 b2 (en (fstF S 16)) 16 X) : ∀ (m i : Nat), i + m = 16 → wpl_L_ticks_100 o lo a1 a6 K Kx (m + 1) b0 b1 b2 (en (fstF S i)) (en (i : Int)) X
  | 0, i, e => by
    have e : i = 16 := by omega
    subst e
    rw [wpl_L_ticks_100]
    exact ⟨fun _ => hK, fun z => absurd (show (16 : Int32) ≤ 16 by decide) z⟩
  | m + 1, i, e => by
    have hr := sm_rng (g := bef S i) (b := 1) (fun j => bef_rng i j) 16
    have hp : -6 ≤ plc S i ∧ plc S i ≤ 16 := by unfold plc; split <;> omega
    rw [wpl_L_ticks_100]
    refine ⟨fun z => absurd z ?_, fun _ => ?_⟩
    · rw [show (16 : Int32) = en 16 from rfl, en_le (by omega) (by omega) (by omega) (by omega)]
      omega
    · refine g_line7 h hq hI (by omega) ?_
      have key : ∀ t : Int32, t = en (fstF S (i + 1)) → wpj_L_ticks_125 o lo a1 a6 K Kx (wpl_L_ticks_100 o lo a1 a6 K Kx (m + 1)) b0 b1 b2 (en (fstF S i)) (en (i : Int)) X t := fun t ht => by
        unfold wpj_L_ticks_125
        intro v ev
        rw [show en (i : Int) + 1 = en ((i + 1 : Nat) : Int) from en_s _] at ev
        rw [ev, ht]
        exact tk_first h hq hI hK m (i + 1) (by omega)
      rw [e_0 (by omega) (by omega)]
      refine ⟨fun c => key _ ?_, fun c => key _ ?_⟩
      · rw [fstF, if_pos c]
      · rw [fstF, if_neg c]
theorem tk_sought {X : ES} {Kx : Int32 → Int32 → Int32 → Int32 → Int32 → Int32 → Int32 → ES → Prop} {b0 b1 b2 b4 : Int32} (h : Ag (tick S) (vw (o + 1) X)) (hq : 0 ≤ q ∧ q < 900000) (hI : Inv q S) (hd : ∀ f : Nat, (f : Int) < S 0 5 → X a1 f = en (due S f)) {z : Int} (hz : -6 ≤ z ∧ z < 16) (hK : Kx b0 b1 b2 (en z) b4 (en (sm (skI (tick S) z) (S 0 5).toNat)) (en (S 0 5)) X) : ∀ (m i : Nat), (i : Int) + m = S 0 5 → wpl_L_ticks_167 o lo a1 a6 K Kx (m + 1) b0 b1 b2 (en z) b4 (en (sm (skI (tick S) z) i)) (en (i : Int)) X
  | 0, i, e => by
    have hh := hI.hd
    unfold hdOK at hh
    have e5 : tick S 0 5 = S 0 5 := tick_hd (Or.inl rfl)
    rw [wpl_L_ticks_167]
    refine g_count1 h ?_
    rw [e5, en_le (by omega) (by omega) (by omega) (by omega)]
    rw [show (S 0 5).toNat = i by omega, show S 0 5 = (i : Int) by omega] at hK
    exact ⟨fun _ => hK, fun z => by omega⟩
  | m + 1, i, e => by
    have hh := hI.hd
    unfold hdOK at hh
    have e5 : tick S 0 5 = S 0 5 := tick_hd (Or.inl rfl)
    have hJ := i_tick hI
    have hi : (i : Int) < tick S 0 5 := by omega
    have hfz := hJ.fin i (by omega)
    unfold finOK at hfz
    have ih := tk_sought h hq hI hd hz hK m (i + 1) (by omega)
    have es : sm (skI (tick S) z) (i + 1) = sm (skI (tick S) z) i + skI (tick S) z i := rfl
    have h247 : ∀ (y t : Int32), t = en (skI (tick S) z i) → wpj_L_ticks_247 o lo a1 a6 K Kx (wpl_L_ticks_167 o lo a1 a6 K Kx (m + 1)) b0 b1 b2 (en z) b4 (en (sm (skI (tick S) z) i)) (en (i : Int)) y X (en (sm (skI (tick S) z) i)) t := fun y t ht => by
      unfold wpj_L_ticks_247
      intro v ev w ew
      rw [ht, en_add, ← es] at ev
      rw [show en (i : Int) + 1 = en ((i + 1 : Nat) : Int) from en_s _] at ew
      rw [ev, ew]; exact ih
    have h246 : ∀ y : Int32, skI (tick S) z i = 0 → wpj_L_ticks_246 o lo a1 a6 K Kx (wpl_L_ticks_167 o lo a1 a6 K Kx (m + 1)) b0 b1 b2 (en z) b4 (en (sm (skI (tick S) z) i)) (en (i : Int)) y X (en (sm (skI (tick S) z) i)) := fun y hy => h247 y 0 (by rw [hy]; rfl)
    have h217 : wpj_L_ticks_217 o lo a1 a6 K Kx (wpl_L_ticks_167 o lo a1 a6 K Kx (m + 1)) b0 b1 b2 (en z) b4 (en (sm (skI (tick S) z) i)) (en (i : Int)) (en (tick S (22 + i) 0)) X := by
      unfold wpj_L_ticks_217
      rw [show (0 : Int32) = en 0 from rfl, en_lt (by omega) (by omega) (by omega) (by omega), e_1 (by omega) (by omega)]
      refine ⟨fun c => h246 _ (by unfold skI; rw [if_neg (fun y => by omega)]), fun c => ⟨fun d => ?_, fun d => h246 _ (by unfold skI; rw [if_neg (fun y => d y.2.1)])⟩⟩
      refine g_finder2 h hJ hi ?_
      rw [en_eq (by omega) (by omega) (by omega) (by omega)]
      refine ⟨fun y => h247 _ 1 ?_, fun y => h246 _ (by unfold skI; rw [if_neg (fun w => y w.2.2)])⟩
      rw [skI, if_pos ⟨by omega, d, y⟩]; rfl
    have hdr : -1 ≤ due S i ∧ due S i ≤ 9 := by
      unfold due
      (repeat' split) <;> omega
    rw [wpl_L_ticks_167]
    refine g_count1 h ?_
    rw [e5, en_le (by omega) (by omega) (by omega) (by omega)]
    refine ⟨fun z => by omega, fun _ => ?_⟩
    refine g_finder0 h hJ hi ⟨vp_en (by omega) (by decide), ?_⟩
    rw [cl_en (by omega), hd i (by omega), show (0 : Int32) = en 0 from rfl, en_lt (by omega) (by omega) (by omega) (by omega), en_eq (by omega) (by omega) (by omega) (by omega), en_eq (by omega) (by omega) (by omega) (by omega)]
    refine ⟨fun _ => h217, fun c => ⟨vp_en (by omega) (by decide), fun _ => h217, fun d => ⟨vp_en (by omega) (by decide), fun d0 => ?_, fun d0 => ?_⟩⟩⟩
    · rw [e_1 (by omega) (by omega)]
      refine ⟨fun _ => h217, fun y => ?_⟩
      rcases tick_due hI (f := i) (by omega) (by omega) with g | ⟨g1, g2⟩
      · exact absurd g d
      · exact absurd g2 y
    · rcases tick_due hI (f := i) (by omega) (by omega) with g | ⟨g1, g2⟩
      · exact absurd g d
      · exact absurd g1 d0
theorem tk_meter {X : ES} {Kx : Int32 → Int32 → Int32 → Int32 → Int32 → Int32 → Int32 → ES → Prop} {b0 b1 b2 b3 b4 b5 : Int32} (h : Ag (tick S) (vw (o + 1) X)) (hq : 0 ≤ q ∧ q < 900000) (hI : Inv q S) (hd : ∀ n : Nat, n < 16 → X a6 n = en (S (6 + n) 2)) (hK : Kx b0 b1 b2 b3 b4 b5 16 X) : ∀ (m i : Nat), i + m = 16 → wpl_L_ticks_277 o lo a1 a6 K Kx (m + 1) b0 b1 b2 b3 b4 b5 (en (i : Int)) X
  | 0, i, e => by
    have e : i = 16 := by omega
    subst e
    rw [wpl_L_ticks_277]
    exact ⟨fun _ => hK, fun z => absurd (show (16 : Int32) ≤ 16 by decide) z⟩
  | m + 1, i, e => by
    have hJ := i_tick hI
    have hl := hJ.lin i (by omega)
    unfold linOK at hl
    have hl2 := hI.lin i (by omega)
    unfold linOK at hl2
    have ih := tk_meter h hq hI hd hK m (i + 1) (by omega)
    have h328 : wpj_L_ticks_328 o lo a1 a6 K Kx (wpl_L_ticks_277 o lo a1 a6 K Kx (m + 1)) b0 b1 b2 b3 b4 b5 (en (i : Int)) X := by
      unfold wpj_L_ticks_328
      intro v ev
      rw [show en (i : Int) + 1 = en ((i + 1 : Nat) : Int) from en_s _] at ev
      rw [ev]; exact ih
    rw [wpl_L_ticks_277]
    refine ⟨fun z => absurd z ?_, fun _ => ?_⟩
    · rw [show (16 : Int32) = en 16 from rfl, en_le (by omega) (by omega) (by omega) (by omega)]
      omega
    · refine g_line5 h (by omega) ⟨vp_en (by omega) (by decide), ?_⟩
      rw [cl_en (by omega), hd i (by omega), en_eq (by omega) (by omega) (by omega) (by omega)]
      refine ⟨fun _ => h328, fun c => ?_⟩
      rcases tick_meter hI (n := i) (by omega) with g | ⟨g1, g2⟩
      · exact absurd g c
      · refine g_line5 h (by omega) ⟨vp_en (by omega) (by decide), ?_⟩
        rw [en_s, en_eq (by omega) (by omega) (by omega) (by omega)]
        refine ⟨fun _ => ?_, fun y => absurd g1 y⟩
        refine g_line0 h (by omega) ?_
        rw [g2]
        exact ⟨fun _ => h328, fun y => absurd rfl y⟩
/-- the rounds of ticks -/
theorem tk_loop {mn : Nat} (hmn : mn < 100) (hq : 0 ≤ q ∧ q < 40000) (hI : Inv q S) (h1 : o + 55 < a1) (h6 : a1 < a6) {Kx : Int32 → Int32 → ES → Prop} (hK : ∀ X : ES, Ag (tkN S mn) (vw (o + 1) X) → X (o + 30) 0 = 0 → Kx (en (mn : Int)) (en (mn : Int)) X) : ∀ (m k : Nat) (X : ES), k + m = mn → Ag (tkN S k) (vw (o + 1) X) → X (o + 30) 0 = 0 → wpl_L_ticks_12 o lo a1 a6 K Kx (m + 1) (en (mn : Int)) (en (k : Int)) X
  | 0, k, X, e, hA, h30 => by
    have e : k = mn := by omega
    subst e
    rw [wpl_L_ticks_12]
    refine ⟨fun _ => hK X hA h30, fun z => absurd ?_ z⟩
    rw [en_le (by omega) (by omega) (by omega) (by omega)]
    omega
  | m + 1, k, X, e, hA, h30 => by
    have hJ0 := i_tkN hI k
    obtain ⟨q1, eq1⟩ : ∃ z : Int, z = q + 21 * k := ⟨_, rfl⟩
    rw [← eq1] at hJ0
    have hq1 : 0 ≤ q1 ∧ q1 < 50000 := by omega
    have ih := fun (X' : ES) (hA' : Ag (tick (tkN S k)) (vw (o + 1) X')) (h30' : X' (o + 30) 0 = 0) => tk_loop hmn hq hI h1 h6 hK m (k + 1) X' (by omega) hA' h30'
    generalize tkN S k = T at hA hJ0 ih
    have hh := hJ0.hd
    unfold hdOK at hh
    rw [wpl_L_ticks_12]
    refine ⟨fun z => absurd z ?_, fun _ => ?_⟩
    · rw [en_le (by omega) (by omega) (by omega) (by omega)]
      omega
    · refine ⟨(T 0 5).toNat + 1, tk_due (q := q1) (by omega) hJ0 h1 h6 hA (fun X1 hX1 hd1 => ?_) (T 0 5).toNat 0 X (by omega) (fun _ _ _ => rfl) (fun f hf => by omega)⟩
      have hA1 : Ag T (vw (o + 1) X1) := hA.out (fun k hk => hX1 _ (by omega) (by omega))
      refine ⟨17, tk_had (q := q1) (by omega) h1 h6 hA1 (fun X2 hX2 hd2 => ?_) 16 0 X1 rfl (fun _ _ => rfl) (fun n hn => by omega)⟩
      have hA2 : Ag T (vw (o + 1) X2) := hA1.out (fun k hk => hX2 _ (by omega))
      have hd3 : ∀ f : Nat, (f : Int) < T 0 5 → X2 a1 f = en (due T f) := fun f hf => by rw [hX2 a1 (by omega)]; exact hd1 f hf
      have h302 : X2 (o + 30) 0 = 0 := by rw [hX2 _ (by omega), hX1 _ (by omega) (by omega)]; exact h30
      refine g_count3 hA2 hJ0 ?_
      refine ⟨17, tk_first (q := q1) hA2 (by omega) hJ0 ?_ 16 0 rfl⟩
      refine g_count0 hA2 ?_
      refine g_tick hA2 hq1 hJ0 (fun X3 hA3 hX3 => ?_)
      refine ⟨fun _ => ?_, fun y => absurd (by rw [en_s]) y⟩
      have hJ1 := i_tick hJ0
      refine fits_ok hA3 (q := q1 + 21) (by omega) hJ1 (by omega) (fun X4 hX4 => ?_)
      refine ⟨fun y => absurd y (by decide), fun _ => ?_⟩
      have hA4 : Ag (tick T) (vw (o + 1) X4) := hA3.out (fun k hk => hX4 _ (by omega))
      have hd4 : ∀ f : Nat, (f : Int) < T 0 5 → X4 a1 f = en (due T f) := fun f hf => by rw [hX4 a1 (by omega), hX3 a1 (by omega)]; exact hd3 f hf
      have hd5 : ∀ n : Nat, n < 16 → X4 a6 n = en (T (6 + n) 2) := fun n hn => by rw [hX4 a6 (by omega), hX3 a6 (by omega)]; exact hd2 n hn
      have h304 : X4 (o + 30) 0 = 0 := by rw [hX4 _ (by omega), hX3 _ (by omega)]; exact h302
      have hz := fstF_spec (S := T) 16
      have hzr : -6 ≤ fstF T 16 ∧ fstF T 16 < 16 := by rcases hz with z | ⟨z, z1, z2, -⟩ <;> omega
      refine ⟨(T 0 5).toNat + 1, tk_sought (q := q1) hA4 (by omega) hJ0 hd4 hzr ?_ (T 0 5).toNat 0 (by omega)⟩
      have hfr := sm_ge (g := frI T) (fun i => by unfold frI; split <;> omega) (T 0 5).toNat
      have hfb := sm_rng (g := frI T) (b := 1) (fun i => by unfold frI; split <;> omega) (T 0 5).toNat
      have h274 : ∀ b2 b3 b4 b5 b6 : Int32, wpj_L_ticks_274 o lo a1 a6 K Kx (wpl_L_ticks_12 o lo a1 a6 K Kx (m + 1)) (en (mn : Int)) (en (k : Int)) b2 b3 b4 b5 b6 X4 := fun b2 b3 b4 b5 b6 => by
        unfold wpj_L_ticks_274
        refine ⟨17, tk_meter (q := q1) hA4 (by omega) hJ0 hd5 ?_ 16 0 rfl⟩
        intro v ev
        rw [show en (k : Int) + 1 = en ((k + 1 : Nat) : Int) from en_s _] at ev
        rw [ev]
        exact ih X4 hA4 h304
      rw [show (0 : Int32) = en 0 from rfl, en_lt (by omega) (by omega) (by omega) (by omega), en_le (by omega) (by omega) (by omega) (by omega)]
      refine ⟨fun _ => h274 _ _ _ _ _, fun c => ⟨fun _ => h274 _ _ _ _ _, fun d => ⟨fun _ => h274 _ _ _ _ _, fun y => absurd ?_ y⟩⟩⟩
      rcases hz with z | ⟨z, z1, z2, z3⟩
      · omega
      · obtain ⟨hu, hmin⟩ := plc_min z3
        obtain ⟨f0, hf0, hf1⟩ := frI_pos (S := T) (T 0 5).toNat (by omega)
        obtain ⟨gg, hg1, hg2⟩ := tick_first hJ0 z1 hu hmin (f0 := f0) (by omega) hf1
        have es : sm (skI (tick T) (fstF T 16)) (T 0 5).toNat = 1 := by
          rw [← sm_at (g := gg) (T 0 5).toNat (by omega)]
          refine sm_eq _ (fun i hi => ?_)
          have := hg2 i (by omega)
          rw [z2]
          unfold skI
          by_cases c : i = gg
          · rw [if_pos c, if_pos ⟨by omega, this.mpr c⟩]
          · rw [if_neg c, if_neg (fun w => c (this.mp w.2))]
        rw [es]; rfl
theorem ticks_ok {mn : Nat} {E0 : ES} (hmn : mn ≤ 7) (h : Ag S (vw (o + 1) E0)) (hq : 0 ≤ q ∧ q < 40000) (hI : Inv q S) (hlo : o + 55 ≤ lo) (h30 : E0 (o + 30) 0 = 0) (hK : ∀ X : ES, Ag (tkN S mn) (vw (o + 1) X) → X (o + 30) 0 = 0 → K 1 X) : wp_L_ticks o lo E0 (en (mn : Int)) K := by
  unfold wp_L_ticks
  intro a1 h1 X2 e2 a6 h6 X4 e4
  have hX : ∀ a, ¬ a = a1 → ¬ a = a6 → X4 a = E0 a := fun a x y => by rw [e4, vuN y, e2, vuN x]
  refine ⟨mn + 1, by omega, tk_loop (by omega) hq hI (by omega) h6 (fun X hA h30 => hK X hA h30) mn 0 X4 (by omega) (h.out (fun k hk => hX _ (by omega) (by omega))) ?_⟩
  rw [hX _ (by omega) (by omega)]; exact h30
end TK
