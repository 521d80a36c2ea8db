-- ===== the law answers true =====
theorem kcond {k : Nat} (hk : k < 100) {c : Int32} {d : Int} (hc : c = en d) (h1 : 0 ≤ d) (h2 : d < 200) : ¬ ((4 * en (k : Int)) + c) < 0 ∧ ((4 * en (k : Int)) + c) < 1000 := by
  rw [hc, show (4 : Int32) = en 4 from rfl, en_mul, en_add, show (0 : Int32) = en 0 from rfl, show (1000 : Int32) = en 1000 from rfl, en_lt (by omega) (by omega) (by omega) (by omega), en_lt (by omega) (by omega) (by omega) (by omega)]
  omega
section LA
variable {S : SS} {X : ES} {q : Int} {o lo n : Nat} {sv : Nat → Option Nat} {K : Int32 → ES → Prop}
theorem act_352 {Kx Rec : Int32 → ES → Prop} {k : Nat} {a b c d : Int32} (h : RP o X S) (hq : 0 ≤ q ∧ q < 30000) (hI : Inv q S) (hlo : o + 55 ≤ lo) (hk : k < 26) (hR : ∀ (S' : SS) (X' : ES), Inv (q + 147) S' → RP o X' S' → Rec (en ((k + 1 : Nat) : Int)) X') : wpj_L_law_352 o lo sv K Kx Rec (en (k : Int)) a b c d X := by
  unfold wpj_L_law_352
  refine fits_ok h.1 (q := q) (by omega) hI hlo (fun X1 hX1 => ⟨fun z => absurd z (by decide), fun _ => ⟨kcond (by omega) (d := 10) rfl (by omega) (by omega), fun r hr => ?_⟩⟩)
  obtain ⟨z, hz, rfl⟩ := cv_of (N := 7) rfl (by omega) (by omega) hr
  have h1 : RP o X1 S := h.of (fun a ha => hX1 a (by omega))
  rw [show (1 : Int32) + en (z : Int) = en ((1 + z : Nat) : Int) from by rw [show (1 : Int32) = en 1 from rfl, en_add]; rfl]
  refine ticks_ok (mn := 1 + z) (by omega) h1.1 (q := q) (by omega) hI hlo h1.2 (fun X2 hA2 h30 => ⟨fun z => absurd z (by decide), fun _ v ev => ?_⟩)
  rw [show en (k : Int) + 1 = en ((k + 1 : Nat) : Int) from en_s _] at ev
  rw [ev]
  exact hR _ X2 ((i_tkN hI (1 + z)).mono (by omega)) ⟨hA2, h30⟩
theorem dl_loop {Kx : Int32 → Int32 → Int32 → Int32 → Int32 → Int32 → ES → Prop} {k : Nat} (hk : k < 26) {b1 b2 b3 b4 : Int32} (hq : 0 ≤ q ∧ q < 30000) (hK : ∀ (S' : SS) (X' : ES), Inv q S' → RP o X' S' → Kx (en (k : Int)) b1 b2 b3 b4 16 X') : ∀ (m i : Nat) (S : SS) (X : ES), i + m = 16 → Inv q S → RP o X S → wpl_L_law_267 o lo sv K Kx (m + 1) (en (k : Int)) b1 b2 b3 b4 (en (i : Int)) X
  | 0, i, S, X, e, hI, h => by
    have e : i = 16 := by omega
    subst e
    rw [wpl_L_law_267]
    exact ⟨fun _ => hK S X hI h, fun z => absurd (show (16 : Int32) ≤ 16 by decide) z⟩
  | m + 1, i, S, X, e, hI, h => by
    have hl := hI.lin i (by omega)
    unfold linOK at hl
    have h346 : ∀ (S' : SS) (X' : ES) (y : Int32), Inv q S' → RP o X' S' → wpj_L_law_346 o lo sv K Kx (wpl_L_law_267 o lo sv K Kx (m + 1)) (en (k : Int)) b1 b2 b3 b4 (en (i : Int)) y X' := fun S' X' y h1 h2 => by
      unfold wpj_L_law_346
      intro v ev
      rw [show en (i : Int) + 1 = en ((i + 1 : Nat) : Int) from en_s _] at ev
      rw [ev]
      exact dl_loop hk hq hK m (i + 1) S' X' (by omega) h1 h2
    rw [wpl_L_law_267]
    refine ⟨fun z => absurd z ?_, fun _ => ⟨?_, fun r hr => ?_⟩⟩
    · rw [show (16 : Int32) = en 16 from rfl, en_le (by omega) (by omega) (by omega) (by omega)]
      omega
    · rw [show (9 : Int32) = en 9 from rfl, show (4 : Int32) = en 4 from rfl, en_mul, en_add, en_add, show (0 : Int32) = en 0 from rfl, show (1000 : Int32) = en 1000 from rfl, en_lt (by omega) (by omega) (by omega) (by omega), en_lt (by omega) (by omega) (by omega) (by omega)]
      omega
    · obtain ⟨d, hd, rfl⟩ := cv_of (N := 16) rfl (by omega) (by omega) hr
      refine g_line0 h.1 (by omega) ?_
      rw [e_2 (by omega) (by omega)]
      refine ⟨fun e2 => ?_, fun _ => h346 S X _ hI h⟩
      refine g_line4 h.1 (by omega) ?_
      rw [e_0 (by omega) (by omega)]
      refine ⟨fun e5 => ?_, fun _ => h346 S X _ hI h⟩
      have d1 : (en (d : Int)) / 4 + 1 = en ((d : Int) / 4 + 1) := by rw [show (4 : Int32) = en 4 from rfl, en_div (by omega) (by omega) (by omega) (by omega), en_s]
      have d2 : (en (d : Int)) - (en (d : Int)) / 4 * 4 + 1 = en ((d : Int) % 4 + 1) := by rw [show (4 : Int32) = en 4 from rfl, en_rem (by omega) (by omega) (by omega) (by omega), en_s]
      rw [d1, d2]
      refine g_dial h (q := q) (by omega) hI (by omega) e2 (by omega) (by omega) (fun X1 h1 => ?_)
      rw [e5]
      refine ⟨fun _ => ?_, fun z => absurd rfl z⟩
      have hI1 := i_dial hI (by omega) e2 (by omega) (en ((d : Int) / 4 + 1))
      have a0 : f_dial S (6 + i) (en ((d : Int) / 4 + 1)) (6 + i) 0 = 2 := by simp [f_dial, upA]; exact e2
      have a5 : f_dial S (6 + i) (en ((d : Int) / 4 + 1)) (6 + i) 5 = 1 := by simp [f_dial, upA, e5]
      refine g_dial h1 (q := q) (by omega) hI1 (by omega) a0 (by omega) (by omega) (fun X2 h2 => ?_)
      rw [a5]
      exact ⟨fun _ => h346 _ X2 _ (i_dial hI1 (by omega) a0 (by omega) _) h2, fun z => absurd rfl z⟩
theorem lw_loop {Kx : Int32 → ES → Prop} (hlo : o + 55 ≤ lo) (hK : ∀ (S' : SS) (X' : ES), Inv 4000 S' → RP o X' S' → Kx 26 X') : ∀ (m k : Nat) (S : SS) (X : ES), k + m = 26 → Inv (148 * k) S → RP o X S → wpl_L_law_107 o lo sv K Kx (m + 1) (en (k : Int)) X
  | 0, k, S, X, e, hI, h => by
    have e : k = 26 := by omega
    subst e
    rw [wpl_L_law_107]
    exact ⟨fun _ => hK S X (hI.mono (by omega)) h, fun z => absurd (show (26 : Int32) ≤ 26 by decide) z⟩
  | m + 1, k, S, X, e, hI, h => by
    have ih := fun (S' : SS) (X' : ES) (h1 : Inv (148 * k + 1 + 147) S') (h2 : RP o X' S') => lw_loop hlo hK m (k + 1) S' X' (by omega) (h1.mono (by omega)) h2
    rw [wpl_L_law_107]
    refine ⟨fun z => absurd z ?_, fun _ => ⟨kcond (by omega) (d := 7) rfl (by omega) (by omega), fun r1 hr1 => ⟨kcond (by omega) (d := 8) rfl (by omega) (by omega), fun r2 hr2 => ?_⟩⟩⟩
    · rw [show (26 : Int32) = en 26 from rfl, en_le (by omega) (by omega) (by omega) (by omega)]
      omega
    obtain ⟨z, hz, rfl⟩ := cv_of (N := 8) rfl (by omega) (by omega) hr1
    obtain ⟨w, hw, rfl⟩ := cv_of (N := 10) rfl (by omega) (by omega) hr2
    have hz16 : z < 16 := by omega
    have hl := hI.lin z hz16
    unfold linOK at hl
    have h352 : ∀ (S' : SS) (X' : ES) (b c d f : Int32), Inv (148 * k + 1) S' → RP o X' S' → wpj_L_law_352 o lo sv K Kx (wpl_L_law_107 o lo sv K Kx (m + 1)) (en (k : Int)) b c d f X' := fun S' X' b c d f h1 h2 => act_352 h2 (by omega) h1 hlo (by omega) ih
    refine g_line1 h.1 hI hz16 ?_
    refine g_line0 h.1 hz16 ?_
    rw [show (4 : Int32) = en 4 from rfl, show (6 : Int32) = en 6 from rfl, en_le (by omega) (by omega) (by omega) (by omega), en_le (by omega) (by omega) (by omega) (by omega), e_0 (s := S (6 + z) 1) (by omega) (by omega), e_0 (s := S (6 + z) 0) (by omega) (by omega), e_1 (s := S (6 + z) 1) (by omega) (by omega)]
    refine ⟨fun _ => ⟨fun _ => ?_, fun _ => ?_⟩, fun _ => ?_⟩
    · refine ⟨17, dl_loop (q := 148 * k + 1) (by omega) (by omega) (fun S' X' h1 h2 => h352 S' X' _ _ _ _ h1 h2) 16 0 S X rfl (hI.mono (by omega)) h⟩
    · refine g_hang h (q := 148 * k) (by omega) hI hz16 (fun X1 h1 => ?_)
      have hI1 : Inv (148 * k + 1) (f_hang S (6 + z)) := (i_hang hI hz16).mono (by omega)
      have hl1 := hI1.lin z hz16
      unfold linOK at hl1
      have h225 : ∀ t : Int32, en (r_hang S (6 + z)) = t → wpj_L_law_225 o lo sv K Kx (wpl_L_law_107 o lo sv K Kx (m + 1)) (en (k : Int)) (en (z : Int)) (en (w : Int)) (en (S (6 + z) 1)) (en (S (6 + z) 0)) X1 (en (r_hang S (6 + z))) t := fun t ht => by
        unfold wpj_L_law_225
        refine ⟨fun _ => ?_, fun y => absurd ht y⟩
        rw [e_1 (by omega) (by omega)]
        refine ⟨fun e1 => ?_, fun _ => h352 _ X1 _ _ _ _ hI1 h1⟩
        have h0 := hang_0 hI hz16 (by omega)
        refine g_line0 h1.1 hz16 ?_
        have h259 : ∀ t : Int32, en (f_hang S (6 + z) (6 + z) 0) = t → wpj_L_law_259 o lo sv K Kx (wpl_L_law_107 o lo sv K Kx (m + 1)) (en (k : Int)) (en (z : Int)) (en (w : Int)) (en (S (6 + z) 1)) (en (S (6 + z) 0)) X1 (en (f_hang S (6 + z) (6 + z) 0)) t := fun t ht => by
          unfold wpj_L_law_259
          exact ⟨fun _ => h352 _ X1 _ _ _ _ hI1 h1, fun y => absurd ht y⟩
        rw [e_5 (by omega) (by omega), e_7 (by omega) (by omega)]
        refine ⟨fun c => h259 _ (by rw [h0, if_pos (Or.inl c)]), fun c => ⟨fun c2 => h259 _ (by rw [h0, if_pos (Or.inr c2)]), fun c2 => h259 _ (by rw [h0, if_neg (by omega)]; rfl)⟩⟩
      refine ⟨fun e0 => h225 _ (by rw [r_hang, if_pos e0]; rfl), fun e0 => h225 _ (by rw [r_hang, if_neg e0])⟩
    · have h184 : ∀ t : Int32, en (r_lift S (6 + z)) = t → wpj_L_law_184 o lo sv K Kx (wpl_L_law_107 o lo sv K Kx (m + 1)) (en (k : Int)) (en (z : Int)) (en (w : Int)) (en (S (6 + z) 1)) (en (S (6 + z) 0)) X t := fun t ht => by
        unfold wpj_L_law_184
        refine g_lift h (q := 148 * k) (by omega) hI hz16 (fun X1 h1 => ⟨fun _ => h352 _ X1 _ _ _ _ (i_lift hI hz16) h1, fun y => absurd ht y⟩)
      refine ⟨fun e1 => h184 _ (by rw [r_lift, if_neg (by omega)]; rfl), fun e1 => ⟨fun e0 => h184 _ (by rw [r_lift, if_pos (by omega), if_pos e0]; rfl), fun e0 => h184 _ (by rw [r_lift, if_pos (by omega), if_neg e0])⟩⟩
theorem g_save {K : Int32 → ES → (Nat → Option Nat) → Prop} (h : RP o X S) (hI : Inv q S) (hsv : sv 1 = none) (hK : ∀ (r : Int32) (X' : ES) (b : Nat), o + 56 ≤ b → RP o X' S → Ag S (vw b X') → K r X' (va_up sv 1 (some b))) : wp_X4_save o sv X 1 K := by
  unfold wp_X4_save
  refine q_in (x := 1) (a := 0) (b := 1) (by omega) (by omega) (by omega) (by omega) ⟨fun z => absurd z (by decide), fun _ => ⟨fun _ b fr E1 hb _ e1 => ?_, fun a ha => ?_⟩⟩
  · have hE : ∀ a, a < b → E1 a = X a := fun a ha => by
      rw [e1, xbE, if_neg (by omega), if_neg (by omega), if_neg (by omega), if_neg (by omega), if_neg (by omega), if_neg (by omega), if_neg (by omega), if_neg (by omega)]
    have h3 : vw b E1 3 0 = 0 := by
      show E1 (b + 3) 0 = 0
      rw [e1, xbE, if_neg (by omega), if_neg (by omega), if_neg (by omega), if_pos rfl]; rfl
    have h1 : RP o E1 S := h.of (fun a ha => hE a (by omega))
    refine w_copy h1.1 hI h3 (fun Y hY X2 e2 => ?_)
    refine hK _ X2 b hb (h1.of (fun a ha => by rw [e2, putOff (by omega)])) (by rw [e2]; exact hY.put)
  · have ha : sv 1 = some a := ha
    rw [hsv] at ha; cases ha
theorem g_restore {T : SS} {b : Nat} {q2 : Int} (h : RP o X T) (hJ : Inv q2 T) (hb : Ag S (vw b X)) (hI : Inv q S) (hsv : sv 1 = some b) (hK : ∀ X' : ES, RP o X' S → K (en (S 0 7)) X') : wp_X4_restore o sv X 1 K := by
  unfold wp_X4_restore
  refine q_in (x := 1) (a := 0) (b := 1) (by omega) (by omega) (by omega) (by omega) ⟨fun z => absurd z (by decide), fun _ => ⟨fun hn => ?_, fun a ha => ?_⟩⟩
  · have hn : sv 1 = none := hn
    rw [hsv] at hn; cases hn
  · have ha : sv 1 = some a := ha
    rw [hsv] at ha
    cases ha
    refine w_copy hb hI ?_ (fun Y hY X2 e2 => ?_)
    · rw [h.1.n, hJ.no]; rfl
    · have e7 : X2 (o + 1) 7 = en (S 0 7) := by
        rw [e2, show put 26 (o + 1) Y X (o + 1) = Y 0 from putAt (n := 26) (o := o + 1) (k := 0) (by decide), hY.h (by decide) (by decide)]
      rw [e7]
      refine hK X2 ?_
      rw [e2]; exact h.put hY
theorem rs_loop {Kx : Int32 → Int32 → Int32 → Int32 → ES → Prop} {b : Nat} (hb : o + 56 ≤ b) (hsv : sv 1 = some b) (hq : 0 ≤ q ∧ q < 20000) (hI : Inv q S) (hn : n < 16) {st : Int} (hs : 0 ≤ st ∧ st ≤ 11) (hK : ∀ X' : ES, K 1 X') : ∀ (m k : Nat) (X : ES), k + m = 60 → (∀ j : Nat, j < k → ¬ tkN S j (6 + n) 0 = st) → RP o X (tkN S k) → Ag S (vw b X) → wpl_L_law_425 o lo sv K Kx (m + 1) (en (n : Int)) (en st) (en (untF S n st 60 60 0)) (en (k : Int)) X := by
  have key : ∀ (k : Nat) (X : ES) (Rec : Int32 → Int32 → Int32 → Int32 → ES → Prop), k ≤ 60 → (∀ j : Nat, j < k → ¬ tkN S j (6 + n) 0 = st) → RP o X (tkN S k) → Ag S (vw b X) → (tkN S k (6 + n) 0 = st ∨ k = 60) → wpj_L_law_449 o lo sv K Kx Rec (en (n : Int)) (en st) (en (untF S n st 60 60 0)) (en (k : Int)) X := by
    intro k X Rec hk hj h hA hend
    have hJ := i_tkN hI k
    have hl := hJ.lin n hn
    unfold linOK at hl
    have sp := untF_spec (S := S) (n := n) (st := st) (most := 60) 60 0 (by omega) k (by omega) (by omega) (fun j _ h => hj j h)
    have h468 : ∀ t : Int32, en (untF S n st 60 60 0) = t → wpj_L_law_468 o lo sv K Kx Rec (en (n : Int)) (en st) (en (untF S n st 60 60 0)) (en (k : Int)) X (en (untF S n st 60 60 0)) t := fun t ht => by
      unfold wpj_L_law_468
      refine ⟨fun _ => ?_, fun y => absurd ht y⟩
      have h0 := hI.hd
      unfold hdOK at h0
      refine g_restore h hJ hA hI hsv (fun X1 h1 => ?_)
      refine ⟨fun y => absurd y (en_neg (by omega) (by omega)), fun _ => ?_⟩
      refine fits_ok h1.1 (q := q) (by omega) hI (by omega) (fun X2 hX2 => ⟨fun y => absurd y (by decide), fun _ => ?_⟩)
      have h2 : RP o X2 S := h1.of (fun a ha => hX2 a (by omega))
      refine g_until h2 (q := q) (by omega) hI hn hs (fun X3 h3 _ => ⟨fun _ => hK X3, fun y => absurd rfl y⟩)
    unfold wpj_L_law_449
    refine g_line0 h.1 hn ?_
    rw [en_eq (by omega) (by omega) (by omega) (by omega)]
    refine ⟨fun c => h468 _ (by rw [sp.1 c]), fun c => h468 _ ?_⟩
    rw [sp.2 (by rcases hend with z | z; exact absurd z c; omega) c]; rfl
  intro m
  induction m with
  | zero =>
    intro k X e hj h hA
    have e : k = 60 := by omega
    subst e
    have hl := (i_tkN hI 60).lin n hn
    unfold linOK at hl
    rw [wpl_L_law_425]
    refine ⟨fun z => absurd z (by decide), fun _ => ?_⟩
    refine g_line0 h.1 hn ?_
    rw [en_eq (by omega) (by omega) (by omega) (by omega)]
    exact ⟨fun c => key 60 X _ (by omega) hj h hA (Or.inl c), fun c => ⟨fun _ => key 60 X _ (by omega) hj h hA (Or.inr rfl), fun y => absurd rfl y⟩⟩
  | succ m ih =>
    intro k X e hj h hA
    have hJ := i_tkN hI k
    have hl := hJ.lin n hn
    unfold linOK at hl
    rw [wpl_L_law_425]
    refine ⟨fun z => absurd z ?_, fun _ => ?_⟩
    · rw [show (60 : Int32) = en 60 from rfl, en_lt (by omega) (by omega) (by omega) (by omega)]
      omega
    refine g_line0 h.1 hn ?_
    rw [en_eq (by omega) (by omega) (by omega) (by omega), show (60 : Int32) = en 60 from rfl, en_eq (by omega) (by omega) (by omega) (by omega)]
    refine ⟨fun c => key k X _ (by omega) hj h hA (Or.inl c), fun c => ⟨fun y => by omega, fun _ => ?_⟩⟩
    refine g_tick h.1 (q := q + 21 * k) (by omega) hJ (fun X1 hA1 hX1 => ?_)
    intro v ev
    rw [show en (k : Int) + 1 = en ((k + 1 : Nat) : Int) from en_s _] at ev
    rw [ev]
    refine ih (k + 1) X1 (by omega) (fun j hj2 => ?_) ⟨hA1, by rw [hX1 _ (by omega)]; exact h.2⟩ (fun a j hr => ?_)
    · by_cases z : j = k
      · subst z; exact c
      · exact hj j (by omega)
    · have hk : a < 26 := by unfold rl at hr; omega
      show X1 (b + a) j = _
      rw [hX1 _ (by omega)]
      exact hA a j hr
theorem law_ok {E0 : ES} (h5 : ∀ j, j < 5 → E0 (o + 6) j = en (S 5 j)) (hset : setOK (S 5)) (h3 : E0 (o + 4) 0 = 0) (h30 : E0 (o + 30) 0 = 0) (hsv : sv 1 = none) (hlo : o + 55 ≤ lo) (hK : ∀ X' : ES, K 1 X') : wp_L_law o lo sv E0 K := by
  unfold wp_L_law
  refine ⟨by decide, fun r1 hr1 => ⟨by decide, fun r2 hr2 => ?_⟩⟩
  obtain ⟨z1, hz1, rfl⟩ := cv_of (N := 4) rfl (by omega) (by omega) hr1
  obtain ⟨z2, hz2, rfl⟩ := cv_of (N := 3) rfl (by omega) (by omega) hr2
  rw [show (1 : Int32) = en 1 from rfl, en_add, en_add]
  refine g_setUp (S := S) h5 h3 h30 (by omega) (by omega) (fun r3 X1 h1 => ?_)
  have hI1 : Inv 0 (fresh S (1 + (z1 : Int)) (1 + (z2 : Int))) := i_fresh (by omega) hset (by omega) (by omega)
  generalize fresh S (1 + (z1 : Int)) (1 + (z2 : Int)) = S1 at h1 hI1
  refine ⟨by decide, fun r hr => ?_⟩
  obtain ⟨y, hy, rfl⟩ := cv_of (N := 20) rfl (by omega) (by omega) hr
  rw [show (3 : Int32) = en 3 from rfl, en_add]
  refine g_set (j := 0) h1 (by omega) (by omega) (fun r4 X2 h2 => ?_)
  have hI2 := i_set (j := 0) (v := 3 + (y : Int)) hI1 (by omega)
  generalize up S1 5 0 (3 + (y : Int)) = S2 at h2 hI2
  refine ⟨by decide, fun r hr => ?_⟩
  obtain ⟨y, hy, rfl⟩ := cv_of (N := 20) rfl (by omega) (by omega) hr
  rw [en_add]
  refine g_set (j := 1) h2 (by omega) (by omega) (fun r4 X3 h3 => ?_)
  have hI3 := i_set (j := 1) (v := 3 + (y : Int)) hI2 (by omega)
  generalize up S2 5 1 (3 + (y : Int)) = S3 at h3 hI3
  refine ⟨by decide, fun r hr => ?_⟩
  obtain ⟨y, hy, rfl⟩ := cv_of (N := 9) rfl (by omega) (by omega) hr
  rw [en_add]
  refine g_set (j := 2) h3 (by omega) (by omega) (fun r4 X4 h4 => ?_)
  have hI4 := i_set (j := 2) (v := 1 + (y : Int)) hI3 (by omega)
  generalize up S3 5 2 (1 + (y : Int)) = S4 at h4 hI4
  refine ⟨by decide, fun r hr => ?_⟩
  obtain ⟨y, hy, rfl⟩ := cv_of (N := 6) rfl (by omega) (by omega) hr
  rw [en_add]
  refine g_set (j := 3) h4 (by omega) (by omega) (fun r4 X5 h5 => ?_)
  have hI5 := i_set (j := 3) (v := 1 + (y : Int)) hI4 (by omega)
  generalize up S4 5 3 (1 + (y : Int)) = S5 at h5 hI5
  refine ⟨by decide, fun r hr => ?_⟩
  obtain ⟨y, hy, rfl⟩ := cv_of (N := 9) rfl (by omega) (by omega) hr
  rw [en_add]
  refine g_set (j := 4) h5 (by omega) (by omega) (fun r4 X6 h6 => ?_)
  have hI6 := i_set (j := 4) (v := 1 + (y : Int)) hI5 (by omega)
  generalize up S5 5 4 (1 + (y : Int)) = S6 at h6 hI6
  refine ⟨27, Nat.le_refl _, lw_loop hlo (fun S7 X7 hI7 h7 => ?_) 26 0 S6 X6 rfl (hI6.mono (by omega)) h6⟩
  refine ⟨by decide, fun r hr => ?_⟩
  obtain ⟨n, hn, rfl⟩ := cv_of (N := 8) rfl (by omega) (by omega) hr
  refine ⟨by decide, fun r hr => ?_⟩
  obtain ⟨st, hst, rfl⟩ := cv_of (N := 12) rfl (by omega) (by omega) hr
  refine g_until h7 (q := 4000) (by omega) hI7 (by omega) (by omega) (fun X8 h8 _ => ?_)
  refine g_save h8 hI7 hsv (fun r9 X9 b hb h9 hA9 => ?_)
  exact ⟨61, rs_loop hb (vuS _ _ _) (q := 4000) (by omega) hI7 (by omega) (by omega) hK 60 0 X9 rfl (fun j hj => by omega) h9 hA9⟩
end LA
