-- ===== loops of the model that a step needs =====
/-- a finder made free -/
def frG (g : CS) : CS := upd (upd (upd (upd (upd (upd (upd (upd (upd (upd g 0 0) 1 (g 1)) 2 (-6)) 3 0) 4 (-6)) 5 0) 6 0) 7 0) 8 0) 9 (-6)
set_option maxHeartbeats 2000000 in
theorem q_free {Z : ES} {h : CS} {N G : ES} {f : Nat} {K : ES → Prop} (hf : f < 4) (hK : K (ms Z h N (va_up G f (frG (G f))))) : wp_X5_free (ms Z h N G) (nI f) K := by
  refine ⟨11, ?_⟩
  simp only [wpl_X5_free_2, forall_eq]
  simp [ofF_0 hf, ofF_1 hf, ofF_2 hf, ofF_3 hf, ofF_4 hf, layF_0 hf, layF_1 hf, layF_2 hf, layF_3 hf, layF_4 hf, layF_5 hf, layF_6 hf, layF_7 hf, layF_8 hf, layF_9 hf, vuU, vuS]
  exact hK
theorem stg_0 {X : ES} {K : Int32 → Prop} : wp_X0_settingAt X 0 K = K (X 5 0) := by
  unfold wp_X0_settingAt; exact propext ⟨fun q => ((q.2 (by decide)).2 (by decide)).2, fun q => ⟨fun z => absurd z (by decide), fun _ => ⟨fun z => absurd z (by decide), fun _ => ⟨vp_in_nI (n := 0) (by decide) (by decide), q⟩⟩⟩⟩
theorem stg_1 {X : ES} {K : Int32 → Prop} : wp_X0_settingAt X 1 K = K (X 5 1) := by
  unfold wp_X0_settingAt; exact propext ⟨fun q => ((q.2 (by decide)).2 (by decide)).2, fun q => ⟨fun z => absurd z (by decide), fun _ => ⟨fun z => absurd z (by decide), fun _ => ⟨vp_in_nI (n := 1) (by decide) (by decide), q⟩⟩⟩⟩
theorem stg_2 {X : ES} {K : Int32 → Prop} : wp_X0_settingAt X 2 K = K (X 5 2) := by
  unfold wp_X0_settingAt; exact propext ⟨fun q => ((q.2 (by decide)).2 (by decide)).2, fun q => ⟨fun z => absurd z (by decide), fun _ => ⟨fun z => absurd z (by decide), fun _ => ⟨vp_in_nI (n := 2) (by decide) (by decide), q⟩⟩⟩⟩
theorem stg_3 {X : ES} {K : Int32 → Prop} : wp_X0_settingAt X 3 K = K (X 5 3) := by
  unfold wp_X0_settingAt; exact propext ⟨fun q => ((q.2 (by decide)).2 (by decide)).2, fun q => ⟨fun z => absurd z (by decide), fun _ => ⟨fun z => absurd z (by decide), fun _ => ⟨vp_in_nI (n := 3) (by decide) (by decide), q⟩⟩⟩⟩
theorem stg_4 {X : ES} {K : Int32 → Prop} : wp_X0_settingAt X 4 K = K (X 5 4) := by
  unfold wp_X0_settingAt; exact propext ⟨fun q => ((q.2 (by decide)).2 (by decide)).2, fun q => ⟨fun z => absurd z (by decide), fun _ => ⟨fun z => absurd z (by decide), fun _ => ⟨vp_in_nI (n := 4) (by decide) (by decide), q⟩⟩⟩⟩
/-- the pulses of a digit -/
def plz (v : Nat) : Int32 := if v = 0 then 10 else nI v
theorem plz_ex {v : Nat} (h : v ≤ 9) : ∃ p : Nat, 1 ≤ p ∧ p ≤ 10 ∧ plz v = nI p := by
  unfold plz
  by_cases e : v = 0
  · exact ⟨10, by omega, by omega, by rw [if_pos e]; rfl⟩
  · exact ⟨v, by omega, by omega, by rw [if_neg e]⟩
/-- a line's row with its first digit taken -/
def tkN (n : Nat) (g : CS) : CS := fun w => if w = 10 then nI (n - 1) else if 6 ≤ w ∧ w < 6 + (n - 1) then g (w + 1) else g w
theorem q_take0 {Z : ES} {h : CS} {N G : ES} {c : Nat} {K : Int32 → ES → Prop} (hc : c < 16) (h0 : N c 10 = 0) (hK : K 0 (ms Z h N G)) : wp_X5_takeDigit (ms Z h N G) (nI c) K := by
  unfold wp_X5_takeDigit
  rw [of_10 hc, h0]
  exact ⟨fun _ => hK, fun z => absurd rfl z⟩
theorem q_takeL {Z : ES} {h : CS} {G : ES} {c n : Nat} {K : Int32 → ES → Prop} {Kx : Int32 → ES → Prop} (hc : c < 16) (hn : n ≤ 4) : ∀ (j k : Nat) (N : ES), 1 ≤ k → k + j = n → (∀ N1 : ES, (∀ i, ¬ i = c → N1 i = N i) → (∀ w, N1 c w = if 6 + (k - 1) ≤ w ∧ w < 6 + (n - 1) then N c (w + 1) else N c w) → Kx (nI n) (ms Z h N1 G)) → wpl_X5_takeDigit_25 (nI c) (nI n) K Kx (j + 1) (nI k) (ms Z h N G)
  | 0, k, N, hk, he, hX => by
    have e : k = n := by omega
    subst e
    rw [wpl_X5_takeDigit_25]
    refine ⟨fun _ => hX N (fun _ _ => rfl) (fun w => ?_), fun z => absurd (nI_le (Nat.le_refl _) (by omega)) z⟩
    rw [if_neg (by omega)]
  | j + 1, k, N, hk, he, hX => by
    rw [wpl_X5_takeDigit_25]
    refine ⟨fun z => absurd z (nI_ge (by omega) (by omega)), fun _ => ?_⟩
    rw [show (6 : Int32) + nI k = nI (6 + k) from nI_add 6 k, q_of hc (w := 6 + k) (by omega) rfl, show nI (6 + k) - 1 = nI (5 + k) from by rw [show 6 + k = (5 + k) + 1 by omega]; exact nI_pred _, q_lay hc (w := 5 + k) (by omega) rfl]
    intro v ev
    subst ev
    rw [show nI k + 1 = nI (k + 1) from nI_1 k]
    refine q_takeL hc hn j (k + 1) _ (by omega) (by omega) (fun N1 h1 h2 => hX N1 (fun i hi => ?_) (fun w => ?_))
    · rw [h1 i hi, vuN hi]
    · rw [h2 w, vuS]
      simp only [updA]
      by_cases a1 : 6 + (k + 1 - 1) ≤ w ∧ w < 6 + (n - 1)
      · rw [if_pos a1, if_neg (by omega), if_pos (by omega)]
      · rw [if_neg a1]
        by_cases a2 : w = 5 + k
        · subst a2
          rw [if_pos rfl, if_pos (by omega)]
          congr 1; omega
        · rw [if_neg a2, if_neg (by omega)]
/-- the class's side of it -/
theorem take_and {n v r : Nat} (hv : v ≤ 9) (hr : r < 4096) (hn : n = v + 16 * r) : nI n &&& 15 = nI v := by
  rw [pk_andN (by omega) (m := 15) 4 (by decide)]
  congr 1; omega
theorem take_shr {n v r : Nat} (hv : v ≤ 9) (hr : r < 4096) (hn : n = v + 16 * r) : ((nI n).toUInt32 >>> ((4 : Int32).toUInt32 &&& Int32.toUInt32 31)).toInt32 = nI r := by
  rw [pk_ushrN (by omega) 4 4 (by decide)]
  congr 1; omega
theorem q_tp {L N : CS} {v : Nat} {r : List Nat} {K : Int32 → CS → Prop} (hD : LD L N (v :: r)) (hL : L 5 = N 10) (hK : K (plz v) (upd (upd L 4 (nI (packL r))) 5 (nI r.length))) : wp_X2_takePulses L K := by
  obtain ⟨d1, d2, d3, d4, d5⟩ := hD
  simp only [List.length_cons] at d1 d3
  have hv : v ≤ 9 := d2 v List.mem_cons_self
  have hb := packL_lt r (fun x hx => d2 x (List.mem_cons_of_mem _ hx))
  have hb2 : packL r < 4096 := Nat.lt_of_lt_of_le hb (Nat.pow_le_pow_right (by decide) (show r.length ≤ 3 by omega))
  simp only [wp_X2_takePulses, forall_eq]
  rw [d5, packL, take_and hv hb2 rfl, take_shr hv hb2 rfl]
  have e1 : (upd L 4 (nI (packL r)) 5 - 1) = nI r.length := by
    rw [updA, if_neg (by decide), hL, d3, nI_pred]
  rw [e1]
  by_cases e0 : v = 0
  · subst e0
    exact ⟨fun _ => hK, fun z => absurd rfl z⟩
  · refine ⟨fun z => absurd z (nI_ne0 (by omega) (by omega)), fun _ => ?_⟩
    rw [plz, if_neg e0] at hK
    exact hK

theorem tk_lo {n : Nat} {g : CS} {w : Nat} (h : w < 6) : tkN n g w = g w := by
  rw [tkN, if_neg (by omega), if_neg (by omega)]
theorem tk_10 {n : Nat} {g : CS} : tkN n g 10 = nI (n - 1) := by rw [tkN, if_pos rfl]
theorem tk_ds {g : CS} {v : Nat} {r : List Nat} (hl : r.length ≤ 3) (h : ∀ k u, (v :: r)[k]? = some u → g (6 + k) = nI u) : ∀ k u, r[k]? = some u → tkN (r.length + 1) g (6 + k) = nI u := by
  intro k u hk
  have hl2 : k < r.length := (List.getElem?_eq_some_iff.mp hk).1
  rw [tkN, if_neg (by omega), if_pos (by omega)]
  have := h (k + 1) u (by simpa using hk)
  rw [← this]
  congr 1
theorem q_takeD {Z : ES} {h : CS} {N G : ES} {c : Nat} {v : Nat} {r : List Nat} {L : CS} {K : Int32 → ES → Prop} (hc : c < 16) (hD : LD L (N c) (v :: r)) (hK : K (plz v) (ms Z h (va_up N c (tkN (r.length + 1) (N c))) G)) : wp_X5_takeDigit (ms Z h N G) (nI c) K := by
  obtain ⟨d1, d2, d3, d4, d5⟩ := hD
  simp only [List.length_cons] at d1 d3
  have e6 : N c 6 = nI v := d4 0 v rfl
  have hv : v ≤ 9 := d2 v List.mem_cons_self
  unfold wp_X5_takeDigit
  rw [of_10 hc, d3]
  refine ⟨fun z => absurd z (nI_ne0 (by omega) (by omega)), fun _ => ?_⟩
  rw [of_6 hc, e6]
  refine ⟨r.length + 1, ?_⟩
  refine q_takeL hc (n := r.length + 1) (by omega) r.length 1 N (by omega) (by omega) (fun N1 h1 h2 => ?_)
  rw [lay_10 hc, nI_pred]
  have e : va_up N1 c (upd (N1 c) 10 (nI r.length)) = va_up N c (tkN (r.length + 1) (N c)) := by
    funext i
    by_cases hi : i = c
    · subst hi
      rw [vuS, vuS]
      funext w
      rw [updA, tkN, h2 w]
      by_cases e1 : w = 10
      · rw [if_pos e1, if_pos e1]; rfl
      · rw [if_neg e1, if_neg e1]
    · rw [vuN hi, vuN hi, h1 i hi]
  rw [e]
  by_cases e0 : v = 0
  · subst e0
    refine ⟨fun _ => hK, fun z => absurd rfl z⟩
  · refine ⟨fun z => absurd z (nI_ne0 (by omega) (by omega)), fun _ => ?_⟩
    rw [plz, if_neg e0] at hK
    exact hK
theorem plz_nle {v : Nat} (h : v ≤ 9) : ¬ plz v ≤ 0 := by
  obtain ⟨p, h1, h2, e⟩ := plz_ex h
  rw [e]; exact nI_nle (by omega) (by omega)
theorem plz_pos {v : Nat} (h : v ≤ 9) : 0 < plz v := by
  obtain ⟨p, h1, h2, e⟩ := plz_ex h
  rw [e]; exact nI_lt (a := 0) (by omega) (by omega)
