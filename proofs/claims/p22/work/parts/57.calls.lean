-- ===== the component's calls, as the law makes them =====
def RP (o : Nat) (X : ES) (S : SS) : Prop := Ag S (vw (o + 1) X) ∧ X (o + 30) 0 = 0
theorem cv_of {N : Int} {x r : Int32} (hx : x = en N) (h1 : 0 < N) (h2 : N < 1000) (h : CV x r) : ∃ z : Nat, (z : Int) < N ∧ r = en (z : Int) := by
  obtain ⟨a, b⟩ := h
  rw [Int32.lt_iff_toInt_lt] at a b
  have e0 : (0 : Int32).toInt = 0 := rfl
  rw [hx, en_toInt (by omega) (by omega)] at b
  rw [e0] at a
  obtain ⟨z, hz⟩ := Int.eq_ofNat_of_zero_le (a := r.toInt) (by omega)
  exact ⟨z, by omega, by rw [← hz, en_of]⟩
section CA
variable {S : SS} {X : ES} {q : Int} {o n : Nat} {K : Int32 → ES → Prop}
theorem RP.of {X' : ES} (h : RP o X S) (he : ∀ a, a ≤ o + 55 → X' a = X a) : RP o X' S := ⟨h.1.out (fun k hk => he _ (by omega)), by rw [he _ (by omega)]; exact h.2⟩
theorem RP.put {S2 : SS} {Y : ES} (h : RP o X S) (hY : Ag S2 Y) : RP o (put 26 (o + 1) Y X) S2 := ⟨hY.put, by rw [putOff (by omega)]; exact h.2⟩
theorem g_lift (h : RP o X S) (hq : 0 ≤ q ∧ q < 1000000) (hI : Inv q S) (hn : n < 16) (hK : ∀ X' : ES, RP o X' (f_lift S (6 + n)) → K (en (r_lift S (6 + n))) X') : wp_X4_lift o X (en (n : Int)) K := by
  unfold wp_X4_lift
  refine q_isl hn ⟨fun z => absurd z (by decide), fun _ => ?_⟩
  refine w_lift h.1 hq hI hn (fun Y hY X6 e6 => ?_)
  subst e6
  exact hK _ (h.put hY)
theorem g_hang (h : RP o X S) (hq : 0 ≤ q ∧ q < 1000000) (hI : Inv q S) (hn : n < 16) (hK : ∀ X' : ES, RP o X' (f_hang S (6 + n)) → K (en (r_hang S (6 + n))) X') : wp_X4_hang o X (en (n : Int)) K := by
  unfold wp_X4_hang
  refine q_isl hn ⟨fun z => absurd z (by decide), fun _ => ?_⟩
  refine w_hang h.1 hq hI hn (fun Y hY X6 e6 => ?_)
  subst e6
  exact hK _ (h.put hY)
theorem g_dial (h : RP o X S) (hq : 0 ≤ q ∧ q < 1000000) (hI : Inv q S) (hn : n < 16) (hs : S (6 + n) 0 = 2) (hd : S (6 + n) 5 < 4) {d : Int} (hdd : 0 ≤ d ∧ d ≤ 9) (hK : ∀ X' : ES, RP o X' (f_dial S (6 + n) (en d)) → K (en (S (6 + n) 5 + 1)) X') : wp_X4_dial o X (en (n : Int)) (en d) K := by
  unfold wp_X4_dial
  refine q_isl hn ⟨fun z => absurd z (by decide), fun _ => ?_⟩
  refine q_in (a := 0) (b := 9) (by omega) (by omega) (by omega) (by omega) ⟨fun z => absurd z (by decide), fun _ => ?_⟩
  refine w_dial h.1 hq hI hn hs hd _ (fun Y hY X6 e6 => ?_)
  subst e6
  exact hK _ (h.put hY)
theorem g_setUp {nf nc : Int} (h5 : ∀ j, j < 5 → X (o + 6) j = en (S 5 j)) (h3 : X (o + 4) 0 = 0) (h30 : X (o + 30) 0 = 0) (h1 : 1 ≤ nf ∧ nf ≤ 4) (h2 : 1 ≤ nc ∧ nc ≤ 3) (hK : ∀ (r : Int32) (X' : ES), RP o X' (fresh S nf nc) → K r X') : wp_X4_setUp o X (en nf) (en nc) K := by
  unfold wp_X4_setUp
  refine q_in (a := 1) (b := 4) (by omega) (by omega) (by omega) (by omega) ⟨fun z => absurd z (by decide), fun _ => ?_⟩
  refine q_in (a := 1) (b := 3) (by omega) (by omega) (by omega) (by omega) ⟨fun z => absurd z (by decide), fun _ => ?_⟩
  intro v _
  refine w_renew (S := S) h5 h3 (fun Y hY X9 e9 => ?_)
  subst e9
  exact hK _ _ ⟨hY.put, by rw [putOff (by omega)]; exact h30⟩
theorem Inv_set {S' : SS} (hI : Inv q S) (e : ∀ k, ¬ k = 5 → S' k = S k) (hs : setOK (S' 5)) : Inv q S' := by
  have e0 := e 0 (by decide)
  have e3 := e 3 (by decide)
  have ef : ∀ f, S' (22 + f) = S (22 + f) := fun f => e _ (by omega)
  have el : ∀ n, S' (6 + n) = S (6 + n) := fun n => e _ (by omega)
  obtain ⟨a, b, r⟩ := hI
  unfold lkC lkT lkL uqX uqT cnt at r
  unfold Inv lkC lkT lkL uqX uqT cnt
  simp only [e0, e3, ef, el]
  exact ⟨a, hs, r⟩
theorem i_set (hI : Inv q S) {j : Nat} {v : Int} (hv : 1 ≤ v ∧ v ≤ 200) : Inv q (up S 5 j v) := by
  refine Inv_set hI (fun k hk => funext fun i => by rw [upA, if_neg (fun z => hk z.1)]) ?_
  have h := hI.set
  unfold setOK at h ⊢
  simp only [upA, true_and]
  refine ⟨?_, ?_, ?_, ?_, ?_⟩ <;> split <;> omega
theorem g_set (h : RP o X S) {j : Nat} (hj : j < 5) {v : Int} (hv : 1 ≤ v ∧ v ≤ 100) (hK : ∀ (r : Int32) (X' : ES), RP o X' (up S 5 j v) → K r X') : wp_X4_set o X (en (j : Int)) (en v) K := by
  unfold wp_X4_set
  rw [cl_en (by omega)]
  refine q_in (a := 0) (b := 4) (by omega) (by omega) (by omega) (by omega) ⟨fun z => absurd z (by decide), fun _ => ?_⟩
  have hm : ∃ mx : Int, 100 ≤ mx ∧ mx ≤ 200 ∧ mstA j = en mx := by
    unfold mstA
    split
    · exact ⟨100, by omega, by omega, rfl⟩
    · exact ⟨200, by omega, by omega, rfl⟩
  obtain ⟨mx, m1, m2, m3⟩ := hm
  rw [m3]
  refine q_in (a := 1) (by omega) (by omega) (by omega) (by omega) ⟨fun z => absurd z (by decide), fun _ => ?_⟩
  have n1 : ¬ en (j : Int) < 0 := en_neg (by omega) (by omega)
  have n2 : ¬ (5 : Int32) ≤ en (j : Int) := fun z => by
    rw [show (5 : Int32) = en 5 from rfl, en_le (by omega) (by omega) (by omega) (by omega)] at z
    omega
  unfold wp_X0_changeSetting wp_X0_settingAt
  refine kn n1 (kn n2 ⟨vp_en hj (by decide), kn n1 (kn n2 ⟨vp_en hj (by decide), fun X4 e4 X9 e9 => ?_⟩)⟩)
  subst e9
  refine hK _ _ (h.put ?_)
  rw [e4, cl_en (by omega)]
  exact h.1.slf.up rfl
theorem g_until (h : RP o X S) (hq : 0 ≤ q ∧ q < 300000) (hI : Inv q S) (hn : n < 16) {st : Int} (hs : 0 ≤ st ∧ st ≤ 11) (hK : ∀ X' : ES, RP o X' S → (∀ a, ¬ (o + 27 ≤ a ∧ a < o + 53) → X' a = X a) → K (en (untF S n st 60 60 0)) X') : wp_X4_until o X (en (n : Int)) (en st) 60 K := by
  unfold wp_X4_until
  refine q_isl hn ⟨fun z => absurd z (by decide), fun _ => ?_⟩
  refine q_in (a := 0) (b := 11) (by omega) (by omega) (by omega) (by omega) ⟨fun z => absurd z (by decide), fun _ => ?_⟩
  refine q_in (x := 60) (a := 0) (b := 1000) (by omega) (by omega) (by omega) (by omega) ⟨fun z => absurd z (by decide), fun _ => ?_⟩
  refine w_copy h.1 hI h.2 (fun Y hY X11 e11 => ?_)
  have hA : Ag S (vw (o + 27) X11) := by rw [e11]; exact hY.put
  refine ⟨61, w_unt hq hI hn (by omega) (most := 60) (by omega) 60 0 _ (by omega) hA (fun Y2 h2 => ?_)⟩
  intro X14 e14
  have hout : ∀ a, ¬ (o + 27 ≤ a ∧ a < o + 53) → X14 a = X a := fun a ha => by rw [e14, putOff (by omega), e11, putOff (by omega)]
  refine hK X14 ⟨h.1.out (fun k hk => hout _ (by omega)), ?_⟩ hout
  rw [e14, show o + 30 = o + 27 + 3 by omega, putAt (by decide)]
  exact h2
end CA
