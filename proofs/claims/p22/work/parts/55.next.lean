-- ===== next, tick =====
section NX
variable {S : SS} {X : ES} {q : Int} {o lo f : Nat} {K : Int32 → ES → Prop}
theorem next_ok (h : Ag S (vw (o + 1) X)) (hq : 0 ≤ q ∧ q < 1000000) (hI : Inv q S) (hf : (f : Int) < S 0 5) (hK : K (en (due S f)) X) : wp_L_next o lo X (en (f : Int)) K := by
  have h0 := hI.hd
  unfold hdOK at h0
  have hs := hI.set
  unfold setOK at hs
  have hz := hI.fin f (by omega)
  unfold finOK at hz
  have h49 : ∀ t w : Int32, (¬ S (22 + f) 0 = 0 → t = (if 0 < S (6 + (S (22 + f) 2).toNat) 5 then 1 else 0)) → w = (if S 5 0 ≤ S (22 + f) 7 + 1 then 1 else 0) → wpj_L_next_49 o lo K (en (f : Int)) (en (S (22 + f) 2)) t X w := fun t w ht hw => by
    have hwt : S 5 0 ≤ S (22 + f) 7 + 1 ∧ w = 1 ∨ ¬ S 5 0 ≤ S (22 + f) 7 + 1 ∧ w = 0 := by
      by_cases c : S 5 0 ≤ S (22 + f) 7 + 1
      · rw [if_pos c] at hw; exact Or.inl ⟨c, hw⟩
      · rw [if_neg c] at hw; exact Or.inr ⟨c, hw⟩
    have htt : ¬ S (22 + f) 0 = 0 → (0 < S (6 + (S (22 + f) 2).toNat) 5 ∧ t = 1 ∨ ¬ 0 < S (6 + (S (22 + f) 2).toNat) 5 ∧ t = 0) := fun z => by
      have ht := ht z
      by_cases c : 0 < S (6 + (S (22 + f) 2).toNat) 5
      · rw [if_pos c] at ht; exact Or.inl ⟨c, ht⟩
      · rw [if_neg c] at ht; exact Or.inr ⟨c, ht⟩
    unfold wpj_L_next_49
    refine g_finder0 h hI hf ?_
    rw [e_1 (by omega) (by omega), e_2 (by omega) (by omega), e_3 (by omega) (by omega), e_4 (by omega) (by omega), e_5 (by omega) (by omega), e_6 (by omega) (by omega), e_7 (by omega) (by omega), e_8 (by omega) (by omega), e_9 (by omega) (by omega)]
    refine ⟨fun e => ?_, fun m1 => ⟨fun e => ?_, fun m2 => ⟨fun e => ?_, fun m3 => ⟨fun e => ?_, fun m4 => ⟨fun e => ?_, fun m5 => ⟨fun e => ?_, fun m6 => ⟨fun e => ?_, fun m7 => ⟨fun e => ?_, fun m8 => ⟨fun e => ?_, fun m9 => ?_⟩⟩⟩⟩⟩⟩⟩⟩⟩
    · refine g_finder1 h hI hf ?_
      rw [en_eq (by omega) (by omega) (by omega) (by omega)]
      rw [due_1 e] at hK
      refine ⟨fun c => ?_, fun c => ?_⟩
      · rw [if_pos c] at hK; exact hK
      · rw [if_neg c] at hK; exact hK
    · rw [due_2 e] at hK
      rcases htt (by omega) with ⟨c, ct⟩ | ⟨c, ct⟩ <;> rw [ct]
      · rw [if_pos c] at hK
        exact ⟨fun z => absurd z (by decide), fun _ => hK⟩
      · rw [if_neg c] at hK
        refine ⟨fun _ => ?_, fun z => absurd rfl z⟩
        rcases hwt with ⟨d, dw⟩ | ⟨d, dw⟩ <;> rw [dw]
        · rw [if_pos d] at hK
          exact ⟨fun z => absurd z (by decide), fun _ => hK⟩
        · rw [if_neg d] at hK
          exact ⟨fun _ => hK, fun z => absurd rfl z⟩
    · rw [due_3 e] at hK
      refine g_finder5 h hI hf ?_
      rw [show (1 : Int32) = en 1 from rfl, en_le (by omega) (by omega) (by omega) (by omega)]
      refine ⟨fun c => ?_, fun c => ?_⟩
      · rw [if_neg (by omega)] at hK
        refine g_finder3 h hI hf ?_
        rw [show (4 : Int32) = en 4 from rfl, en_le (by omega) (by omega) (by omega) (by omega)]
        refine ⟨fun d => ?_, fun d => ?_⟩
        · rw [if_neg (by omega)] at hK; exact hK
        · rw [if_pos (by omega)] at hK; exact hK
      · rw [if_pos (by omega)] at hK; exact hK
    · rw [due_4 e] at hK; exact hK
    · rw [due_5 e] at hK
      rcases htt (by omega) with ⟨c, ct⟩ | ⟨c, ct⟩ <;> rw [ct]
      · rw [if_pos c] at hK
        exact ⟨fun z => absurd z (by decide), fun _ => hK⟩
      · rw [if_neg c] at hK
        refine ⟨fun _ => ?_, fun z => absurd rfl z⟩
        rcases hwt with ⟨d, dw⟩ | ⟨d, dw⟩ <;> rw [dw]
        · rw [if_pos d] at hK
          exact ⟨fun z => absurd z (by decide), fun _ => hK⟩
        · rw [if_neg d] at hK
          exact ⟨fun _ => hK, fun z => absurd rfl z⟩
    · rw [due_6 e] at hK
      refine g_finder5 h hI hf ?_
      rw [show (1 : Int32) = en 1 from rfl, en_le (by omega) (by omega) (by omega) (by omega)]
      refine ⟨fun c => ?_, fun c => ?_⟩
      · rw [if_neg (by omega)] at hK; exact hK
      · rw [if_pos (by omega)] at hK; exact hK
    · obtain ⟨c, hc, ec, ec2, elk, esm⟩ := hI.cal (f := f) (by omega) (by omega)
      obtain ⟨t9, ht9, et, et2, g1, g2⟩ := hI.tgt (f := f) (by omega) (Or.inl e)
      unfold smt at esm
      have hlt := hI.lin t9 ht9
      unfold linOK at hlt
      rw [due_7 e, et2] at hK
      rw [ec]
      refine g_line3 h hI hc (by omega) elk (v := (t9 : Int)) (Or.inl ⟨by omega, et.symm⟩) ?_
      refine g_line1 h hI ht9 ?_
      rw [e_1 (by omega) (by omega)]
      refine ⟨fun c => ?_, fun c => ?_⟩
      · rw [if_pos c] at hK; exact hK
      · rw [if_neg c] at hK
        refine g_finder6 h hI hf ?_
        refine g_count16 h ?_
        rw [en_s, en_lt (by omega) (by omega) (by omega) (by omega)]
        refine ⟨fun d => ?_, fun d => ?_⟩
        · rw [if_neg (by omega)] at hK; exact hK
        · rw [if_pos (by omega)] at hK; exact hK
    · obtain ⟨c, hc, ec, ec2, elk, esm⟩ := hI.cal (f := f) (by omega) (by omega)
      obtain ⟨t9, ht9, et, et2, g1, g2⟩ := hI.tgt (f := f) (by omega) (Or.inr e)
      unfold smt at esm
      have hlt := hI.lin t9 ht9
      unfold linOK at hlt
      rw [due_8 e, et2] at hK
      rw [ec]
      refine g_line3 h hI hc (by omega) elk (v := (t9 : Int)) (Or.inl ⟨by omega, et.symm⟩) ?_
      refine g_line1 h hI ht9 ?_
      rw [e_0 (by omega) (by omega)]
      refine ⟨fun c => ?_, fun c => ?_⟩
      · refine g_finder7 h hI hf ?_
        refine g_count18 h ?_
        rw [en_s, en_lt (by omega) (by omega) (by omega) (by omega)]
        refine ⟨fun d => ?_, fun d => ?_⟩
        · rw [if_neg (by omega)] at hK; exact hK
        · rw [if_pos ⟨c, by omega⟩] at hK; exact hK
      · rw [if_neg (fun z => c z.1)] at hK; exact hK
    · rw [due_9 e] at hK
      rcases hwt with ⟨d, dw⟩ | ⟨d, dw⟩ <;> rw [dw]
      · rw [if_pos d] at hK
        exact ⟨fun z => absurd z (by decide), fun _ => hK⟩
      · rw [if_neg d] at hK
        exact ⟨fun _ => hK, fun z => absurd rfl z⟩
    · rw [due_0 m1 m2 m3 m5 m6 m7 m8 m9] at hK
      exact hK
  have h25 : ∀ t : Int32, (¬ S (22 + f) 0 = 0 → t = (if 0 < S (6 + (S (22 + f) 2).toNat) 5 then 1 else 0)) → wpj_L_next_25 o lo K (en (f : Int)) (en (S (22 + f) 2)) X t := fun t ht => by
    unfold wpj_L_next_25
    refine g_finder6 h hI hf ?_
    refine g_count15 h ?_
    rw [en_s, en_lt (by omega) (by omega) (by omega) (by omega)]
    exact ⟨fun c => h49 t 0 ht (by rw [if_neg (by omega)]), fun c => h49 t 1 ht (by rw [if_pos (by omega)])⟩
  have h24 : (¬ S (22 + f) 0 = 0 → ¬ 0 < S (6 + (S (22 + f) 2).toNat) 5) → wpj_L_next_24 o lo K (en (f : Int)) (en (S (22 + f) 2)) X := fun hn => h25 0 (fun z => by rw [if_neg (hn z)])
  unfold wp_L_next
  refine g_finder2 h hI hf ?_
  rw [show (0 : Int32) = en 0 from rfl, en_lt (by omega) (by omega) (by omega) (by omega)]
  refine ⟨fun c => h24 (fun z => by omega), fun c => ?_⟩
  obtain ⟨n, hn⟩ := Int.eq_ofNat_of_zero_le (a := S (22 + f) 2) (by omega)
  have hn16 : n < 16 := by omega
  have hl := hI.lin n hn16
  unfold linOK at hl
  rw [hn, Int.toNat_natCast] at h24 h25
  rw [hn]
  refine g_line4 h hn16 ?_
  rw [en_le (by omega) (by omega) (by omega) (by omega)]
  exact ⟨fun d => h24 (fun _ => by omega), fun d => h25 1 (fun _ => by rw [if_pos (by omega)])⟩
theorem Ag.put {Y E : ES} {a : Nat} (h : Ag S Y) : Ag S (vw a (put 26 a Y E)) := fun k j hr => by
  have hk : k < 26 := by unfold rl at hr; omega
  rw [vwPut hk]
  exact h k j hr
theorem g_tick (h : Ag S (vw (o + 1) X)) (hq : 0 ≤ q ∧ q < 50000) (hI : Inv q S) (hK : ∀ X' : ES, Ag (tick S) (vw (o + 1) X') → (∀ a, ¬ (o + 1 ≤ a ∧ a < o + 27) → X' a = X a) → K (en (S 0 7 + 1)) X') : wp_X4_tick o X 1 K := by
  have h0 := hI.hd
  unfold hdOK at h0
  unfold wp_X4_tick
  refine q_in (x := 1) (a := 1) (b := 1000) (by omega) (by omega) (by omega) (by omega) ⟨fun z => absurd z (by decide), fun _ => ?_⟩
  unfold wp_X0_hasTimeFor
  rw [h.h (by decide) (by decide), en_s, show (100000 : Int32) = en 100000 from rfl, en_lt (by omega) (by omega) (by omega) (by omega)]
  refine ⟨fun z => by omega, fun _ => ⟨fun z => absurd z (by decide), fun _ => ?_⟩⟩
  refine w_pass1 h (q := q) (by omega) hI (fun Y hY => ?_)
  intro X8 e8
  have e7 : X8 (o + 1) 7 = en (S 0 7 + 1) := by
    rw [e8, show put 26 (o + 1) Y X (o + 1) = Y 0 from putAt (n := 26) (o := o + 1) (k := 0) (by decide), hY.h (by decide) (by decide), tick_time]
  rw [e7]
  refine hK X8 (by rw [e8]; exact hY.put) (fun a ha => ?_)
  rw [e8, putOff (by omega)]
end NX
