-- ===== fits: a finder =====
section FB
variable {S : SS} {X : ES} {q : Int} {o lo ar f c : Nat} {K : Int32 → ES → Prop} {Kx Rec : Int32 → Int32 → Int32 → Int32 → Int32 → ES → Prop} {a0 a1 a2 a3 : Int32}
theorem fj_508 {a4 a5 a6 a7 : Int32} (hR : Rec a0 a1 a2 a3 (en ((f + 1 : Nat) : Int)) X) : wpj_L_fits_508 o lo ar K Kx Rec a0 a1 a2 a3 (en (f : Int)) a5 a6 a7 X := by
  unfold wpj_L_fits_508
  intro v ev
  rw [show en (f : Int) + 1 = en ((f + 1 : Nat) : Int) from en_s _] at ev
  rw [ev]; exact hR
theorem fj_384 (h : Ag S (vw (o + 1) X)) (hI : Inv q S) (hf : (f : Int) < S 0 5) (hc : S (22 + f) 0 = 7 ∨ S (22 + f) 0 = 8 → c < 16 ∧ S (22 + f) 2 = (c : Int)) (hR : Rec a0 a1 a2 a3 (en ((f + 1 : Nat) : Int)) X) : wpj_L_fits_384 o lo ar K Kx Rec a0 a1 a2 a3 (en (f : Int)) (en (S (22 + f) 0)) (en (S (22 + f) 2)) (en (S (22 + f) 3)) X := by
  have h0 := hI.hd
  unfold hdOK at h0
  have hz := hI.fin f (by omega)
  unfold finOK at hz
  have h398 : S (22 + f) 0 = 7 ∨ S (22 + f) 0 = 8 → wpj_L_fits_398 o lo ar K Kx Rec a0 a1 a2 a3 (en (f : Int)) (en (S (22 + f) 0)) (en (S (22 + f) 2)) (en (S (22 + f) 3)) X := fun e => by
    obtain ⟨hc16, ec⟩ := hc e
    obtain ⟨t, ht, et, et2, g1, g2⟩ := hI.tgt (by omega) e
    have gc := hI.lkC f (by omega) c hc16 (by omega) ec
    obtain ⟨gc1, gc2⟩ := gc
    unfold smt at gc2
    unfold wpj_L_fits_398
    rw [ec]
    refine g_line3 h hI hc16 (by omega) gc1 (v := (t : Int)) (Or.inl ⟨by omega, et.symm⟩) ?_
    refine g_line0 h ht ?_
    have h427 : ∀ x : Int32, en (S (6 + t) 0) = x → wpj_L_fits_427 o lo ar K Kx Rec a0 a1 a2 a3 (en (f : Int)) (en (S (22 + f) 0)) (en (c : Int)) (en (S (22 + f) 3)) (en (t : Int)) X (en (S (6 + t) 0)) x := fun x hx => by
      unfold wpj_L_fits_427
      refine ⟨fun _ => ?_, fun z => absurd hx z⟩
      refine g_line3 h hI ht (by omega) g1 (v := (c : Int)) (Or.inr ⟨by omega, ec.symm⟩) ⟨fun _ => ?_, fun z => absurd rfl z⟩
      refine g_line2 h ht ?_
      rw [g1]
      refine ⟨fun _ => ?_, fun z => absurd rfl z⟩
      refine g_traceY h hI ht (by omega) g1 (by omega) (w := 0) (v := S (22 + f) 4) (Or.inl ⟨rfl, rfl⟩) ?_
      refine g_finder4 h hI hf ⟨fun _ => ?_, fun z => absurd rfl z⟩
      refine g_traceY h hI ht (by omega) g1 (by omega) (w := 1) (v := (f : Int)) (Or.inr (Or.inl ⟨rfl, rfl⟩)) ⟨fun _ => ?_, fun z => absurd rfl z⟩
      refine g_traceY h hI ht (by omega) g1 (by omega) (w := 2) (v := (c : Int)) (Or.inr (Or.inr ⟨rfl, ec.symm⟩)) ⟨fun _ => ?_, fun z => absurd rfl z⟩
      rw [show (4 : Int32) = en 4 from rfl, en_div (by omega) (by omega) (by omega) (by omega), en_s]
      refine ⟨fun _ => fj_508 (a4 := 0) hR, fun z => absurd ?_ z⟩
      congr 1
      omega
    refine ⟨fun e7 => h427 _ ?_, fun e7 => h427 _ ?_⟩
    · rw [e_7 (by omega) (by omega)] at e7
      rw [show S (6 + t) 0 = 5 by omega]; rfl
    · rw [e_7 (by omega) (by omega)] at e7
      rw [show S (6 + t) 0 = 7 by omega]; rfl
  unfold wpj_L_fits_384
  rw [e_7 (by omega) (by omega), e_8 (by omega) (by omega)]
  exact ⟨fun e => h398 (Or.inl e), fun _ => ⟨fun e => h398 (Or.inr e), fun _ => fj_508 (a4 := 0) hR⟩⟩
theorem fj_294 (h : Ag S (vw (o + 1) X)) (hq : 0 ≤ q ∧ q < 1000000) (hI : Inv q S) (hf : (f : Int) < S 0 5) (hc : S (22 + f) 0 = 7 ∨ S (22 + f) 0 = 8 → c < 16 ∧ S (22 + f) 2 = (c : Int)) (hR : Rec a0 a1 a2 a3 (en ((f + 1 : Nat) : Int)) X) : wpj_L_fits_294 o lo ar K Kx Rec a0 a1 a2 a3 (en (f : Int)) (en (S (22 + f) 0)) (en (S (22 + f) 2)) X := by
  have h0 := hI.hd
  unfold hdOK at h0
  have hz := hI.fin f (by omega)
  unfold finOK at hz
  have h384 := fj_384 (a0 := a0) (a1 := a1) (a2 := a2) (a3 := a3) (lo := lo) (ar := ar) (K := K) (Kx := Kx) h hI hf hc hR
  have h370 : S (22 + f) 4 = -6 → wpj_L_fits_370 o lo ar K Kx Rec a0 a1 a2 a3 (en (f : Int)) (en (S (22 + f) 0)) (en (S (22 + f) 2)) (en (S (22 + f) 3)) X := fun e => by
    unfold wpj_L_fits_370
    refine g_finder4 h hI hf ?_
    rw [e]
    exact ⟨fun _ => h384, fun z => absurd rfl z⟩
  have h357 : wpj_L_fits_357 o lo ar K Kx Rec a0 a1 a2 a3 (en (f : Int)) (en (S (22 + f) 0)) (en (S (22 + f) 2)) (en (S (22 + f) 3)) X := by
    unfold wpj_L_fits_357
    rw [show (4 : Int32) = en 4 from rfl, en_lt (by omega) (by omega) (by omega) (by omega), e_9 (by omega) (by omega)]
    exact ⟨fun e => h370 (by omega), fun _ => ⟨fun e => h370 (by omega), fun _ => h384⟩⟩
  have h346 : wpj_L_fits_346 o lo ar K Kx Rec a0 a1 a2 a3 (en (f : Int)) (en (S (22 + f) 0)) (en (S (22 + f) 2)) (en (S (22 + f) 3)) X := by
    unfold wpj_L_fits_346
    rw [show (3 : Int32) = en 3 from rfl, en_le (by omega) (by omega) (by omega) (by omega), e_0 (by omega) (by omega)]
    exact ⟨fun _ => h357, fun e => ⟨fun _ => h357, fun z => by omega⟩⟩
  unfold wpj_L_fits_294
  refine g_finder3 h hI hf ?_
  rw [show (4 : Int32) = en 4 from rfl, show (9 : Int32) = en 9 from rfl, en_le (by omega) (by omega) (by omega) (by omega), en_le (by omega) (by omega) (by omega) (by omega)]
  refine ⟨fun _ => h346, fun e => ⟨fun _ => h346, fun e2 => ?_⟩⟩
  refine g_finder4 h hI hf ?_
  refine g_conn h hq hI (by omega) (by omega) ?_
  rw [hld_at hI hf (by unfold hds; omega)]
  refine ⟨fun _ => ?_, fun z => absurd rfl z⟩
  rw [show (1 : Int32) = en 1 from rfl, en_lt (by omega) (by omega) (by omega) (by omega), en_lt (by omega) (by omega) (by omega) (by omega)]
  exact ⟨fun z => by omega, fun _ => ⟨fun z => by omega, fun _ => h346⟩⟩
/-- the finder's caller: its state fits -/
theorem fj_102 (h : Ag S (vw (o + 1) X)) (hq : 0 ≤ q ∧ q < 1000000) (hI : Inv q S) (hf : (f : Int) < S 0 5) (har : o + 27 ≤ ar) (hown : ∀ n : Nat, n < 16 → X ar n = en (own S f n)) (hR : ∀ X' : ES, (∀ a, ¬ a = ar → X' a = X a) → (∀ n : Nat, n < 16 → X' ar n = en (own S (f + 1) n)) → Rec a0 a1 a2 a3 (en ((f + 1 : Nat) : Int)) X') {t : Int32} : wpj_L_fits_102 o lo ar K Kx Rec a0 a1 a2 a3 (en (f : Int)) (en (S (22 + f) 0)) (en (S (22 + f) 2)) X t t := by
  have h0 := hI.hd
  unfold hdOK at h0
  have hz := hI.fin f (by omega)
  unfold finOK at hz
  unfold wpj_L_fits_102
  refine ⟨fun _ => ?_, fun z => absurd rfl z⟩
  by_cases m0 : S (22 + f) 0 = 0
  · refine ⟨fun _ => fj_294 (c := 0) h hq hI hf (fun e => by omega) (hR X (fun _ _ => rfl) (fun n hn => ?_)), fun z => absurd ?_ z⟩
    · rw [hown n hn]
      have : own S (f + 1) n = own S f n + ow1 S n f := rfl
      rw [this, ow1, if_neg (fun z => z.1 m0)]
      congr 1; omega
    · rw [show S (22 + f) 2 = -6 by omega]; decide
  · obtain ⟨c, hc, ec, ec2, elk, esm⟩ := hI.cal (by omega) m0
    have hl := lin_own (hI.lin c hc) (by unfold smt at esm; omega)
    have ho0 : own S f c = 0 := by
      rcases own_spec hI hc f (by omega) with ⟨a, -⟩ | ⟨a, g, b1, b2, b3⟩
      · exact a
      · have := (hI.lkC g (by omega) c hc b2 b3).1
        omega
    rw [ec]
    refine ⟨fun z => absurd z (en_neg (by omega) (by omega)), fun _ => ⟨vp_en hc (by decide), vp_en hc (by decide), fun X' eX => ?_⟩⟩
    rw [cl_en (by omega), hown c hc, ho0] at eX
    have hX1 : ∀ a, ¬ a = ar → X' a = X a := fun a ha => by rw [eX, vuN ha]
    have hX2 : ∀ n : Nat, n < 16 → X' ar n = en (own S (f + 1) n) := fun n hn => by
      have e1 : own S (f + 1) n = own S f n + ow1 S n f := rfl
      rw [eX, vuS, updA, e1]
      by_cases e : n = c
      · subst e
        rw [if_pos rfl, ho0, ow1, if_pos ⟨m0, ec⟩]; rfl
      · rw [if_neg e, hown n hn, ow1, if_neg (fun z => by omega)]
        congr 1; omega
    have h' : Ag S (vw (o + 1) X') := fun k j hr => by
      have hk : k < 26 := by unfold rl at hr; omega
      show X' (o + 1 + k) j = _
      rw [hX1 _ (by omega)]
      exact h k j hr
    have h294 : wpj_L_fits_294 o lo ar K Kx Rec a0 a1 a2 a3 (en (f : Int)) (en (S (22 + f) 0)) (en (c : Int)) X' := by
      rw [← ec]
      exact fj_294 (c := c) h' hq hI hf (fun _ => ⟨hc, ec⟩) (hR X' hX1 hX2)
    have h253 : ∀ y : Int32, wpj_L_fits_253 o lo ar K Kx Rec a0 a1 a2 a3 (en (f : Int)) (en (S (22 + f) 0)) (en (c : Int)) y X' 1 := fun y => by
      unfold wpj_L_fits_253
      refine ⟨fun z => absurd z (by decide), fun _ => ?_⟩
      refine g_line2 h' hc ?_
      rw [elk]
      refine ⟨fun _ => ?_, fun z => absurd rfl z⟩
      refine g_line1 h' hI hc ?_
      rw [hl.1]
      refine ⟨fun _ => ⟨vp_en hc (by decide), ?_⟩, fun z => absurd rfl z⟩
      rw [cl_en (by omega), hX2 c hc, show own S (f + 1) c = 1 by have e1 : own S (f + 1) c = own S f c + ow1 S c f := rfl; rw [e1, ho0, ow1, if_pos ⟨m0, ec⟩]; rfl]
      exact ⟨fun _ => h294, fun z => absurd (by decide) z⟩
    have h248 : ∀ y : Int32, wpj_L_fits_248 o lo ar K Kx Rec a0 a1 a2 a3 (en (f : Int)) (en (S (22 + f) 0)) (en (c : Int)) y X' := fun y => h253 y
    refine g_line0 h' hc ?_
    rw [e_1 (by omega) (by omega), e_2 (by omega) (by omega), e_7 (by omega) (by omega), e_8 (by omega) (by omega), show (7 : Int32) = en 7 from rfl, en_le (by omega) (by omega) (by omega) (by omega)]
    have hls := hI.lin c hc
    unfold linOK at hls
    rw [e_1 (by omega) (by omega), e_2 (by omega) (by omega), e_3 (by omega) (by omega), e_4 (by omega) (by omega), e_6 (by omega) (by omega), e_8 (by omega) (by omega), e_9 (by omega) (by omega)]
    unfold smt at esm
    refine ⟨fun m1 => ⟨fun _ => h253 _, fun z => by omega⟩, fun m1 => ⟨fun m2 => ⟨fun _ => h253 _, fun z => by omega⟩, fun m2 => ⟨fun m7 => ⟨fun m7 => ⟨fun _ => h253 _, fun z => by omega⟩, fun n7 => ⟨fun m8 => ⟨fun _ => h253 _, fun z => by omega⟩, fun n8 => ⟨fun _ => h248 _, fun s8 => ⟨fun _ => h248 _, fun z => by omega⟩⟩⟩⟩, fun m7 => ⟨fun _ => h253 _, fun z => by omega⟩⟩⟩⟩
theorem fit_fin (h : Ag S (vw (o + 1) X)) (hq : 0 ≤ q ∧ q < 1000000) (hI : Inv q S) (hf : (f : Int) < S 0 5) (har : o + 27 ≤ ar) (hown : ∀ n : Nat, n < 16 → X ar n = en (own S f n)) {vf vh : Int} (hR : ∀ X' : ES, (∀ a, ¬ a = ar → X' a = X a) → (∀ n : Nat, n < 16 → X' ar n = en (own S (f + 1) n)) → Rec (en (vf + frI S f)) (en (vh + hdI S f)) a2 a3 (en ((f + 1 : Nat) : Int)) X') : wp_X4_finder o X (en (f : Int)) 0 (fun r_1222 => wp_X4_finder o X (en (f : Int)) 2 (fun r_1223 => (r_1222 = 0 → (wpj_L_fits_57 o lo ar K Kx Rec (en vf) (en vh) a2 a3 (en (f : Int)) r_1222 r_1223 X (en vf) 1)) ∧ (¬ r_1222 = 0 → (wpj_L_fits_57 o lo ar K Kx Rec (en vf) (en vh) a2 a3 (en (f : Int)) r_1222 r_1223 X (en vf) 0)))) := by
  have h0 := hI.hd
  unfold hdOK at h0
  have hz := hI.fin f (by omega)
  unfold finOK at hz
  refine g_finder0 h hI hf ?_
  refine g_finder2 h hI hf ?_
  have h102 : ∀ t : Int32, wpj_L_fits_102 o lo ar K Kx Rec (en (vf + frI S f)) (en (vh + hdI S f)) a2 a3 (en (f : Int)) (en (S (22 + f) 0)) (en (S (22 + f) 2)) X t t := fun t => fj_102 h hq hI hf har hown hR
  have h90 : ∀ t : Int32, t = (if S (22 + f) 0 = 0 then 1 else 0) → wpj_L_fits_90 o lo ar K Kx Rec (en (vf + frI S f)) (en (vh + hdI S f)) a2 a3 (en (f : Int)) (en (S (22 + f) 0)) (en (S (22 + f) 2)) X t := fun t ht => by
    unfold wpj_L_fits_90
    rw [e_m6 (by omega) (by omega), ht]
    by_cases z : S (22 + f) 0 = 0
    · rw [if_pos z]
      exact ⟨fun _ => h102 1, fun e => by omega⟩
    · rw [if_neg z]
      exact ⟨fun e => by omega, fun _ => h102 0⟩
  have h78 : wpj_L_fits_78 o lo ar K Kx Rec (en (vf + frI S f)) (en vh) a2 a3 (en (f : Int)) (en (S (22 + f) 0)) (en (S (22 + f) 2)) X (en vh) (en (hdI S f)) := by
    unfold wpj_L_fits_78
    intro v ev
    rw [en_add] at ev
    subst ev
    rw [e_0 (by omega) (by omega)]
    exact ⟨fun e => h90 1 (by rw [if_pos e]), fun e => h90 0 (by rw [if_neg e])⟩
  have h57 : wpj_L_fits_57 o lo ar K Kx Rec (en vf) (en vh) a2 a3 (en (f : Int)) (en (S (22 + f) 0)) (en (S (22 + f) 2)) X (en vf) (en (frI S f)) := by
    unfold wpj_L_fits_57
    intro v ev
    rw [en_add] at ev
    subst ev
    rw [show (4 : Int32) = en 4 from rfl, show (9 : Int32) = en 9 from rfl, en_le (by omega) (by omega) (by omega) (by omega), en_le (by omega) (by omega) (by omega) (by omega)]
    by_cases z : 5 ≤ S (22 + f) 0 ∧ S (22 + f) 0 ≤ 8
    · have e : hdI S f = 1 := by unfold hdI; rw [if_pos z]
      rw [e] at h78
      exact ⟨fun e => by omega, fun _ => ⟨fun e => by omega, fun _ => h78⟩⟩
    · have e : hdI S f = 0 := by unfold hdI; rw [if_neg z]
      rw [e] at h78
      exact ⟨fun _ => h78, fun _ => ⟨fun _ => h78, fun e => by omega⟩⟩
  rw [e_0 (by omega) (by omega)]
  refine ⟨fun e => ?_, fun e => ?_⟩
  · have e1 : frI S f = 1 := by unfold frI; rw [if_pos e]
    rw [e1] at h57; exact h57
  · have e1 : frI S f = 0 := by unfold frI; rw [if_neg e]
    rw [e1] at h57; exact h57
end FB
