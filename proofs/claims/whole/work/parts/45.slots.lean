-- ===== save and restore: the pure side =====
theorem slot_of {x : Int32} (h0 : ¬ x < 0) (h1 : ¬ (1 : Int32) < x) : ∃ s : Nat, s < 2 ∧ x = nI s := by
  have a := mt Int32.lt_iff_toInt_lt.mpr h0
  have b := mt Int32.lt_iff_toInt_lt.mpr h1
  have e0 : (0 : Int32).toInt = 0 := by decide
  have e1 : (1 : Int32).toInt = 1 := by decide
  have f0 : (nI 0).toInt = 0 := by decide
  have f1 : (nI 1).toInt = 1 := by decide
  rcases (by omega : x.toInt = 0 ∨ x.toInt = 1) with z | z
  · exact ⟨0, by decide, Int32.toInt_inj.mp (z.trans f0.symm)⟩
  · exact ⟨1, by decide, Int32.toInt_inj.mp (z.trans f1.symm)⟩
theorem ix233 {s k : Nat} : (233 * nI s) + nI k = nI (233 * s + k) := by
  have h : (233 : Int32) = nI 233 := rfl
  rw [h, pk_mul, nI_add]
theorem sv_loop (M : ES) {s : Nat} (hs : s < 2) : ∀ (j i : Nat) (B : CS), i + j = 233 → ∃ B' : CS, (∀ (K : Int32 → ES → Prop) (Kx : Int32 → ES → Prop), (∀ y, Kx y (va_up M 3 B')) → wpl_X5_save_14 (nI s) K Kx (j + 1) (nI i) (va_up M 3 B)) ∧ (∀ k, k < 233 * s + i ∨ 233 * s + 233 ≤ k → B' k = B k) ∧ ∀ k, i ≤ k → k < 233 → B' (233 * s + k) = M 1 k
  | 0, i, B, he => by
    have e : i = 233 := by omega
    subst e
    refine ⟨B, fun K Kx hK => ?_, fun k _ => rfl, fun k h1 h2 => absurd h1 (by omega)⟩
    rw [wpl_X5_save_14]
    exact ky (nI_le (a := 233) (b := 233) (Nat.le_refl _) (by decide)) (hK _)
  | j + 1, i, B, he => by
    have hi : i < 233 := by omega
    have hlt : ¬ (233 : Int32) ≤ nI i := nI_ge (b := 233) hi (by decide)
    have vi : vp_in (nI i) 233 := nIn hi (by decide)
    have vj : vp_in (nI (233 * s + i)) 466 := nIn (by omega) (by decide)
    obtain ⟨B', a, b, c⟩ := sv_loop M hs j (i + 1) (upd B (233 * s + i) (M 1 i)) (by omega)
    refine ⟨B', fun K Kx hK => ?_, fun k hk => ?_, fun k h1 h2 => ?_⟩
    · rw [wpl_X5_save_14, ix233]
      refine kn hlt ⟨vi, vj, fun X4 e4 v ev => ?_⟩
      rw [e4, ev, nI_1, vuS, nI_clamp (by omega), nI_clamp (by omega), vuU, vuN (by decide)]
      exact a K Kx hK
    · rw [b k (by omega), updA, if_neg (by omega)]
    · by_cases e : k = i
      · subst e; rw [b (233 * s + k) (by omega), updA, if_pos rfl]
      · exact c k (by omega) h2
theorem rs_loop (M : ES) {s : Nat} (hs : s < 2) : ∀ (j i : Nat) (B : CS), i + j = 233 → ∃ B' : CS, (∀ (K : Int32 → ES → Prop) (Kx : Int32 → ES → Prop), (∀ y, Kx y (va_up M 1 B')) → wpl_X5_restore_26 (nI s) K Kx (j + 1) (nI i) (va_up M 1 B)) ∧ (∀ k, k < i → B' k = B k) ∧ ∀ k, i ≤ k → k < 233 → B' k = M 3 (233 * s + k)
  | 0, i, B, he => by
    have e : i = 233 := by omega
    subst e
    refine ⟨B, fun K Kx hK => ?_, fun k _ => rfl, fun k h1 h2 => absurd h1 (by omega)⟩
    rw [wpl_X5_restore_26]
    exact ky (nI_le (a := 233) (b := 233) (Nat.le_refl _) (by decide)) (hK _)
  | j + 1, i, B, he => by
    have hi : i < 233 := by omega
    have hlt : ¬ (233 : Int32) ≤ nI i := nI_ge (b := 233) hi (by decide)
    have vi : vp_in (nI i) 233 := nIn hi (by decide)
    have vj : vp_in (nI (233 * s + i)) 466 := nIn (by omega) (by decide)
    obtain ⟨B', a, b, c⟩ := rs_loop M hs j (i + 1) (upd B i (M 3 (233 * s + i))) (by omega)
    refine ⟨B', fun K Kx hK => ?_, fun k hk => ?_, fun k h1 h2 => ?_⟩
    · rw [wpl_X5_restore_26, ix233]
      refine kn hlt ⟨vj, vi, fun X4 e4 v ev => ?_⟩
      rw [e4, ev, nI_1, vuS, nI_clamp (by omega), nI_clamp (by omega), vuU, vuN (by decide)]
      exact a K Kx hK
    · rw [b k (by omega), updA, if_neg (by omega)]
    · by_cases e : k = i
      · subst e; rw [b k (by omega), updA, if_pos rfl]
      · exact c k (by omega) h2
theorem SV_oth {q o t : Nat} {sv sv2 : Nat → Option Nat} {E F : ES} (hv : sv2 t = sv t) (h60 : F (o + 60) t = E (o + 60) t) (hc : ∀ a, sv t = some a → ∀ k, k < 26 → F (a + k) = E (a + k)) (h59 : ∀ k, k < 233 → F (o + 59) (233 * t + k) = E (o + 59) (233 * t + k)) (h : SV q o sv E t) : SV q o sv2 F t := by
  rcases h with ⟨h1, h2⟩ | ⟨a, nf, h, N, G, h1, h2, h3, h4, h5, h6⟩
  · exact Or.inl ⟨hv.trans h1, h60.trans h2⟩
  · exact Or.inr ⟨a, nf, h, N, G, hv.trans h1, h2, h60.trans h3, XR_congr (sameX_of fun k hk => hc a h1 k hk) (sameM_refl _ _ _) h4, h5, fun k hk => (h59 k hk).trans (h6 k hk)⟩
theorem save_inv {q o s b : Nat} {sv : Nat → Option Nat} {E X2 : ES} {B : CS} (hs : s < 2) (hI : Inv q o sv E) (hob : o + 63 ≤ b) (h1 : ∀ k, k < o + 63 → X2 k = E k) (h2 : sameX (vw (o + 1) E) (vw b X2)) (h3 : ∀ t a, t < 2 → ¬ t = s → sv t = some a → ∀ k, k < 26 → X2 (a + k) = E (a + k)) (hB1 : ∀ k, k < 233 → B (233 * s + k) = E (o + 57) k) (hB2 : ∀ k, k < 233 * s ∨ 233 * s + 233 ≤ k → B k = E (o + 59) k) : Inv q o (va_up sv s (some b)) (put 7 (o + 56) (va_up (va_up (vw (o + 56) E) 3 B) 4 (upd (vw (o + 56) E 4) s 1)) X2) := by
  obtain ⟨⟨nf, h, N, G, a1, a2, a3⟩, c, d, v0, v1⟩ := hI
  generalize hM2 : va_up (va_up (vw (o + 56) E) 3 B) 4 (upd (vw (o + 56) E 4) s 1) = M2
  have p7 : ∀ k, k < 7 → put 7 (o + 56) M2 X2 (o + 56 + k) = M2 k := fun k hk => putAt hk
  have m4 : M2 4 = upd (E (o + 60)) s 1 := by rw [← hM2, vuS]; rfl
  have m3 : M2 3 = B := by rw [← hM2, vuN (by decide), vuS]
  have mk : ∀ k, ¬ k = 4 → ¬ k = 3 → M2 k = E (o + 56 + k) := fun k e1 e2 => by rw [← hM2, vuN e1, vuN e2]; rfl
  have lo : ∀ k, k < o + 56 → put 7 (o + 56) M2 X2 k = E k := fun k hk => (putOff (Or.inl hk)).trans (h1 k (by omega))
  have hi : ∀ k, o + 63 ≤ k → put 7 (o + 56) M2 X2 k = X2 k := fun k hk => putOff (Or.inr hk)
  have f59 : put 7 (o + 56) M2 X2 (o + 59) = B := (p7 3 (by decide)).trans m3
  have f60 : put 7 (o + 56) M2 X2 (o + 60) = upd (E (o + 60)) s 1 := (p7 4 (by decide)).trans m4
  have oth : ∀ t, t < 2 → ¬ t = s → SV q o sv E t → SV q o (va_up sv s (some b)) (put 7 (o + 56) M2 X2) t := by
    intro t ht hts hv
    refine SV_oth (vuN hts) (by rw [f60, updA, if_neg hts]) (fun a ha k hk => ?_) (fun k hk => ?_) hv
    · have hoa : o + 63 ≤ a := by
        rcases hv with ⟨z, -⟩ | ⟨a', -, -, -, -, z, hz, -⟩
        · rw [ha] at z; cases z
        · rw [ha] at z; cases z; exact hz
      rw [hi _ (by omega)]
      exact h3 t a ht hts ha k hk
    · rw [f59]; exact hB2 _ (by omega)
  have new : SV q o (va_up sv s (some b)) (put 7 (o + 56) M2 X2) s := by
    refine Or.inr ⟨b, nf, h, N, G, vuS _ _ _, hob, by rw [f60, updA, if_pos rfl], ?_, a2, fun k hk => ?_⟩
    · have e : vw b (put 7 (o + 56) M2 X2) = vw b X2 := funext fun k => hi _ (by omega)
      rw [e]
      exact XR_congr h2 (sameM_refl _ _ _) a1
    · rw [f59, hB1 k hk, a3]
  have all : ∀ t, t < 2 → SV q o sv E t → SV q o (va_up sv s (some b)) (put 7 (o + 56) M2 X2) t := by
    intro t ht hv
    by_cases e : t = s
    · subst e; exact new
    · exact oth t ht e hv
  refine ⟨⟨nf, h, N, G, XR_congr (sameX_of fun k hk => lo _ (by omega)) (sameM_refl _ _ _) a1, a2, ?_⟩, ?_, ?_, all 0 (by decide) v0, all 1 (by decide) v1⟩
  · exact (p7 1 (by decide)).trans ((mk 1 (by decide) (by decide)).trans a3)
  · refine PD_ext c (lo _ (by omega)) (lo _ (by omega)) ?_ ?_
    · exact congrFun ((p7 0 (by decide)).trans (mk 0 (by decide) (by decide))) 5
    · exact (p7 5 (by decide)).trans (mk 5 (by decide) (by decide))
  · rw [lo _ (by omega)]; exact d
theorem top_save {q o : Nat} {sv : Nat → Option Nat} {E : ES} (hI : Inv q o sv E) (hD : ∀ a0 a1, sv 0 = some a0 → sv 1 = some a1 → a0 + 26 ≤ a1 ∨ a1 + 26 ≤ a0) (p1 : Int32) : ∃ (r : Int32) (M2 : ES), (∀ K : Int32 → ES → Prop, K r M2 → wp_X5_save (vw (o + 56) E) p1 K) ∧ wp_X4_save o sv E p1 (fun r' E1 sv2 => r' = r ∧ (∀ k, k < 7 → E1 (o + 56 + k) = E (o + 56 + k)) ∧ Inv q o sv2 (put 7 (o + 56) M2 E1)) := by
  have hI0 := hI
  obtain ⟨⟨nf, h, N, G, a1, a2, a3⟩, c, d, v0, v1⟩ := hI
  have hov : ∀ t a, t < 2 → sv t = some a → o + 63 ≤ a ∧ vw a E 3 0 = 0 := by
    intro t a ht ha
    have hv : SV q o sv E t := by
      rcases (by omega : t = 0 ∨ t = 1) with z | z <;> subst z
      · exact v0
      · exact v1
    rcases hv with ⟨z, -⟩ | ⟨a', nf', h', N', G', z, hz, -, x, -⟩
    · rw [ha] at z; cases z
    · rw [ha] at z; cases z; exact ⟨hz, x.1.1⟩
  rcases inc_dec p1 0 1 with ⟨g0, g1, gm, gc⟩ | ⟨gm, gc⟩
  · obtain ⟨s, hs, rfl⟩ := slot_of g0 g1
    have hcl : (nI s).toNatClampNeg = s := nI_clamp (by omega)
    obtain ⟨B, l1, l2, l3⟩ := sv_loop (vw (o + 56) E) hs 233 0 (vw (o + 56) E 3) rfl
    rw [vuSelf] at l1
    have z0 : (0 : Int32).toNatClampNeg = 0 := by decide
    have post : ∀ (b : Nat) (E1 X' X2 : ES), o + 63 ≤ b → (∀ k, k < o + 63 → E1 k = E k) → sameX (vw (o + 1) E1) X' → (∀ t a, t < 2 → ¬ t = s → sv t = some a → (a + 26 ≤ b ∨ b + 26 ≤ a) ∧ ∀ k, k < 26 → E1 (a + k) = E (a + k)) → X2 = put 26 b X' E1 → X2 (o + 1) 7 = vw (o + 56) E 1 0 ∧ (∀ k, k < 7 → X2 (o + 56 + k) = E (o + 56 + k)) ∧ Inv q o (va_up sv s (some b)) (put 7 (o + 56) (va_up (va_up (vw (o + 56) E) 3 B) 4 (upd (vw (o + 56) E 4) s 1)) X2) := by
      intro b E1 X' X2 hob hE1 hX' hoth e2
      have lo : ∀ k, k < o + 63 → X2 k = E k := fun k hk => by rw [e2, putOff (by omega)]; exact hE1 k hk
      have ev : vw (o + 56) E 1 0 = h 0 := by
        rw [show vw (o + 56) E 1 = E (o + 57) from rfl, a3, flat_h (by decide)]
      refine ⟨?_, fun k hk => lo _ (by omega), save_inv hs hI0 hob lo ?_ (fun t a ht hts ha k hk => ?_) (fun k hk => l3 k (Nat.zero_le _) hk) (fun k hk => l2 k (by omega))⟩
      · rw [lo _ (by omega), ev]; exact a1.1.2.2.2.1
      · have e3 : ∀ k, k < 26 → vw b X2 k = X' k := fun k hk => by rw [e2]; exact putAt hk
        have e4 : ∀ k, k < 26 → vw (o + 1) E1 k = vw (o + 1) E k := fun k hk => hE1 _ (by omega)
        obtain ⟨x3, x0, x5, xl, xf⟩ := hX'
        refine ⟨?_, fun k h1 h2 => ?_, fun k hk => ?_, fun i hi k hk => ?_, fun f hf k hk => ?_⟩
        · rw [e3 3 (by decide), x3, e4 3 (by decide)]
        · rw [e3 0 (by decide), x0 k h1 h2, e4 0 (by decide)]
        · rw [e3 5 (by decide), x5 k hk, e4 5 (by decide)]
        · rw [e3 _ (by omega), xl i hi k hk, e4 _ (by omega)]
        · rw [e3 _ (by omega), xf f hf k hk, e4 _ (by omega)]
      · have q := hoth t a ht hts ha
        rw [e2, putOff (by omega)]
        exact q.2 k hk
    refine ⟨vw (o + 56) E 1 0, va_up (va_up (vw (o + 56) E) 3 B) 4 (upd (vw (o + 56) E 4) s 1), fun K hK => gm _ (k01 ⟨234, l1 _ _ fun y => ⟨nIn hs (by decide), fun X8 e8 => ⟨nIn (n := 0) (by decide) (by decide), ?_⟩⟩⟩), gc _ (k01 ⟨fun hsv b fr E1 hob hdis eE1 => ?_, fun a ha => ?_⟩)⟩
    · rw [hcl, vuN (by decide)] at e8
      rw [z0, e8, vuN (by decide), vuN (by decide)]
      exact hK
    · rw [hcl] at hsv ⊢
      have hE1 : ∀ k, k < o + 63 → E1 k = E k := fun k hk => by rw [eE1]; exact xbE_off (by omega)
      obtain ⟨X', x1, x2⟩ := copy_q (X := vw b E1) (Y := vw (o + 1) E1) (fun t ht => by
        have e : vw (o + 1) E1 (6 + t) = vw (o + 1) E (6 + t) := hE1 _ (by omega)
        rw [e]; exact XR_lift01 a1 t ht) (by
        have e : vw (o + 1) E1 3 = vw (o + 1) E 3 := hE1 _ (by omega)
        rw [e, a1.1.1, show vw b E1 3 = E1 (b + 3) from rfl, eE1, xbE, if_neg (by omega), if_neg (by omega), if_neg (by omega), if_pos (by omega)]
        rfl)
      refine x1 _ fun X2 e2 => post b E1 X' X2 hob hE1 x2 (fun t a ht hts ha => ⟨Or.inl (hdis t a ht ha), fun k hk => ?_⟩) e2
      have := hdis t a ht ha
      rw [eE1]; exact xbE_off (by omega)
    · rw [hcl] at ha
      obtain ⟨hoa, ha3⟩ := hov s a hs ha
      obtain ⟨X', x1, x2⟩ := copy_q (X := vw a E) (Y := vw (o + 1) E) (XR_lift01 a1) (ha3.trans a1.1.1.symm)
      refine x1 _ fun X2 e2 => ?_
      have := post a E X' X2 hoa (fun _ _ => rfl) x2 (fun t a' ht hts ha' => ⟨?_, fun _ _ => rfl⟩) e2
      · rw [← ha, vuSelf] at this
        exact this
      · rcases (by omega : (t = 0 ∧ s = 1) ∨ (t = 1 ∧ s = 0)) with ⟨z1, z2⟩ | ⟨z1, z2⟩ <;> subst z1 <;> subst z2
        · exact hD a' a ha' ha
        · exact (hD a a' ha ha').symm
  · refine ⟨-2, vw (o + 56) E, fun K hK => gm _ (k00 hK), gc _ (k00 ⟨rfl, fun _ _ => rfl, ?_⟩)⟩
    rw [putVw]; exact hI0
theorem top_restore {q o : Nat} {sv : Nat → Option Nat} {E : ES} (hI : Inv q o sv E) (p1 : Int32) : Top q o sv (wp_X4_restore o sv E p1) (fun M => wp_X5_restore M p1) := by
  have hI0 := hI
  obtain ⟨⟨nf, h, N, G, a1, a2, a3⟩, c, d, v0, v1⟩ := hI
  rcases inc_dec p1 0 1 with ⟨g0, g1, gm, gc⟩ | ⟨gm, gc⟩
  · obtain ⟨s, hs, rfl⟩ := slot_of g0 g1
    have hcl : (nI s).toNatClampNeg = s := nI_clamp (by omega)
    have z0 : (0 : Int32).toNatClampNeg = 0 := by decide
    have hv : SV q o sv E s := by
      rcases (by omega : s = 0 ∨ s = 1) with z | z <;> subst z
      · exact v0
      · exact v1
    have v4 : vw (o + 56) E 4 = E (o + 60) := rfl
    rcases hv with ⟨h1, h2⟩ | ⟨a, nf', h', N', G', h1, h2, h3, h4, h5, h6⟩
    · refine ⟨-5, E, vw (o + 56) E, fun K hK => gc _ (k01 ⟨fun _ => hK, fun a ha => ?_⟩), fun K hK => gm _ (k01 ⟨nIn hs (by decide), ?_⟩), by rw [putVw]; exact hI0⟩
      · rw [hcl, h1] at ha; cases ha
      · rw [hcl, v4]
        exact ky h2 hK
    · obtain ⟨X', x1, x2⟩ := copy_q (X := vw (o + 1) E) (Y := vw a E) (XR_lift01 h4) (a1.1.1.trans h4.1.1.symm)
      obtain ⟨B, l1, -, l3⟩ := rs_loop (vw (o + 56) E) hs 233 0 (vw (o + 56) E 1) rfl
      rw [vuSelf] at l1
      obtain ⟨h'', N'', G'', f1, f2⟩ := flat_ext (A := B) (B := flat h' N' G') rfl (fun k hk => (l3 k (Nat.zero_le _) hk).trans (h6 k hk))
      have eB : B 0 = h' 0 := ((l3 0 (Nat.zero_le _) (by decide)).trans (h6 0 (by decide))).trans (flat_h (by decide))
      have ev : put 26 (o + 1) X' E (o + 1) 7 = B 0 := by
        have e : put 26 (o + 1) X' E (o + 1) = X' 0 := putAt (n := 26) (o := o + 1) (k := 0) (by decide)
        rw [e, x2.2.1 7 (by decide) (by decide), eB]
        exact h4.1.2.2.2.1
      refine ⟨B 0, put 26 (o + 1) X' E, va_up (vw (o + 56) E) 1 B, fun K hK => gc _ (k01 ⟨fun z => ?_, fun a' ha => ?_⟩), fun K hK => ?_, Inv_mk (X' := X') hI0 (Nat.le_refl q) (fun k hk => putAt hk) (XR_congr x2 f2 h4) (by rw [tmO, f2.1 0 (by decide)]; exact h5) ((vuS _ _ _).trans f1) ?_ ?_ (fun k hk => putOff (Or.inr (by omega))) (vuN (by decide)) (vuN (by decide))⟩
      · rw [hcl, h1] at z; cases z
      · rw [hcl, h1] at ha
        cases ha
        refine x1 _ fun X2 e2 => ?_
        rw [e2, ev]; exact hK
      · rw [vp56]
        refine gm _ (k01 ⟨nIn hs (by decide), kn ?_ ⟨234, l1 _ _ fun y => ⟨nIn (n := 0) (by decide) (by decide), ?_⟩⟩⟩)
        · rw [hcl, v4, h3]; decide
        · rw [z0, vuS]; exact hK
      · rw [vp54]
        exact PD_ext c rfl rfl (by rw [vuN (by decide)]) (vuN (by decide))
      · rw [putOff (Or.inr (by omega))]; exact d
  · exact ⟨-2, E, vw (o + 56) E, fun K hK => gc _ (k00 hK), fun K hK => gm _ (k00 hK), by rw [putVw]; exact hI0⟩
