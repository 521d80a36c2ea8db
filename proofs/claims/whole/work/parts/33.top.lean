-- ===== what holds between the law's calls =====
def SV (q o : Nat) (sv : Nat → Option Nat) (E : ES) (s : Nat) : Prop := (sv s = none ∧ E (o + 60) s = 0) ∨ ∃ (a nf : Nat) (h : CS) (N G : ES), sv s = some a ∧ o + 63 ≤ a ∧ E (o + 60) s = 1 ∧ XR q nf (vw a E) h N G ∧ tmO h ∧ ∀ k, k < 233 → E (o + 59) (233 * s + k) = flat h N G k
def Inv (q o : Nat) (sv : Nat → Option Nat) (E : ES) : Prop := (∃ (nf : Nat) (h : CS) (N G : ES), XR q nf (vw (o + 1) E) h N G ∧ tmO h ∧ E (o + 57) = flat h N G) ∧ PD (vw (o + 54) E) (vw (o + 56) E) ∧ E (o + 30) 0 = 0 ∧ SV q o sv E 0 ∧ SV q o sv E 1
def Top (q' o : Nat) (sv : Nat → Option Nat) (wc : (Int32 → ES → Prop) → Prop) (wm : ES → (Int32 → ES → Prop) → Prop) : Prop := ∃ (r : Int32) (E1 M2 : ES), (∀ K : Int32 → ES → Prop, K r E1 → wc K) ∧ (∀ K : Int32 → ES → Prop, K r M2 → wm (vw (o + 56) E1) K) ∧ Inv q' o sv (put 7 (o + 56) M2 E1)
theorem SV_ext {q q' o s : Nat} {sv : Nat → Option Nat} {E E2 : ES} (hq : q ≤ q') (hE : ∀ a, a = o + 59 ∨ a = o + 60 ∨ o + 63 ≤ a → E2 a = E a) (h : SV q o sv E s) : SV q' o sv E2 s := by
  rcases h with ⟨h1, h2⟩ | ⟨a, nf, h, N, G, h1, h2, h3, h4, h5, h6⟩
  · exact Or.inl ⟨h1, by rw [hE _ (Or.inr (Or.inl rfl))]; exact h2⟩
  · have ev : vw a E2 = vw a E := funext fun k => hE _ (Or.inr (Or.inr (by omega)))
    exact Or.inr ⟨a, nf, h, N, G, h1, h2, by rw [hE _ (Or.inr (Or.inl rfl))]; exact h3, by rw [ev]; exact XR_q hq h4, h5, fun k hk => by rw [hE _ (Or.inl rfl)]; exact h6 k hk⟩
theorem PD_ext {P P' M M' : ES} (h : PD P M) (h0 : P' 0 = P 0) (h1 : P' 1 = P 1) (m0 : M' 0 5 = M 0 5) (m5 : M' 5 = M 5) : PD P' M' := by
  obtain ⟨n, a, b, c, d⟩ := h
  exact ⟨n, a, by rw [h0]; exact b, by rw [m0]; exact c, fun k hk => by rw [h1, m5]; exact d k hk⟩
theorem Inv_q {q q' o : Nat} {sv : Nat → Option Nat} {E : ES} (hq : q ≤ q') (h : Inv q o sv E) : Inv q' o sv E := by
  obtain ⟨⟨nf, h, N, G, a1, a2, a3⟩, b, c, d, e⟩ := h
  exact ⟨⟨nf, h, N, G, XR_q hq a1, a2, a3⟩, b, c, SV_ext hq (fun _ _ => rfl) d, SV_ext hq (fun _ _ => rfl) e⟩
/-- the parts of the next world -/
theorem Inv_mk {q q' o nf : Nat} {sv : Nat → Option Nat} {E E1 M2 : ES} {h' : CS} {N' G' : ES} {X' : ES} (hI : Inv q o sv E) (hq : q ≤ q') (hX : ∀ k, k < 26 → E1 (o + 1 + k) = X' k) (hR : XR q' nf X' h' N' G') (ht : tmO h') (hM1 : M2 1 = flat h' N' G') (hP : PD (vw (o + 54) E1) M2) (h30 : E1 (o + 30) 0 = 0) (hS : ∀ a, o + 63 ≤ a → E1 a = E a) (m3 : M2 3 = E (o + 59)) (m4 : M2 4 = E (o + 60)) : Inv q' o sv (put 7 (o + 56) M2 E1) := by
  have p7 : ∀ k, k < 7 → put 7 (o + 56) M2 E1 (o + 56 + k) = M2 k := fun k hk => putAt hk
  have lo : ∀ a, a < o + 56 → put 7 (o + 56) M2 E1 a = E1 a := fun a ha => putOff (Or.inl ha)
  have hi : ∀ a, o + 63 ≤ a → put 7 (o + 56) M2 E1 a = E1 a := fun a ha => putOff (Or.inr ha)
  have sv' : ∀ a, a = o + 59 ∨ a = o + 60 ∨ o + 63 ≤ a → put 7 (o + 56) M2 E1 a = E a := by
    intro a ha
    rcases ha with rfl | rfl | ha
    · exact (p7 3 (by decide)).trans m3
    · exact (p7 4 (by decide)).trans m4
    · rw [hi a ha, hS a ha]
  refine ⟨⟨nf, h', N', G', ?_, ht, (p7 1 (by decide)).trans hM1⟩, ?_, ?_, SV_ext hq sv' hI.2.2.2.1, SV_ext hq sv' hI.2.2.2.2⟩
  · refine XR_congr (sameX_of fun k hk => ?_) (sameM_refl _ _ _) hR
    exact (lo (o + 1 + k) (by omega)).trans (hX k hk)
  · refine PD_ext hP ?_ ?_ ?_ ?_
    · exact lo (o + 54 + 0) (by omega)
    · exact lo (o + 54 + 1) (by omega)
    · exact congrFun (p7 0 (by decide)) 5
    · exact p7 5 (by decide)
  · rw [lo _ (by omega)]; exact h30
theorem vp56 {o : Nat} {Y E : ES} : vw (o + 56) (put 26 (o + 1) Y E) = vw (o + 56) E := funext fun k => putOff (Or.inr (by omega))
theorem vp56b {o : Nat} {Y E : ES} : vw (o + 56) (put 26 (o + 27) Y E) = vw (o + 56) E := funext fun k => putOff (Or.inr (by omega))
theorem vp56c {o : Nat} {Y E : ES} : vw (o + 56) (put 2 (o + 54) Y E) = vw (o + 56) E := funext fun k => putOff (Or.inr (by omega))
theorem top_X {q q' o : Nat} {sv : Nat → Option Nat} {E : ES} {wc : (Int32 → ES → Prop) → Prop} {wm : ES → (Int32 → ES → Prop) → Prop} (hI : Inv q o sv E) (hq : q ≤ q') (hS : ∀ (nf : Nat) (h : CS) (N G : ES), XR q nf (vw (o + 1) E) h N G → tmO h → SimX q' o E wc (fun Z => wm (ms Z h N G))) : Top q' o sv wc wm := by
  have hI0 := hI
  obtain ⟨⟨nf, h, N, G, a1, a2, a3⟩, b, c, d, e⟩ := hI
  obtain ⟨r, X', nf', h', N', G', s1, s2, s3, s4⟩ := hS nf h N G a1 a2
  have es : ms (vw (o + 56) E) h N G = vw (o + 56) E := ms_self a3
  refine ⟨r, put 26 (o + 1) X' E, ms (vw (o + 56) E) h' N' G', s1, fun K hK => ?_, Inv_mk (X' := X') hI0 hq (fun k hk => putAt hk) s3 s4 (ms_1 _ _ _ _) ?_ ?_ (fun a ha => putOff (Or.inr (by omega))) (ms_k (by decide)) (ms_k (by decide))⟩
  · have := s2 (vw (o + 56) E) K hK
    rw [vp56]
    dsimp only at this
    rw [es] at this
    exact this
  · rw [vp54]
    exact PD_ext b rfl rfl (by rw [ms_k (by decide)]) (ms_k (by decide))
  · rw [putOff (Or.inr (by omega))]; exact c
theorem top_U {q o : Nat} {sv : Nat → Option Nat} {E : ES} {wc : (Int32 → ES → Prop) → Prop} {wm : ES → (Int32 → ES → Prop) → Prop} (hI : Inv q o sv E) (hS : ∀ (nf : Nat) (h : CS) (N G : ES), XR q nf (vw (o + 1) E) h N G → vw (o + 56) E 1 = flat h N G → vw (o + 27) E 3 0 = 0 → SimU o E (vw (o + 56) E) wc (wm (vw (o + 56) E))) : Top q o sv wc wm := by
  have hI0 := hI
  obtain ⟨⟨nf, h, N, G, a1, a2, a3⟩, b, c, d, e⟩ := hI
  obtain ⟨r, Y, M2, s1, s2, s3, s4, s5⟩ := hS nf h N G a1 a3 c
  obtain ⟨h', N', G', f1, f2⟩ := flat_ext (A := M2 1) (B := vw (o + 56) E 1) a3 s5
  refine ⟨r, put 26 (o + 27) Y E, M2, s1, fun K hK => by rw [vp56b]; exact s2 K hK, Inv_mk (X' := vw (o + 1) E) (nf := nf) hI0 (Nat.le_refl q) (fun k hk => putOff (Or.inl (by omega))) (XR_congr (sameX_of fun _ _ => rfl) f2 a1) (by rw [tmO, f2.1 0 (by decide)]; exact a2) f1 ?_ ?_ (fun a ha => putOff (Or.inr (by omega))) (s4 3 (by decide) (by decide)) (s4 4 (by decide) (by decide))⟩
  · have ev : vw (o + 54) (put 26 (o + 27) Y E) = vw (o + 54) E := funext fun k => putOff (Or.inr (by omega))
    rw [ev]
    exact PD_ext b rfl rfl (by rw [s4 0 (by decide) (by decide)]) (s4 5 (by decide) (by decide))
  · have : put 26 (o + 27) Y E (o + 27 + 3) = Y 3 := putAt (by decide)
    rw [show o + 30 = o + 27 + 3 from rfl, this]; exact s3
def TopQ (o : Nat) (E : ES) (wc : (Int32 → Prop) → Prop) (wm : ES → (Int32 → Prop) → Prop) : Prop := ∃ r : Int32, (∀ K : Int32 → Prop, K r → wc K) ∧ ∀ K : Int32 → Prop, K r → wm (vw (o + 56) E) K
theorem top_Q {q o : Nat} {sv : Nat → Option Nat} {E : ES} {wc : (Int32 → Prop) → Prop} {wm : ES → (Int32 → Prop) → Prop} (hI : Inv q o sv E) (hS : ∀ (nf : Nat) (h : CS) (N G : ES), XR q nf (vw (o + 1) E) h N G → SimQ wc (fun Z => wm (ms Z h N G)) ()) : TopQ o E wc wm := by
  obtain ⟨⟨nf, h, N, G, a1, a2, a3⟩, -⟩ := hI
  obtain ⟨r, s1, s2⟩ := hS nf h N G a1
  refine ⟨r, s1, fun K hK => ?_⟩
  have := s2 (vw (o + 56) E) K hK
  dsimp only at this
  rw [ms_self a3] at this
  exact this
theorem top_count {q o : Nat} {sv : Nat → Option Nat} {E : ES} (hI : Inv q o sv E) (p : Int32) : TopQ o E (wp_X4_count o E p) (fun M => wp_X5_count M p) := by
  obtain ⟨⟨nf, h, N, G, a1, a2, a3⟩, ⟨n, n1, n2, n3, -⟩, -⟩ := hI
  obtain ⟨r, s1, s2⟩ := count_sim (M := vw (o + 56) E) a1 p (n2.trans n3.symm)
  refine ⟨r, s1, fun K hK => ?_⟩
  have := s2 K hK
  rw [ms_self a3] at this
  exact this
theorem top_put {q o : Nat} {sv : Nat → Option Nat} {E : ES} (hI : Inv q o sv E) (p : Int64) : Top q o sv (wp_X4_put o E p) (fun M => wp_X5_put M p) := by
  have hI0 := hI
  obtain ⟨⟨nf, h, N, G, a1, a2, a3⟩, b, c, d, e⟩ := hI
  obtain ⟨r, P', M', s1, s2, s3, s4⟩ := x_put b p
  refine ⟨r, put 2 (o + 54) P' E, M', fun K hK => s1 _ fun X3 e3 => by rw [e3]; exact hK, fun K hK => by rw [vp56c]; exact s2 K hK, Inv_mk (X' := vw (o + 1) E) hI0 (Nat.le_refl q) (fun k hk => putOff (Or.inl (by omega))) a1 a2 ((s4 1 (by decide) (by decide)).trans a3) ?_ ?_ (fun a ha => putOff (Or.inr (by omega))) (s4 3 (by decide) (by decide)) (s4 4 (by decide) (by decide))⟩
  · exact PD_ext s3 (putAt (n := 2) (o := o + 54) (k := 0) (by decide)) (putAt (n := 2) (o := o + 54) (k := 1) (by decide)) rfl rfl
  · rw [putOff (Or.inl (by omega))]; exact c
theorem top_wipe {q o : Nat} {sv : Nat → Option Nat} {E : ES} (hI : Inv q o sv E) : Top q o sv (wp_X4_wipe o E) (fun M => wp_X5_wipe M) := by
  have hI0 := hI
  obtain ⟨⟨nf, h, N, G, a1, a2, a3⟩, ⟨n, n1, n2, n3, n4⟩, c, d, e⟩ := hI
  have n2' : E (o + 54) 1 = nI n := n2
  refine ⟨nI n, va_up E (o + 54) (upd (E (o + 54)) 1 0), va_up (vw (o + 56) E) 0 (upd (vw (o + 56) E 0) 5 0), fun K hK v ev X2 e2 => by rw [ev, e2, n2']; exact hK, fun K hK v ev X2 e2 => ?_, Inv_mk (X' := vw (o + 1) E) hI0 (Nat.le_refl q) (fun k hk => vuN (by omega)) a1 a2 (by rw [vuN (by decide)]; exact a3) ?_ ?_ (fun a ha => vuN (by omega)) (by rw [vuN (by decide)]; rfl) (by rw [vuN (by decide)]; rfl)⟩
  · have ev2 : vw (o + 56) (va_up E (o + 54) (upd (E (o + 54)) 1 0)) = vw (o + 56) E := funext fun k => vuN (by omega)
    rw [ev, e2, ev2, n3]
    exact hK
  · refine ⟨0, by decide, ?_, ?_, fun k hk => absurd hk (by omega)⟩
    · show va_up E (o + 54) (upd (E (o + 54)) 1 0) (o + 54 + 0) 1 = 0
      rw [Nat.add_zero, vuS]; simp [updA]
    · rw [vuS]; simp [updA, nI_0]
  · rw [vuN (by omega)]; exact c
theorem top_fault {q o : Nat} {sv : Nat → Option Nat} {E : ES} (hI : Inv q o sv E) : ∃ (r : Int32) (M2 : ES), (∀ K : Int32 → Prop, K r → wp_X4_fault o E K) ∧ (∀ K : Int32 → ES → Prop, K r M2 → wp_X5_fault (vw (o + 56) E) K) ∧ Inv q o sv (put 7 (o + 56) M2 E) := by
  have hI0 := hI
  obtain ⟨⟨nf, h, N, G, a1, a2, a3⟩, b, c, d, e⟩ := hI
  obtain ⟨r, n, s, w, a, T, -, -, -, -, fc, fm, -⟩ := x_fault b
  refine ⟨r, _, fc, fm, Inv_mk (X' := vw (o + 1) E) hI0 (Nat.le_refl q) (fun k hk => rfl) a1 a2 ((sm_k _ _ _ _ _ (by decide) (by decide)).trans a3) (PD_ext b rfl rfl (sm05 _ _ _ _ _) (sm_k _ _ _ _ _ (by decide) (by decide))) c (fun a ha => rfl) (sm_k _ _ _ _ _ (by decide) (by decide)) (sm_k _ _ _ _ _ (by decide) (by decide))⟩
theorem top_carry {q o : Nat} {sv : Nat → Option Nat} {E : ES} (hI : Inv q o sv E) (hq : q + 30 < 2 ^ 30) : Top (q + 30) o sv (wp_X4_carryOut o E) (fun M => wp_X5_carryOut M) := by
  have hI0 := hI
  obtain ⟨⟨nf, h, N, G, a1, a2, a3⟩, b, c, d, e⟩ := hI
  obtain ⟨r, X', F, h', N', G', M2, c1, c2, c3, c4, c5, c6, c7⟩ := x_carry a1 a2 hq a3 b
  have hF : (∀ k, ¬ k = o + 54 → F k = put 26 (o + 1) X' E k) ∧ PD (vw (o + 54) F) M2 := by
    rcases c5 with ⟨rfl, m0⟩ | ⟨rfl, m0⟩
    · exact ⟨fun _ _ => rfl, by rw [vp54]; exact PD_ext b rfl rfl m0 (c4 5 (by decide) (by decide) (by decide))⟩
    · refine ⟨fun k hk => vuN hk, 0, by decide, ?_, by rw [m0]; exact nI_0.symm, fun k hk => absurd hk (by omega)⟩
      show va_up (put 26 (o + 1) X' E) (o + 54) _ (o + 54 + 0) 1 = 0
      rw [Nat.add_zero, vuS]; simp [updA]
  refine ⟨r, F, M2, c6, fun K hK => ?_, Inv_mk (X' := X') hI0 (by omega) (fun k hk => ?_) c1 c2 c3 hF.2 ?_ (fun a ha => ?_) (c4 3 (by decide) (by decide) (by decide)) (c4 4 (by decide) (by decide) (by decide))⟩
  · have ev : vw (o + 56) F = vw (o + 56) E := funext fun k => (hF.1 _ (by omega)).trans (putOff (Or.inr (by omega)))
    rw [ev]; exact c7 K hK
  · rw [hF.1 _ (by omega)]; exact putAt hk
  · rw [hF.1 _ (by omega), putOff (Or.inr (by omega))]; exact c
  · rw [hF.1 _ (by omega), putOff (Or.inr (by omega))]
