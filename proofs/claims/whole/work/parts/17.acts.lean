-- ===== lift, hang, dial =====
def SimI (q' nf : Nat) (wc : (Int32 → ES → Prop) → Prop) (wm : ES → (Int32 → ES → Prop) → Prop) (t0 : Int32) (_ _ : Unit) : Prop := ∃ (r : Int32) (X' : ES) (h' : CS) (N' G' : ES), (∀ K : Int32 → ES → Prop, K r X' → wc K) ∧ (∀ (Z : ES) (K : Int32 → ES → Prop), K r (ms Z h' N' G') → wm Z K) ∧ XR q' nf X' h' N' G' ∧ h' 0 = t0
theorem simJ {q' nf : Nat} {wc : (Int32 → ES → Prop) → Prop} {wm : ES → (Int32 → ES → Prop) → Prop} {r : Int32} {X' : ES} {h' : CS} {N' G' : ES} (a : ∀ K : Int32 → ES → Prop, K r X' → wc K) (b : ∀ (Z : ES) (K : Int32 → ES → Prop), K r (ms Z h' N' G') → wm Z K) {t0 : Int32} (c : XR q' nf X' h' N' G') (d : h' 0 = t0) : SimI q' nf wc wm t0 () () := ⟨r, X', h', N', G', a, b, c, d⟩
/-- the same, and more that is known of the exchange then -/
def SimD (q' nf : Nat) (wc : (Int32 → ES → Prop) → Prop) (wm : ES → (Int32 → ES → Prop) → Prop) (t0 : Int32) (P : ES → Prop) : Prop := ∃ (r : Int32) (X' : ES) (h' : CS) (N' G' : ES), (∀ K : Int32 → ES → Prop, K r X' → wc K) ∧ (∀ (Z : ES) (K : Int32 → ES → Prop), K r (ms Z h' N' G') → wm Z K) ∧ XR q' nf X' h' N' G' ∧ h' 0 = t0 ∧ P X'
theorem simD {q' nf : Nat} {wc : (Int32 → ES → Prop) → Prop} {wm : ES → (Int32 → ES → Prop) → Prop} {P : ES → Prop} {r : Int32} {X' : ES} {h' : CS} {N' G' : ES} (a : ∀ K : Int32 → ES → Prop, K r X' → wc K) (b : ∀ (Z : ES) (K : Int32 → ES → Prop), K r (ms Z h' N' G') → wm Z K) {t0 : Int32} (c : XR q' nf X' h' N' G') (e : h' 0 = t0) (d : P X') : SimD q' nf wc wm t0 P := ⟨r, X', h', N', G', a, b, c, e, d⟩
theorem SimD.toI {q' nf : Nat} {wc : (Int32 → ES → Prop) → Prop} {wm : ES → (Int32 → ES → Prop) → Prop} {P : ES → Prop} {t0 : Int32} (h : SimD q' nf wc wm t0 P) : SimI q' nf wc wm t0 () () := by
  obtain ⟨r, X', h', N', G', a, b, c, d, -⟩ := h
  exact ⟨r, X', h', N', G', a, b, c, d⟩
theorem isLine_q {i : Nat} (hi : i < 16) {K : Int32 → Prop} (hK : K 1) : wp_X5_isLine (nI i) K := in_yes (nI_pos (by omega)) (nI_nlt (b := i) (a := 15) (by omega) (by decide)) hK
theorem vuSw {X : ES} {a b : Nat} {u v w : CS} (h : ¬ a = b) : va_up (va_up (va_up X a u) b v) a w = va_up (va_up X b v) a w := by
  funext k
  by_cases h1 : k = a
  · subst h1; rw [vuS, vuS]
  · rw [vuN h1, vuN h1]
    by_cases h2 : k = b
    · subst h2; rw [vuS, vuS]
    · rw [vuN h2, vuN h2, vuN h1]
theorem HR_lift {q nf a : Nat} {T H S h : CS} (r : HRr q nf T H S h) (ea : h 4 = nI a) : HRr (q + 1) nf T (upd H 9 (nI (a + 1))) S (upd (upd h 4 (nI (a + 1))) 10 (nI (a + 1))) := by
  simp only [HRr, updA] at r ⊢
  obtain ⟨a1, a2, a3, a4, a5, ⟨b, b1, b2, b3, b4⟩, a7, a8, a9⟩ := r
  refine ⟨a1, by simpa using a2, by simpa using a3, by simpa using a4, by simpa using a5, ?_, by simpa using a7, by simpa using a8, by simpa using a9⟩
  have h1 : nI a = nI b := ea.symm.trans b2
  refine ⟨b + 1, by omega, ?_, ?_, ?_⟩ <;> simp [← nI_1, h1]
theorem HR_q {q q' nf : Nat} {T H S h : CS} (hq : q ≤ q') (r : HRr q nf T H S h) : HRr q' nf T H S h := by
  obtain ⟨a1, a2, a3, a4, a5, ⟨b, b1, b2⟩, a7⟩ := r
  exact ⟨a1, a2, a3, a4, a5, ⟨b, by omega, b2⟩, a7⟩
theorem XR_q {q q' nf : Nat} {X : ES} {h : CS} {N G : ES} (hq : q ≤ q') (hR : XR q nf X h N G) : XR q' nf X h N G := ⟨HR_q hq hR.1, fun i hi => LR_mono hq (hR.2.1 i hi), hR.2.2⟩
set_option maxHeartbeats 2000000 in
theorem sim_liftP {q nf i : Nat} {X : ES} {h : CS} {N G : ES} (hR : XR q nf X h N G) (hi : i < 16) : SimD (q + 1) nf (fun K => wp_X0_liftLine X (nI i) K) (fun Z K => wp_X5_lift (ms Z h N G) (nI i) K) (h 0) (fun X' => X (6 + i) 0 = 0 → X' (6 + i) 0 = 1) := by
  obtain ⟨⟨l0, l1, l2, l3, l5⟩, ds, hD, hS⟩ := hR.2.1 i hi
  have n4 : ¬ (6 + i = 0) := by omega
  have n6 : ¬ (0 = 6 + i) := by omega
  by_cases e1 : X (6 + i) 1 = 0
  · have z1 : N i 1 = 0 := l1.symm.trans e1
    by_cases e0 : X (6 + i) 0 = 0
    · have z0 : N i 0 = 0 := l0.symm.trans e0
      simp [LSt, z0] at hS
      obtain ⟨s1, rfl, s3, s4⟩ := hS
      obtain ⟨a, a1, a2, a3, a4⟩ := hR.1.2.2.2.2.2.1
      apply simD (r := 1)
      · intro K hK
        simp only [wp_X0_liftLine, lix_nI hi, forall_eq, vuS, vuU, vuN n4, vuN n6]
        simp [updA, e1, e0, a4, nI_1]
        rw [vuSw n4]
        exact hK
      · intro Z K hK
        refine isLine_q hi ?_
        simp only [of_1 hi, z1, lay_1 hi, of_0 hi, lay_0 hi, lay_3 hi, lay_4 hi, vuS, vuU, hd_4, hu_4, cnt_0]
        simp [updA, z0, a2, a3, nI_1]
        simp only [lay_0 hi, lay_3 hi, lay_4 hi, hd_4, hu_4, cnt_0, of_0 hi, vpl_4, vuS, vuU]
        simp [updA, a2, a3, nI_1]
        exact hK
      · refine XR_ln hR hi (Nat.le_succ q) (vuS _ _ _) (fun k k1 k2 => ?_) rfl ?_ ?_ (by simp [updA]) (Or.inr ⟨s4, by simp [updA]⟩)
        · rw [vuN k1, vuN k2]
        · rw [vuN n6, vuS]; exact HR_lift hR.1 a2
        · exact ⟨by simp [updA, l0, l1, l2, l3, l5], [], LD_keep hD (by simp [updA]) (by simp [updA]) (by simp [updA]) (by simp [updA]) (by simp [updA]) (by simp [updA]), by
            simp [LSt, updA, s1, s3]
            exact ⟨a, by omega, rfl, rfl⟩⟩
      · simp [updA]
      · intro _
        rw [vuS]; simp [updA]
    · have z0 : ¬ N i 0 = 0 := fun w => e0 (l0.trans w)
      have hX : LSt q (upd (X (6 + i)) 1 1) (upd (N i) 1 1) ds := by
        rcases hS with h1 | h1 | h1 | h1 | h1 | h1
        · exact absurd h1.1 z0
        · exact absurd (z1.symm.trans h1.2.1) (by decide)
        · exact absurd (z1.symm.trans h1.2.1) (by decide)
        · exact Or.inr (Or.inr (Or.inr (Or.inl ⟨h1.1, Or.inr (by simp [updA]), h1.2.2.1, by simp [updA, h1.2.2.2]⟩)))
        · exact absurd (z1.symm.trans h1.2.1) (by decide)
        · exact absurd (z1.symm.trans h1.2.1) (by decide)
      apply simD (r := X (6 + i) 0)
      · intro K hK
        simp only [wp_X0_liftLine, lix_nI hi, forall_eq, vuS, vuU]
        simp [updA, e1, e0]
        exact hK
      · intro Z K hK
        refine isLine_q hi ?_
        simp only [of_1 hi, z1, lay_1 hi, of_0 hi, vuS, vuU]
        simp [updA, z0]
        rw [← l0]
        exact hK
      · refine XR_ln hR hi (Nat.le_succ q) (vuS _ _ _) (fun k k1 k2 => vuN k1) rfl ?_ ?_ (by simp [updA]) (Or.inl (by simp [updA]))
        · rw [vuN n6]; exact HR_q (Nat.le_succ q) hR.1
        · exact LR_mono (Nat.le_succ q) ⟨by simp [updA, l0, l1, l2, l3, l5], ds, LD_keep hD (by simp [updA]) (by simp [updA]) (by simp [updA]) (by simp [updA]) (by simp [updA]) (by simp [updA]), hX⟩
      · rfl
      · exact fun z => absurd z e0
  · have z1 : N i 1 = 1 := by
      rcases hS with h1 | h1 | h1 | h1 | h1 | h1
      · exact absurd (l1.trans h1.2.1) e1
      · exact h1.2.1
      · exact h1.2.1
      · rcases h1.2.1 with w | w
        · exact absurd (l1.trans w) e1
        · exact w
      · exact h1.2.1
      · exact h1.2.1
    apply simD (r := -5) (X' := X) (h' := h) (N' := N) (G' := G)
    · intro K hK
      simp only [wp_X0_liftLine, lix_nI hi]
      simp [e1]
      exact hK
    · intro Z K hK
      refine isLine_q hi ?_
      simp only [of_1 hi, z1]
      simp
      exact hK
    · exact XR_q (Nat.le_succ q) hR
    · rfl
    · intro z
      have z0 : N i 0 = 0 := l0.symm.trans z
      simp [LSt, z0] at hS
      exact absurd (l1.trans hS.1) e1
theorem sim_lift {q nf i : Nat} {X : ES} {h : CS} {N G : ES} (hR : XR q nf X h N G) (hi : i < 16) : SimI (q + 1) nf (fun K => wp_X0_liftLine X (nI i) K) (fun Z K => wp_X5_lift (ms Z h N G) (nI i) K) (h 0) () () := (sim_liftP hR hi).toI
