-- ===== what the relation reads =====
def sameX (X X' : ES) : Prop := X' 3 0 = X 3 0 ∧ (∀ k, 5 ≤ k → k < 16 → X' 0 k = X 0 k) ∧ (∀ k, k < 5 → X' 5 k = X 5 k) ∧ (∀ i, i < 16 → ∀ k, k < 9 → X' (6 + i) k = X (6 + i) k) ∧ ∀ f, f < 4 → ∀ k, k < 10 → X' (22 + f) k = X (22 + f) k
def sameM (h h' : CS) (N N' G G' : ES) : Prop := (∀ k, k < 17 → h' k = h k) ∧ (∀ i, i < 16 → ∀ w, w < 11 → N' i w = N i w) ∧ ∀ f, f < 4 → ∀ w, w < 10 → G' f w = G f w
theorem LR_congr {q : Nat} {L L' N N' : CS} (hL : ∀ k, k < 9 → L' k = L k) (hN : ∀ w, w < 11 → N' w = N w) (h : LR q L N) : LR q L' N' := by
  obtain ⟨a, ds, ⟨d1, d2, d3, d4, d5⟩, s⟩ := h
  refine ⟨?_, ds, ⟨d1, d2, ?_, fun k v hk => ?_, ?_⟩, ?_⟩
  · rw [hL 0 (by decide), hL 1 (by decide), hL 2 (by decide), hL 3 (by decide), hL 5 (by decide), hN 0 (by decide), hN 1 (by decide), hN 2 (by decide), hN 3 (by decide), hN 10 (by decide)]
    exact a
  · rw [hN 10 (by decide)]; exact d3
  · have : k < ds.length := (List.getElem?_eq_some_iff.mp hk).1
    rw [hN (6 + k) (by omega)]; exact d4 k v hk
  · rw [hL 4 (by decide)]; exact d5
  · simp only [LSt, hL 6 (by decide), hL 7 (by decide), hL 8 (by decide), hN 0 (by decide), hN 1 (by decide), hN 4 (by decide), hN 5 (by decide)]
    exact s
theorem FR_congr {F F' G G' : CS} (hF : ∀ k, k < 10 → F' k = F k) (hG : ∀ w, w < 10 → G' w = G w) (h : FR F G) : FR F' G' := by
  simp only [FR, FM, hF 0 (by decide), hF 1 (by decide), hF 2 (by decide), hF 3 (by decide), hF 4 (by decide), hF 5 (by decide), hF 6 (by decide), hF 7 (by decide), hF 8 (by decide), hF 9 (by decide), hG 0 (by decide), hG 1 (by decide), hG 2 (by decide), hG 3 (by decide), hG 4 (by decide), hG 5 (by decide), hG 6 (by decide), hG 7 (by decide), hG 8 (by decide), hG 9 (by decide)]
  exact h
theorem HR_congr {q nf : Nat} {X X' : ES} {h h' : CS} (h3 : X' 3 0 = X 3 0) (h0 : ∀ k, 5 ≤ k → k < 16 → X' 0 k = X 0 k) (h5 : ∀ k, k < 5 → X' 5 k = X 5 k) (hh : ∀ k, k < 17 → h' k = h k) (hR : HR q nf X h) : HR q nf X' h' := by
  have a5 := fun k (p : 5 ≤ k) (z : k < 16) => h0 k p z
  simp only [HR, HRr, h3, h0 5 (by decide) (by decide), h0 6 (by decide) (by decide), h0 7 (by decide) (by decide), h0 8 (by decide) (by decide), h0 9 (by decide) (by decide), h0 10 (by decide) (by decide), h0 11 (by decide) (by decide), h0 12 (by decide) (by decide), h0 13 (by decide) (by decide), h0 14 (by decide) (by decide), h0 15 (by decide) (by decide), h5 0 (by decide), h5 1 (by decide), h5 2 (by decide), h5 3 (by decide), h5 4 (by decide), hh 0 (by decide), hh 1 (by decide), hh 2 (by decide), hh 3 (by decide), hh 4 (by decide), hh 5 (by decide), hh 6 (by decide), hh 7 (by decide), hh 8 (by decide), hh 9 (by decide), hh 10 (by decide), hh 11 (by decide), hh 12 (by decide), hh 13 (by decide), hh 14 (by decide), hh 15 (by decide), hh 16 (by decide)]
  exact hR
theorem XR_congr {q nf : Nat} {X X' : ES} {h h' : CS} {N N' G G' : ES} (hx : sameX X X') (hm : sameM h h' N N' G G') (hR : XR q nf X h N G) : XR q nf X' h' N' G' := by
  obtain ⟨x3, x0, x5, xl, xf⟩ := hx
  obtain ⟨m1, m2, m3⟩ := hm
  obtain ⟨r1, r2, r3, r4, r5, r6, r7⟩ := hR
  refine ⟨HR_congr x3 x0 x5 m1 r1, fun i hi => LR_congr (xl i hi) (m2 i hi) (r2 i hi), fun f hf => FR_congr (xf f hf) (m3 f hf) (r3 f hf), fun f hf hm => ?_, fun f hf hm => ?_, fun i hi => ?_, fun f h1 h2 => ?_⟩
  · rw [xf f hf 0 (by decide)] at hm ⊢
    obtain ⟨c, c1, c2, c3, c4⟩ := r4 f hf hm
    exact ⟨c, c1, by rw [xf f hf 2 (by decide)]; exact c2, by rw [xl c c1 6 (by decide)]; exact c3, by rw [xl c c1 0 (by decide)]; exact c4⟩
  · rw [xf f hf 0 (by decide)] at hm ⊢
    obtain ⟨c, c1, c2, c3, c4⟩ := r5 f hf hm
    exact ⟨c, c1, by rw [xf f hf 9 (by decide)]; exact c2, by rw [xl c c1 6 (by decide)]; exact c3, by rw [xl c c1 0 (by decide)]; exact c4⟩
  · rcases r6 i hi with z | ⟨f, f1, f2, f3, f4⟩
    · left; rw [xl i hi 6 (by decide), xl i hi 0 (by decide)]; exact z
    · right
      exact ⟨f, f1, by rw [xl i hi 6 (by decide)]; exact f2, by rw [xf f f1 0 (by decide)]; exact f3, by rw [xf f f1 0 (by decide), xf f f1 2 (by decide), xf f f1 9 (by decide)]; exact f4⟩
  · rw [xf f h2 0 (by decide)]; exact r7 f h1 h2
theorem sameM_refl (h : CS) (N G : ES) : sameM h h N N G G := ⟨fun _ _ => rfl, fun _ _ _ _ => rfl, fun _ _ _ _ => rfl⟩
theorem sameX_of {X X' : ES} (h : ∀ k, k < 26 → X' k = X k) : sameX X X' := ⟨by rw [h 3 (by decide)], fun k _ _ => by rw [h 0 (by decide)], fun k _ => by rw [h 5 (by decide)], fun i hi k _ => by rw [h (6 + i) (by omega)], fun f hf k _ => by rw [h (22 + f) (by omega)]⟩
theorem flat_ext {A B : CS} {h : CS} {N G : ES} (hB : B = flat h N G) (he : ∀ k, k < 233 → A k = B k) : ∃ (h' : CS) (N' G' : ES), A = flat h' N' G' ∧ sameM h h' N N' G G' := by
  refine ⟨A, fun i w => A (17 + 11 * i + w), fun f w => A (193 + 10 * f + w), ?_, fun k hk => ?_, fun i hi w hw => ?_, fun f hf w hw => ?_⟩
  · have := ms_of (fun _ => A)
    have := congrFun this 1
    rw [ms_1] at this
    exact this
  · rw [he k (by omega), hB, flat_h hk]
  · show A (17 + 11 * i + w) = N i w
    rw [he _ (by omega), hB, flat_l hi hw]
  · show A (193 + 10 * f + w) = G f w
    rw [he _ (by omega), hB, flat_f hw]
-- ===== copies =====
theorem cl_loop {Y : ES} (hY : ∀ t, t < 16 → Y (6 + t) 1 = 0 ∨ Y (6 + t) 1 = 1) : ∀ (j i : Nat) (X : ES), i + j = 16 → ∃ X' : ES, (∀ (K : ES → Prop) (Kx : Int32 → ES → Prop), (∀ y, Kx y X') → wpl_X0_copyFrom_2 Y K Kx (j + 1) (nI i) X) ∧ (∀ k, (∀ t, i ≤ t → t < 16 → ¬ k = 6 + t) → X' k = X k) ∧ ∀ t, i ≤ t → t < 16 → ∀ k, k < 9 → X' (6 + t) k = Y (6 + t) k
  | 0, i, X, he => by
    have e : i = 16 := by omega
    subst e
    refine ⟨X, fun K Kx hK => ?_, fun k _ => rfl, fun t h1 h2 => absurd h1 (by omega)⟩
    rw [wpl_X0_copyFrom_2]
    exact ky (nI_le (a := 16) (b := 16) (Nat.le_refl _) (by decide)) (hK _)
  | j + 1, i, X, he => by
    have hi : i < 16 := by omega
    have hlt : ¬ (16 : Int32) ≤ nI i := nI_ge (b := 16) hi (by decide)
    obtain ⟨X', a, b, c⟩ := cl_loop hY j (i + 1) (va_up X (6 + i) (upd (upd (upd (upd (upd (upd (upd (upd (upd (X (6 + i)) 0 (Y (6 + i) 0)) 1 (Y (6 + i) 1)) 2 (Y (6 + i) 2)) 3 (Y (6 + i) 3)) 4 (Y (6 + i) 4)) 5 (Y (6 + i) 5)) 6 (Y (6 + i) 6)) 7 (Y (6 + i) 7)) 8 (Y (6 + i) 8))) (by omega)
    refine ⟨X', fun K Kx hK => ?_, fun k hk => ?_, fun t h1 h2 => ?_⟩
    · rw [wpl_X0_copyFrom_2, lix_nI hi]
      refine kn hlt ?_
      simp only [wp_X2_copyFrom, forall_eq, nI_1]
      exact ⟨hY i hi, a K Kx hK⟩
    · rw [b k (fun t h1 h2 => hk t (by omega) h2), vuN (hk i (Nat.le_refl _) hi)]
    · by_cases e : t = i
      · subst e
        intro k hk
        rw [b (6 + t) (fun u h1 h2 => by omega), vuS]
        rcases (by omega : k = 0 ∨ k = 1 ∨ k = 2 ∨ k = 3 ∨ k = 4 ∨ k = 5 ∨ k = 6 ∨ k = 7 ∨ k = 8) with z | z | z | z | z | z | z | z | z <;> subst z <;> simp [updA]
      · exact c t (by omega) h2
theorem cf_loop {Y : ES} : ∀ (j i : Nat) (X : ES), i + j = 4 → ∃ X' : ES, (∀ (K : ES → Prop) (Kx : Int32 → ES → Prop), (∀ y, Kx y X') → wpl_X0_copyFrom_29 Y K Kx (j + 1) (nI i) X) ∧ (∀ k, (∀ t, i ≤ t → t < 4 → ¬ k = 22 + t) → X' k = X k) ∧ ∀ t, i ≤ t → t < 4 → ∀ k, k < 10 → X' (22 + t) k = Y (22 + t) k
  | 0, i, X, he => by
    have e : i = 4 := by omega
    subst e
    refine ⟨X, fun K Kx hK => ?_, fun k _ => rfl, fun t h1 h2 => absurd h1 (by omega)⟩
    rw [wpl_X0_copyFrom_29]
    exact ky (nI_le (a := 4) (b := 4) (Nat.le_refl _) (by decide)) (hK _)
  | j + 1, i, X, he => by
    have hi : i < 4 := by omega
    have hlt : ¬ (4 : Int32) ≤ nI i := nI_ge (b := 4) hi (by decide)
    obtain ⟨X', a, b, c⟩ := cf_loop j (i + 1) (va_up X (22 + i) (upd (upd (upd (upd (upd (upd (upd (upd (upd (upd (X (22 + i)) 0 (Y (22 + i) 0)) 1 (Y (22 + i) 1)) 2 (Y (22 + i) 2)) 3 (Y (22 + i) 3)) 4 (Y (22 + i) 4)) 5 (Y (22 + i) 5)) 6 (Y (22 + i) 6)) 7 (Y (22 + i) 7)) 8 (Y (22 + i) 8)) 9 (Y (22 + i) 9))) (by omega)
    refine ⟨X', fun K Kx hK => ?_, fun k hk => ?_, fun t h1 h2 => ?_⟩
    · rw [wpl_X0_copyFrom_29, fix_nI hi]
      refine kn hlt ?_
      simp only [wp_X1_copyFrom, forall_eq, nI_1]
      exact a K Kx hK
    · rw [b k (fun t h1 h2 => hk t (by omega) h2), vuN (hk i (Nat.le_refl _) hi)]
    · by_cases e : t = i
      · subst e
        intro k hk
        rw [b (22 + t) (fun u h1 h2 => by omega), vuS]
        rcases (by omega : k = 0 ∨ k = 1 ∨ k = 2 ∨ k = 3 ∨ k = 4 ∨ k = 5 ∨ k = 6 ∨ k = 7 ∨ k = 8 ∨ k = 9) with z | z | z | z | z | z | z | z | z | z <;> subst z <;> simp [updA]
      · exact c t (by omega) h2
theorem cs_loop {Y : ES} : ∀ (j i : Nat) (X : ES), i + j = 5 → ∃ L : CS, (∀ (K : ES → Prop) (Kx : Int32 → ES → Prop), (∀ y, Kx y (va_up X 5 L)) → wpl_X0_copyFrom_55 Y K Kx (j + 1) (nI i) X) ∧ (∀ k, k < i → L k = X 5 k) ∧ ∀ k, i ≤ k → k < 5 → L k = Y 5 k
  | 0, i, X, he => by
    have e : i = 5 := by omega
    subst e
    refine ⟨X 5, fun K Kx hK => ?_, fun k _ => rfl, fun k h1 h2 => absurd h1 (by omega)⟩
    rw [wpl_X0_copyFrom_55]
    refine ky (nI_le (a := 5) (b := 5) (Nat.le_refl _) (by decide)) ?_
    have := hK (nI 5)
    rw [vuSelf] at this
    exact this
  | j + 1, i, X, he => by
    have hi : i < 5 := by omega
    have hlt : ¬ (5 : Int32) ≤ nI i := nI_ge (b := 5) hi (by decide)
    obtain ⟨L, a, b, c⟩ := cs_loop j (i + 1) (va_up X 5 (upd (X 5) i (Y 5 i))) (by omega)
    rw [vuS] at b
    refine ⟨L, fun K Kx hK => ?_, fun k hk => ?_, fun k h1 h2 => ?_⟩
    · rw [wpl_X0_copyFrom_55]
      refine kn hlt ?_
      rw [wp_X0_settingAt, nI_clamp (by omega)]
      refine kn (nI_pos (by omega)) (kn hlt ⟨nIn (N := 5) hi (by decide), nIn (N := 5) hi (by decide), fun X4 e4 v ev => ?_⟩)
      rw [e4, ev, nI_1]
      refine a K Kx fun y => ?_
      rw [vuU]; exact hK y
    · rw [b k (by omega), updA, if_neg (by omega)]
    · by_cases e : k = i
      · subst e; rw [b k (by omega), updA, if_pos rfl]
      · exact c k (by omega) h2
theorem copy_q {X Y : ES} (hY : ∀ t, t < 16 → Y (6 + t) 1 = 0 ∨ Y (6 + t) 1 = 1) (h30 : X 3 0 = Y 3 0) : ∃ X' : ES, (∀ K : ES → Prop, K X' → wp_X0_copyFrom X Y K) ∧ sameX Y X' := by
  obtain ⟨X1, a1, b1, c1⟩ := cl_loop hY 16 0 X rfl
  obtain ⟨X2, a2, b2, c2⟩ := cf_loop (Y := Y) 4 0 X1 rfl
  obtain ⟨L, a3, -, c3⟩ := cs_loop (Y := Y) 5 0 X2 rfl
  refine ⟨va_up (va_up X2 5 L) 0 (upd (upd (upd (upd (upd (upd (upd (upd (upd (upd (upd (X2 0) 5 (Y 0 5)) 6 (Y 0 6)) 7 (Y 0 7)) 8 (Y 0 8)) 9 (Y 0 9)) 10 (Y 0 10)) 11 (Y 0 11)) 12 (Y 0 12)) 13 (Y 0 13)) 14 (Y 0 14)) 15 (Y 0 15)), fun K hK => ⟨17, a1 _ _ fun _ => ⟨5, a2 _ _ fun _ => ⟨6, a3 _ _ fun _ => ?_⟩⟩⟩, ?_, ?_, ?_, ?_, ?_⟩
  · simp only [forall_eq, vuS, vuU, vuN (by decide : (0 : Nat) ≠ 5)]
    exact hK
  · rw [vuN (by decide), vuN (by decide), b2 3 (fun t h1 h2 => by omega), b1 3 (fun t h1 h2 => by omega)]
    exact h30
  · intro k h1 h2
    rw [vuS]
    rcases (by omega : k = 5 ∨ k = 6 ∨ k = 7 ∨ k = 8 ∨ k = 9 ∨ k = 10 ∨ k = 11 ∨ k = 12 ∨ k = 13 ∨ k = 14 ∨ k = 15) with z | z | z | z | z | z | z | z | z | z | z <;> subst z <;> simp [updA]
  · intro k hk
    rw [vuN (by decide), vuS]; exact c3 k (by omega) hk
  · intro i hi k hk
    rw [vuN (by omega), vuN (by omega), b2 (6 + i) (fun t h1 h2 => by omega)]
    exact c1 i (by omega) hi k hk
  · intro f hf k hk
    rw [vuN (by omega), vuN (by omega)]
    exact c2 f (by omega) hf k hk
theorem XR_lift01 {q nf : Nat} {X : ES} {h : CS} {N G : ES} (hR : XR q nf X h N G) : ∀ t, t < 16 → X (6 + t) 1 = 0 ∨ X (6 + t) 1 = 1 := fun t ht => by
  rw [(hR.2.1 t ht).1.2.1]; exact lifted01 (hR.2.1 t ht)
