-- ===== making, setting, copying, asking ahead =====
theorem nIn {n N : Nat} (h : n < N) (hN : N < 2 ^ 31) : vp_in (nI n) N := vp_in_nI h hN
theorem ky {P A B : Prop} (p : P) (h : A) : (P → A) ∧ (¬ P → B) := ⟨fun _ => h, fun z => absurd p z⟩
theorem kn {P A B : Prop} (p : ¬ P) (h : B) : (P → A) ∧ (¬ P → B) := ⟨fun z => absurd z p, fun _ => h⟩
theorem lix_nI {c : Nat} (h : c < 16) : lix (nI c) = 6 + c := by
  rw [← en_nat, lix_en (by omega) (by omega), Int.toNat_natCast]
theorem fix_nI {c : Nat} (h : c < 4) : fix (nI c) = 22 + c := by
  rw [← en_nat, fix_en (by omega) (by omega), Int.toNat_natCast]
def sameX (X X' : ES) : Prop := X' 3 0 = X 3 0 ∧ (∀ k, 5 ≤ k → k < 16 → X' 0 k = X 0 k) ∧ (∀ k, k < 5 → X' 5 k = X 5 k) ∧ (∀ i, i < 16 → ∀ k, k < 9 → X' (6 + i) k = X (6 + i) k) ∧ ∀ f, f < 4 → ∀ k, k < 10 → X' (22 + f) k = X (22 + f) k
def mstA : CS := fun k => if k = 2 ∨ k = 3 then 100 else 200
def wp_X4_set (o : Nat) (E0 : ES) (p1 : Int32) (p2 : Int32) (K : Int32 → ES → Prop) : Prop := wp_X4_isWithin p1 0 4 (fun r_1 => (r_1 = 0 → (K (-2) E0)) ∧ (¬ r_1 = 0 → (wp_X4_isWithin p2 1 (mstA p1.toNatClampNeg) (fun r_4 => (r_4 = 0 → (K (-2) E0)) ∧ (¬ r_4 = 0 → (wp_X0_changeSetting (vw (o + 1) E0) p1 p2 (fun r_7 Y_8 => ∀ X_9 : ES, X_9 = put 26 (o + 1) Y_8 E0 → (K r_7 X_9))))))))
-- ===== copies =====
theorem cl_loop {Y : ES} (hY : ∀ t, t < 16 → Y (6 + t) 1 = 0 ∨ Y (6 + t) 1 = 1) : ∀ (j i : Nat) (X : ES), i + j = 16 → ∃ X' : ES, (∀ (K : ES → Prop) (Kx : Int32 → ES → Prop), (∀ y, Kx y X') → wpl_X0_copyFrom_2 Y K Kx (j + 1) (nI i) X) ∧ (∀ k, (∀ t, i ≤ t → t < 16 → ¬ k = 6 + t) → X' k = X k) ∧ ∀ t, i ≤ t → t < 16 → ∀ k, k < 9 → X' (6 + t) k = Y (6 + t) k
  | 0, i, X, he => by
    have e : i = 16 := by omega
    subst e
    refine ⟨X, fun K Kx hK => ?_, fun k _ => rfl, fun t h1 h2 => absurd h1 (by omega)⟩
    rw [wpl_X0_copyFrom_2]
    exact ky (nI_le (a := 16) (b := 16) (Nat.le_refl _) (by decide)) (hK _)
  | j + 1, i, X, he => by
    have hi : i < 16 := by omega
    have hlt : ¬ (16 : Int32) ≤ nI i := nI_ge (b := 16) hi (by decide)
    obtain ⟨X', a, b, c⟩ := cl_loop hY j (i + 1) (va_up X (6 + i) (upd (upd (upd (upd (upd (upd (upd (upd (upd (X (6 + i)) 0 (Y (6 + i) 0)) 1 (Y (6 + i) 1)) 2 (Y (6 + i) 2)) 3 (Y (6 + i) 3)) 4 (Y (6 + i) 4)) 5 (Y (6 + i) 5)) 6 (Y (6 + i) 6)) 7 (Y (6 + i) 7)) 8 (Y (6 + i) 8))) (by omega)
    refine ⟨X', fun K Kx hK => ?_, fun k hk => ?_, fun t h1 h2 => ?_⟩
    · rw [wpl_X0_copyFrom_2, lix_nI hi]
      refine kn hlt ?_
      simp only [wp_X2_copyFrom, forall_eq, nI_1]
      exact ⟨hY i hi, a K Kx hK⟩
    · rw [b k (fun t h1 h2 => hk t (by omega) h2), vuN (hk i (Nat.le_refl _) hi)]
    · by_cases e : t = i
      · subst e
        intro k hk
        rw [b (6 + t) (fun u h1 h2 => by omega), vuS]
        rcases (by omega : k = 0 ∨ k = 1 ∨ k = 2 ∨ k = 3 ∨ k = 4 ∨ k = 5 ∨ k = 6 ∨ k = 7 ∨ k = 8) with z | z | z | z | z | z | z | z | z <;> subst z <;> simp [updA]
      · exact c t (by omega) h2
theorem cf_loop {Y : ES} : ∀ (j i : Nat) (X : ES), i + j = 4 → ∃ X' : ES, (∀ (K : ES → Prop) (Kx : Int32 → ES → Prop), (∀ y, Kx y X') → wpl_X0_copyFrom_29 Y K Kx (j + 1) (nI i) X) ∧ (∀ k, (∀ t, i ≤ t → t < 4 → ¬ k = 22 + t) → X' k = X k) ∧ ∀ t, i ≤ t → t < 4 → ∀ k, k < 10 → X' (22 + t) k = Y (22 + t) k
  | 0, i, X, he => by
    have e : i = 4 := by omega
    subst e
    refine ⟨X, fun K Kx hK => ?_, fun k _ => rfl, fun t h1 h2 => absurd h1 (by omega)⟩
    rw [wpl_X0_copyFrom_29]
    exact ky (nI_le (a := 4) (b := 4) (Nat.le_refl _) (by decide)) (hK _)
  | j + 1, i, X, he => by
    have hi : i < 4 := by omega
    have hlt : ¬ (4 : Int32) ≤ nI i := nI_ge (b := 4) hi (by decide)
    obtain ⟨X', a, b, c⟩ := cf_loop j (i + 1) (va_up X (22 + i) (upd (upd (upd (upd (upd (upd (upd (upd (upd (upd (X (22 + i)) 0 (Y (22 + i) 0)) 1 (Y (22 + i) 1)) 2 (Y (22 + i) 2)) 3 (Y (22 + i) 3)) 4 (Y (22 + i) 4)) 5 (Y (22 + i) 5)) 6 (Y (22 + i) 6)) 7 (Y (22 + i) 7)) 8 (Y (22 + i) 8)) 9 (Y (22 + i) 9))) (by omega)
    refine ⟨X', fun K Kx hK => ?_, fun k hk => ?_, fun t h1 h2 => ?_⟩
    · rw [wpl_X0_copyFrom_29, fix_nI hi]
      refine kn hlt ?_
      simp only [wp_X1_copyFrom, forall_eq, nI_1]
      exact a K Kx hK
    · rw [b k (fun t h1 h2 => hk t (by omega) h2), vuN (hk i (Nat.le_refl _) hi)]
    · by_cases e : t = i
      · subst e
        intro k hk
        rw [b (22 + t) (fun u h1 h2 => by omega), vuS]
        rcases (by omega : k = 0 ∨ k = 1 ∨ k = 2 ∨ k = 3 ∨ k = 4 ∨ k = 5 ∨ k = 6 ∨ k = 7 ∨ k = 8 ∨ k = 9) with z | z | z | z | z | z | z | z | z | z <;> subst z <;> simp [updA]
      · exact c t (by omega) h2
theorem cs_loop {Y : ES} : ∀ (j i : Nat) (X : ES), i + j = 5 → ∃ L : CS, (∀ (K : ES → Prop) (Kx : Int32 → ES → Prop), (∀ y, Kx y (va_up X 5 L)) → wpl_X0_copyFrom_55 Y K Kx (j + 1) (nI i) X) ∧ (∀ k, k < i → L k = X 5 k) ∧ ∀ k, i ≤ k → k < 5 → L k = Y 5 k
  | 0, i, X, he => by
    have e : i = 5 := by omega
    subst e
    refine ⟨X 5, fun K Kx hK => ?_, fun k _ => rfl, fun k h1 h2 => absurd h1 (by omega)⟩
    rw [wpl_X0_copyFrom_55]
    refine ky (nI_le (a := 5) (b := 5) (Nat.le_refl _) (by decide)) ?_
    have := hK (nI 5)
    rw [vuSelf] at this
    exact this
  | j + 1, i, X, he => by
    have hi : i < 5 := by omega
    have hlt : ¬ (5 : Int32) ≤ nI i := nI_ge (b := 5) hi (by decide)
    obtain ⟨L, a, b, c⟩ := cs_loop j (i + 1) (va_up X 5 (upd (X 5) i (Y 5 i))) (by omega)
    rw [vuS] at b
    refine ⟨L, fun K Kx hK => ?_, fun k hk => ?_, fun k h1 h2 => ?_⟩
    · rw [wpl_X0_copyFrom_55]
      refine kn hlt ?_
      rw [wp_X0_settingAt, nI_clamp (by omega)]
      refine kn (nI_pos (by omega)) (kn hlt ⟨nIn (N := 5) hi (by decide), nIn (N := 5) hi (by decide), fun X4 e4 v ev => ?_⟩)
      rw [e4, ev, nI_1]
      refine a K Kx fun y => ?_
      rw [vuU]; exact hK y
    · rw [b k (by omega), updA, if_neg (by omega)]
    · by_cases e : k = i
      · subst e; rw [b k (by omega), updA, if_pos rfl]
      · exact c k (by omega) h2
theorem copy_q {X Y : ES} (hY : ∀ t, t < 16 → Y (6 + t) 1 = 0 ∨ Y (6 + t) 1 = 1) (h30 : X 3 0 = Y 3 0) : ∃ X' : ES, (∀ K : ES → Prop, K X' → wp_X0_copyFrom X Y K) ∧ sameX Y X' := by
  obtain ⟨X1, a1, b1, c1⟩ := cl_loop hY 16 0 X rfl
  obtain ⟨X2, a2, b2, c2⟩ := cf_loop (Y := Y) 4 0 X1 rfl
  obtain ⟨L, a3, -, c3⟩ := cs_loop (Y := Y) 5 0 X2 rfl
  refine ⟨va_up (va_up X2 5 L) 0 (upd (upd (upd (upd (upd (upd (upd (upd (upd (upd (upd (X2 0) 5 (Y 0 5)) 6 (Y 0 6)) 7 (Y 0 7)) 8 (Y 0 8)) 9 (Y 0 9)) 10 (Y 0 10)) 11 (Y 0 11)) 12 (Y 0 12)) 13 (Y 0 13)) 14 (Y 0 14)) 15 (Y 0 15)), fun K hK => ⟨17, a1 _ _ fun _ => ⟨5, a2 _ _ fun _ => ⟨6, a3 _ _ fun _ => ?_⟩⟩⟩, ?_, ?_, ?_, ?_, ?_⟩
  · simp only [forall_eq, vuS, vuU, vuN (by decide : (0 : Nat) ≠ 5)]
    exact hK
  · rw [vuN (by decide), vuN (by decide), b2 3 (fun t h1 h2 => by omega), b1 3 (fun t h1 h2 => by omega)]
    exact h30
  · intro k h1 h2
    rw [vuS]
    rcases (by omega : k = 5 ∨ k = 6 ∨ k = 7 ∨ k = 8 ∨ k = 9 ∨ k = 10 ∨ k = 11 ∨ k = 12 ∨ k = 13 ∨ k = 14 ∨ k = 15) with z | z | z | z | z | z | z | z | z | z | z <;> subst z <;> simp [updA]
  · intro k hk
    rw [vuN (by decide), vuS]; exact c3 k (by omega) hk
  · intro i hi k hk
    rw [vuN (by omega), vuN (by omega), b2 (6 + i) (fun t h1 h2 => by omega)]
    exact c1 i (by omega) hi k hk
  · intro f hf k hk
    rw [vuN (by omega), vuN (by omega)]
    exact c2 f (by omega) hf k hk

theorem Ag.same {S : SS} {X X' : ES} (h : Ag S X) (hs : sameX X X') : Ag S X' := by
  intro k j hr
  rcases hr with ⟨rfl, h1, h2⟩ | ⟨rfl, rfl⟩ | ⟨rfl, h1⟩ | ⟨h1, h2, h3⟩ | ⟨h1, h2, h3⟩
  · rw [hs.2.1 j h1 h2]; exact h.h h1 h2
  · rw [hs.1]; exact h.n
  · rw [hs.2.2.1 j h1]; exact h.s h1
  · have := hs.2.2.2.1 (k - 6) (by omega) j h3
    rw [show 6 + (k - 6) = k by omega] at this
    rw [this]; exact h.l ⟨h1, h2⟩ h3
  · have := hs.2.2.2.2 (k - 22) (by omega) j h3
    rw [show 22 + (k - 22) = k by omega] at this
    rw [this]; exact h.f ⟨h1, h2⟩ h3
theorem w_copy {S : SS} {X Y : ES} {q : Int} {K : ES → Prop} (h : Ag S Y) (hI : Inv q S) (h3 : X 3 0 = 0) (hK : ∀ X', Ag S X' → K X') : wp_X0_copyFrom X Y K := by
  obtain ⟨X', a, b⟩ := copy_q (X := X) (Y := Y) (fun t ht => by
    have := hI.lin t ht
    unfold linOK at this
    rw [h.l (by omega) (by decide)]
    rcases this.2.1 with z | z <;> rw [z]
    · exact Or.inl rfl
    · exact Or.inr rfl) (by rw [h3, h.n, hI.no]; rfl)
  exact a K (hK X' (h.same b))
-- a new exchange
def fresh (S : SS) (nf nc : Int) : SS := fun k j => if k = 0 then (if j = 5 then nf else if j = 6 then nc else if j = 8 then -1 else 0) else if k = 5 then S 5 j else if 22 ≤ k then (if j = 2 ∨ j = 4 ∨ j = 9 then -6 else 0) else if 6 ≤ k then (if j = 6 then -6 else 0) else 0
theorem sm_0 {g : Nat → Int} : ∀ n : Nat, (∀ i, i < n → g i = 0) → sm g n = 0
  | 0, _ => rfl
  | n + 1, h => by
    simp only [sm]
    rw [sm_0 n (fun i hi => h i (by omega)), h n (by omega)]
    rfl
theorem i_fresh {q : Int} {S : SS} {nf nc : Int} (hq : 0 ≤ q) (hs : setOK (S 5)) (h1 : 1 ≤ nf ∧ nf ≤ 4) (h2 : 1 ≤ nc ∧ nc ≤ 3) : Inv q (fresh S nf nc) := by
  have hl : ∀ n j, n < 16 → fresh S nf nc (6 + n) j = if j = 6 then -6 else 0 := fun n j hn => by
    rw [fresh, if_neg (by omega), if_neg (by omega), if_neg (by omega), if_pos (by omega)]
  have hf : ∀ f j, f < 4 → fresh S nf nc (22 + f) j = if j = 2 ∨ j = 4 ∨ j = 9 then -6 else 0 := fun f j hf => by
    rw [fresh, if_neg (by omega), if_neg (by omega), if_pos (by omega)]
  refine ⟨?_, hs, by simp [fresh], fun f hf4 => ?_, fun n hn => ?_, fun f hf4 _ => ?_, fun f hf4 => ?_, fun f hf4 => ?_, fun n hn => ?_, fun f g hf4 _ _ => ?_, ⟨fun n m hn _ _ a => ?_, fun n hn a => ?_⟩, ?_⟩
  · unfold hdOK; simp [fresh]; omega
  · unfold finOK; simp [hf f _ hf4]; omega
  · unfold linOK; simp [hl n _ hn]; omega
  · simp [hf f _ hf4]
  · intro c _ hm; simp [hf f _ hf4] at hm
  · intro t ht ht2; simp [hf f _ hf4] at ht2
  · left; simp [hl n _ hn]
  · intro z; rw [hf f _ hf4] at z; unfold hds at z; simp at z
  · rw [hl n _ hn] at a; simp at a
  · rw [hl n _ hn] at a; simp at a
  · unfold cnt
    rw [sm_0 16 (fun i hi => by simp [hl i _ hi, w1]), sm_0 4 (fun i hi => by simp [hf i _ hi, w2]), sm_0 4 (fun i hi => by simp [hf i _ hi, w3]), sm_0 16 (fun i hi => by simp [hl i _ hi]), sm_0 16 (fun i hi => by simp [hl i _ hi, rv])]
    simp [fresh]
theorem rn_lines {K : ES → Prop} {Kx : Int32 → ES → Prop} {X0 : ES} : ∀ (j i : Nat) (Z : ES), i + j = 16 → (∀ t, t < i → ∀ k, k < 9 → Z (6 + t) k = if k = 6 then -6 else 0) → (∀ k, ¬ (6 ≤ k ∧ k < 22) → Z k = X0 k) → (∀ y Z', (∀ t, t < 16 → ∀ k, k < 9 → Z' (6 + t) k = if k = 6 then -6 else 0) → (∀ k, ¬ (6 ≤ k ∧ k < 22) → Z' k = X0 k) → Kx y Z') → wpl_X0_renew_2 K Kx (j + 1) (nI i) Z
  | 0, i, Z, he, h1, h2, hK => by
    have e : i = 16 := by omega
    subst e
    rw [wpl_X0_renew_2]
    exact ky (nI_le (a := 16) (b := 16) (Nat.le_refl _) (by decide)) (hK _ Z h1 h2)
  | j + 1, i, Z, he, h1, h2, hK => by
    have hi : i < 16 := by omega
    rw [wpl_X0_renew_2]
    refine kn (nI_ge (b := 16) hi (by decide)) ?_
    rw [lix_nI hi]
    simp only [wp_X2_renew, wp_X2_leaveCall, forall_eq, nI_1]
    refine rn_lines j (i + 1) _ (by omega) (fun t ht k hk => ?_) (fun k hk => ?_) hK
    · by_cases e : t = i
      · subst e
        rw [vuS]
        rcases (by omega : k = 0 ∨ k = 1 ∨ k = 2 ∨ k = 3 ∨ k = 4 ∨ k = 5 ∨ k = 6 ∨ k = 7 ∨ k = 8) with z | z | z | z | z | z | z | z | z <;> subst z <;> simp [updA]
      · rw [vuN (by omega)]; exact h1 t (by omega) k hk
    · rw [vuN (by omega)]; exact h2 k hk
theorem rn_fins {K : ES → Prop} {Kx : Int32 → ES → Prop} {X0 : ES} : ∀ (j i : Nat) (Z : ES), i + j = 4 → (∀ t, t < i → ∀ k, k < 10 → Z (22 + t) k = if k = 2 ∨ k = 4 ∨ k = 9 then -6 else 0) → (∀ k, ¬ (22 ≤ k ∧ k < 26) → Z k = X0 k) → (∀ y Z', (∀ t, t < 4 → ∀ k, k < 10 → Z' (22 + t) k = if k = 2 ∨ k = 4 ∨ k = 9 then -6 else 0) → (∀ k, ¬ (22 ≤ k ∧ k < 26) → Z' k = X0 k) → Kx y Z') → wpl_X0_renew_24 K Kx (j + 1) (nI i) Z
  | 0, i, Z, he, h1, h2, hK => by
    have e : i = 4 := by omega
    subst e
    rw [wpl_X0_renew_24]
    exact ky (nI_le (a := 4) (b := 4) (Nat.le_refl _) (by decide)) (hK _ Z h1 h2)
  | j + 1, i, Z, he, h1, h2, hK => by
    have hi : i < 4 := by omega
    rw [wpl_X0_renew_24]
    refine kn (nI_ge (b := 4) hi (by decide)) ?_
    rw [fix_nI hi]
    simp only [wp_X1_renew, wp_X1_becomeFree, wp_X1_become, forall_eq, nI_1]
    refine rn_fins j (i + 1) _ (by omega) (fun t ht k hk => ?_) (fun k hk => ?_) hK
    · by_cases e : t = i
      · subst e
        rw [vuS]
        rcases (by omega : k = 0 ∨ k = 1 ∨ k = 2 ∨ k = 3 ∨ k = 4 ∨ k = 5 ∨ k = 6 ∨ k = 7 ∨ k = 8 ∨ k = 9) with z | z | z | z | z | z | z | z | z | z <;> subst z <;> simp [updA]
      · rw [vuN (by omega)]; exact h1 t (by omega) k hk
    · rw [vuN (by omega)]; exact h2 k hk
theorem w_renew {S : SS} {X : ES} {nf nc : Int} {K : ES → Prop} (h5 : ∀ j, j < 5 → X 5 j = en (S 5 j)) (h3 : X 3 0 = 0) (hK : ∀ X', Ag (fresh S nf nc) X' → K X') : wp_X0_renew X (en nf) (en nc) K := by
  refine ⟨17, rn_lines (X0 := X) 16 0 X rfl (fun t ht => absurd ht (by omega)) (fun _ _ => rfl) (fun y Z a1 a2 => ?_)⟩
  refine ⟨5, rn_fins (X0 := Z) 4 0 Z rfl (fun t ht => absurd ht (by omega)) (fun _ _ => rfl) (fun y2 Z2 b1 b2 => ?_)⟩
  simp only [forall_eq]
  refine hK _ (fun k j hr => ?_)
  rw [vuA]
  rcases hr with ⟨rfl, h1, h2⟩ | ⟨rfl, rfl⟩ | ⟨rfl, h1⟩ | ⟨h1, h2, h3⟩ | ⟨h1, h2, h3⟩
  · rcases (by omega : j = 5 ∨ j = 6 ∨ j = 7 ∨ j = 8 ∨ j = 9 ∨ j = 10 ∨ j = 11 ∨ j = 12 ∨ j = 13 ∨ j = 14 ∨ j = 15) with z | z | z | z | z | z | z | z | z | z | z <;> subst z <;> simp [vuA, updA, fresh] <;> rfl
  · simp [vuA, fresh]
    rw [b2 3 (by omega), a2 3 (by omega), h3]; rfl
  · simp [vuA, fresh]
    rw [b2 5 (by omega), a2 5 (by omega)]; exact h5 j h1
  · have e := a1 (k - 6) (by omega) j h3
    rw [show 6 + (k - 6) = k by omega] at e
    have e0 : ¬ k = 0 := by omega
    simp [vuA, e0]
    rw [b2 k (by omega), e]
    have : fresh S nf nc k j = if j = 6 then -6 else 0 := by rw [fresh, if_neg (by omega), if_neg (by omega), if_neg (by omega), if_pos (by omega)]
    rw [this]
    split <;> rfl
  · have e := b1 (k - 22) (by omega) j h3
    rw [show 22 + (k - 22) = k by omega] at e
    have e0 : ¬ k = 0 := by omega
    simp [vuA, e0]
    rw [e]
    have : fresh S nf nc k j = if j = 2 ∨ j = 4 ∨ j = 9 then -6 else 0 := by rw [fresh, if_neg (by omega), if_neg (by omega), if_pos (by omega)]
    rw [this]
    split <;> rfl
-- ahead
def tkN (S : SS) : Nat → SS
  | 0 => S
  | n + 1 => tick (tkN S n)
theorem i_tkN {q : Int} {S : SS} (hI : Inv q S) : ∀ n : Nat, Inv (q + 21 * n) (tkN S n)
  | 0 => by rw [tkN]; exact hI.mono (by omega)
  | n + 1 => by
    rw [tkN]
    exact (i_tick (i_tkN hI n)).mono (by omega)
def untF (S : SS) (n : Nat) (st most : Int) : Nat → Nat → Int
  | 0, i => if tkN S i (6 + n) 0 = st then most else -6
  | m + 1, i => if tkN S i (6 + n) 0 = st then (i : Int) else untF S n st most m (i + 1)
theorem w_unt {S : SS} {q : Int} (hq : 0 ≤ q ∧ q < 300000) (hI : Inv q S) {n : Nat} (hn : n < 16) {st most : Int} (hs : 0 ≤ st ∧ st < 100) (hm : 0 ≤ most ∧ most ≤ 1000) {K : Int32 → ES → Prop} : ∀ (m i : Nat) (X : ES), (i : Int) + m = most → Ag (tkN S i) X → (∀ X', X' 3 0 = 0 → K (en (untF S n st most m i)) X') → wpl_X0_ticksUntil_3 (en (n : Int)) (en st) (en most) K (fun (j_3 : Int32) (X_4 : ES) => (((X_4 (lix (en (n : Int)))) 0) = en st → (K (en most) X_4)) ∧ (¬ ((X_4 (lix (en (n : Int)))) 0) = en st → (K (-6) X_4))) (m + 1) (en (i : Int)) X
  | 0, i, X, he, hA, hK => by
    have hJ := i_tkN hI i
    have hl := hJ.lin n hn
    unfold linOK at hl
    have h3 : X 3 0 = 0 := by rw [hA.n, hJ.no]; rfl
    rw [wpl_X0_ticksUntil_3]
    refine ⟨fun _ => ?_, fun z => absurd ?_ z⟩
    · rw [lix_en (by omega) (by omega), Int.toNat_natCast, hA.l (by omega) (by decide), en_eq (by omega) (by omega) (by omega) (by omega)]
      rw [untF] at hK
      refine ⟨fun e => ?_, fun e => ?_⟩
      · have := hK X h3
        rw [if_pos e] at this; exact this
      · have := hK X h3
        rw [if_neg e] at this; exact this
    · rw [en_le (by omega) (by omega) (by omega) (by omega)]
      omega
  | m + 1, i, X, he, hA, hK => by
    have hJ := i_tkN hI i
    have hl := hJ.lin n hn
    unfold linOK at hl
    have h3 : X 3 0 = 0 := by rw [hA.n, hJ.no]; rfl
    rw [wpl_X0_ticksUntil_3]
    refine ⟨fun z => absurd z ?_, fun _ => ?_⟩
    · rw [en_le (by omega) (by omega) (by omega) (by omega)]
      omega
    · rw [lix_en (by omega) (by omega), Int.toNat_natCast, hA.l (by omega) (by decide), en_eq (by omega) (by omega) (by omega) (by omega)]
      rw [untF] at hK
      refine ⟨fun e => ?_, fun e => ?_⟩
      · have := hK X h3
        rw [if_pos e] at this; exact this
      · refine w_pass1 hA (q := q + 21 * i) (by omega) hJ (fun X' hX' => ?_)
        simp only [forall_eq]
        rw [show en (i : Int) + 1 = en ((i + 1 : Nat) : Int) from en_s _]
        have ih := w_unt hq hI hn hs hm (K := K) m (i + 1) X' (by omega) hX' (fun X2 h2 => by
          have := hK X2 h2
          rw [if_neg e] at this; exact this)
        rw [lix_en (by omega) (by omega), Int.toNat_natCast] at ih
        exact ih
theorem untF_spec {S : SS} {n : Nat} {st most : Int} : ∀ (m i : Nat), (i : Int) + m = most → ∀ k : Nat, i ≤ k → (k : Int) ≤ most → (∀ j, i ≤ j → j < k → ¬ tkN S j (6 + n) 0 = st) → (tkN S k (6 + n) 0 = st → untF S n st most m i = (k : Int)) ∧ ((k : Int) = most → ¬ tkN S k (6 + n) 0 = st → untF S n st most m i = -6)
  | 0, i, he, k, h1, h2, h3 => by
    have e : k = i := by omega
    subst e
    rw [untF]
    exact ⟨fun z => by rw [if_pos z]; omega, fun _ z => by rw [if_neg z]⟩
  | m + 1, i, he, k, h1, h2, h3 => by
    rw [untF]
    by_cases e : k = i
    · subst e
      exact ⟨fun z => by rw [if_pos z], fun z => by omega⟩
    · rw [if_neg (h3 i (Nat.le_refl _) (by omega))]
      exact untF_spec m (i + 1) (by omega) k (by omega) h2 (fun j a b => h3 j (by omega) b)
