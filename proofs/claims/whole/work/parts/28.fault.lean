-- ===== the text on the pad: reading it =====
/-- the code at an index, 0 behind the text -/
def TX (n : Nat) (D : CS) (k : Nat) : Int32 := if k < n then D k else 0
def dg (x : Int32) : Prop := ∃ d : Nat, d ≤ 9 ∧ x = nI (48 + d)
def ln (x : Int32) (l : Nat) : Prop := (l ≤ 9 ∧ x = nI (48 + l)) ∨ (10 ≤ l ∧ l ≤ 15 ∧ x = nI (87 + l))
theorem dg_y {x : Int32} (h : dg x) {K : Int32 → Prop} (hK : K 1) : wp_X5_in x 48 57 K := by
  obtain ⟨d, d1, rfl⟩ := h
  exact in_yes (nI_nlt (b := 48) (by omega) (by omega)) (nI_nlt (a := 57) (by omega) (by decide)) hK
theorem dg_n {x : Int32} (h : ¬ dg x) {K : Int32 → Prop} (hK : K 0) : wp_X5_in x 48 57 K :=
  in_out (lo := 48) (n := 9) 48 57 (by decide) (by decide) (by decide) (fun j hj e => h ⟨j, hj, e⟩) K hK
theorem dgc_y {x : Int32} (h : dg x) {K : Int32 → Prop} (hK : K 1) : wp_X3_isDigit x K := dg_y h (K := K) hK
theorem dgc_n {x : Int32} (h : ¬ dg x) {K : Int32 → Prop} (hK : K 0) : wp_X3_isDigit x K := dg_n h (K := K) hK
theorem dg_0 : ¬ dg 0 := fun ⟨d, d1, d2⟩ => by
  have : nI 0 = nI (48 + d) := d2
  have := nI_inj (by decide) (by omega) this
  omega
theorem dg_44 : ¬ dg 44 := fun ⟨d, d1, d2⟩ => by
  have : nI 44 = nI (48 + d) := d2
  have := nI_inj (by decide) (by omega) this
  omega
theorem dg_of {x : Int32} (k : Nat) (hx : x = nI k) (hk : k < 48 ∨ 57 < k) (hk2 : k < 2 ^ 31) : ¬ dg x := fun ⟨d, d1, d2⟩ => by
  have := nI_inj hk2 (by omega) (hx.symm.trans d2)
  omega
theorem ln_y {x : Int32} {l : Nat} (h : ln x l) {K : Int32 → Prop} (hK : K (nI l)) : wp_X5_lineBy x K := by
  rcases h with ⟨h1, h2⟩ | ⟨h1, h2, h3⟩
  · refine dg_y ⟨l, h1, h2⟩ (k01 ?_)
    rw [h2, show (48 : Int32) = nI 48 from rfl, pk_sub (by omega), Nat.add_sub_cancel_left]
    exact hK
  · refine dg_n (dg_of (87 + l) h3 (by omega) (by omega)) (k00 (in_yes (by rw [h3]; exact nI_nlt (b := 97) (by omega) (by omega)) (by rw [h3]; exact nI_nlt (a := 102) (by omega) (by decide)) (k01 ?_)))
    rw [h3, show (97 : Int32) = nI 97 from rfl, pk_sub (by omega), show (10 : Int32) = nI 10 from rfl, nI_add, show 87 + l - 97 + 10 = l by omega]
    exact hK
theorem ln_n {x : Int32} (h : ∀ l, ¬ ln x l) {K : Int32 → Prop} (hK : K (-6)) : wp_X5_lineBy x K := by
  refine dg_n (fun ⟨d, d1, d2⟩ => h d (Or.inl ⟨d1, d2⟩)) (k00 (in_out (lo := 97) (n := 5) 97 102 (by decide) (by decide) (by decide) (fun j hj e => h (10 + j) (Or.inr ⟨by omega, by omega, by rw [e]; congr 1; omega⟩)) _ (k00 hK)))
theorem lnc_y {x : Int32} {l : Nat} (h : ln x l) {K : Int32 → Prop} (hK : K (nI l)) : wp_X3_lineOf x K := ln_y h (K := K) hK
theorem lnc_n {x : Int32} (h : ∀ l, ¬ ln x l) {K : Int32 → Prop} (hK : K (-6)) : wp_X3_lineOf x K := ln_n h (K := K) hK
theorem ln_lt {x : Int32} {l : Nat} (h : ln x l) : l < 16 := by rcases h with h | h <;> omega
theorem ln_44 {x : Int32} {l : Nat} (h : ln x l) : ¬ x = 44 := by
  intro z
  rcases h with ⟨h1, h2⟩ | ⟨h1, h2, h3⟩
  · have : nI 44 = nI (48 + l) := z.symm.trans h2
    have := nI_inj (by decide) (by omega) this
    omega
  · have : nI 44 = nI (87 + l) := z.symm.trans h3
    have := nI_inj (by decide) (by omega) this
    omega
theorem dg_44' {x : Int32} (h : dg x) : ¬ x = 44 := fun z => dg_44 (z ▸ h)
theorem num_d {v d : Nat} (hv : v < 2 ^ 20) (hd : d ≤ 9) : (10 : Int32) * nI v + nI (48 + d) - 48 = nI (10 * v + d) := by
  rw [show (10 : Int32) = nI 10 from rfl, pk_mul, nI_add, show (48 : Int32) = nI 48 from rfl, pk_sub (by omega)]
  congr 1
  omega
-- ===== the class's reader =====
/-- what the class's reader says at the end of the text -/
def KF (n : Nat) (K : Int32 → Prop) : Int32 → Int32 → Int32 → Prop := fun j _ _ => (j = 7 → K (-6)) ∧ (¬ j = 7 → ((j = 4 → K (-6)) ∧ (¬ j = 4 → ((j = 6 → K (-6)) ∧ (¬ j = 6 → K (nI n))))))
def CF (P : ES) (n : Nat) (st num : Int32) (i : Nat) (r : Int32) : Prop := ∀ K : Int32 → Prop, K r → wpl_X3_firstFault_6 P K (KF n K) (n - i + 1) st num (nI i)
theorem code_q {P : ES} {n k : Nat} (hP : P 0 1 = nI n) (hn : n ≤ 60) (hk : k < 2 ^ 20) {K : Int32 → Prop} (hK : K (TX n (P 1) k)) : wp_X3_codeAt P (nI k) K := by
  unfold wp_X3_codeAt
  rw [hP, nI_clamp (by omega)]
  refine kn (nI_pos (by omega)) ?_
  by_cases z : k < n
  · rw [TX, if_pos z] at hK
    exact kn (nI_ge (by omega) (by omega)) (kn (nI_ge (b := 60) (by omega) (by decide)) ⟨nIn (by omega) (by decide), hK⟩)
  · rw [TX, if_neg z] at hK
    exact ky (nI_le (by omega) (by omega)) hK
theorem CF_end {P : ES} {n : Nat} {st num : Int32} (hP : P 0 1 = nI n) (hn : n ≤ 60) (h : st = 7 ∨ st = 4 ∨ st = 6) : CF P n st num n (-6) := by
  intro K hK
  rw [Nat.sub_self, wpl_X3_firstFault_6, hP]
  refine ky (nI_le (Nat.le_refl _) (by omega)) ?_
  rcases h with rfl | rfl | rfl
  · exact ky rfl hK
  · exact kn (by decide) (ky rfl hK)
  · exact kn (by decide) (kn (by decide) (ky rfl hK))
theorem CF_endf {P : ES} {n : Nat} {st num : Int32} (hP : P 0 1 = nI n) (hn : n ≤ 60) (h : ¬ (st = 7 ∨ st = 4 ∨ st = 6)) : CF P n st num n (nI n) := by
  intro K hK
  rw [Nat.sub_self, wpl_X3_firstFault_6, hP]
  exact ky (nI_le (Nat.le_refl _) (by omega)) (kn (fun z => h (Or.inl z)) (kn (fun z => h (Or.inr (Or.inl z))) (kn (fun z => h (Or.inr (Or.inr z))) hK)))
/-- a character that is no digit -/
theorem CF_n {P : ES} {n i : Nat} {st num st' r : Int32} (hP : P 0 1 = nI n) (hn : n ≤ 60) (hi : i < n) (hd : ¬ dg (TX n (P 1) i)) (h8 : ¬ st' = 8) (ha : ∀ K : Int32 → Prop, K st' → wp_X3_awaitedBehind st (TX n (P 1) i) 0 K) (h : CF P n st' 0 (i + 1) r) : CF P n st num i r := by
  intro K hK
  rw [show n - i + 1 = (n - (i + 1) + 1) + 1 by omega, wpl_X3_firstFault_6, hP]
  refine kn (nI_ge (by omega) (by omega)) (code_q hP hn (by omega) (dgc_n hd (k00 (ha _ (kn h8 fun v ev => ?_)))))
  rw [ev, nI_1]
  exact h K hK
theorem CF_nf {P : ES} {n i : Nat} {st num : Int32} (hP : P 0 1 = nI n) (hn : n ≤ 60) (hi : i < n) (hd : ¬ dg (TX n (P 1) i)) (ha : ∀ K : Int32 → Prop, K 8 → wp_X3_awaitedBehind st (TX n (P 1) i) 0 K) : CF P n st num i (nI i) := by
  intro K hK
  rw [show n - i + 1 = (n - (i + 1) + 1) + 1 by omega, wpl_X3_firstFault_6, hP]
  exact kn (nI_ge (by omega) (by omega)) (code_q hP hn (by omega) (dgc_n hd (k00 (ha _ (ky rfl hK)))))
/-- a digit -/
theorem CF_d {P : ES} {n i : Nat} {st num st' r : Int32} (hP : P 0 1 = nI n) (hn : n ≤ 60) (hi : i < n) (hd : dg (TX n (P 1) i)) (h8 : ¬ st' = 8) (ha : ∀ K : Int32 → Prop, K st' → wp_X3_awaitedBehind st (TX n (P 1) i) (10 * num + TX n (P 1) i - 48) K) (h : CF P n st' (10 * num + TX n (P 1) i - 48) (i + 1) r) : CF P n st num i r := by
  intro K hK
  rw [show n - i + 1 = (n - (i + 1) + 1) + 1 by omega, wpl_X3_firstFault_6, hP]
  refine kn (nI_ge (by omega) (by omega)) (code_q hP hn (by omega) (dgc_y hd (k01 fun v ev => ?_)))
  rw [ev]
  refine ha _ (kn h8 fun v2 ev2 => ?_)
  rw [ev2, nI_1]
  exact h K hK
theorem CF_df {P : ES} {n i : Nat} {st num : Int32} (hP : P 0 1 = nI n) (hn : n ≤ 60) (hi : i < n) (hd : dg (TX n (P 1) i)) (ha : ∀ K : Int32 → Prop, K 8 → wp_X3_awaitedBehind st (TX n (P 1) i) (10 * num + TX n (P 1) i - 48) K) : CF P n st num i (nI i) := by
  intro K hK
  rw [show n - i + 1 = (n - (i + 1) + 1) + 1 by omega, wpl_X3_firstFault_6, hP]
  refine kn (nI_ge (by omega) (by omega)) (code_q hP hn (by omega) (dgc_y hd (k01 fun v ev => ?_)))
  rw [ev]
  exact ha _ (ky rfl hK)
/-- a character, digit or not, that the reader takes whatever the number is -/
theorem CF_any {P : ES} {n i : Nat} {st num st' r : Int32} (hP : P 0 1 = nI n) (hn : n ≤ 60) (hi : i < n) (h8 : ¬ st' = 8) (ha : ∀ (w : Int32) (K : Int32 → Prop), K st' → wp_X3_awaitedBehind st (TX n (P 1) i) w K) (h : ∀ w, CF P n st' w (i + 1) r) : CF P n st num i r := by
  by_cases hd : dg (TX n (P 1) i)
  · exact CF_d hP hn hi hd h8 (ha _) (h _)
  · exact CF_n hP hn hi hd h8 (ha _) (h _)
theorem CF_anyf {P : ES} {n i : Nat} {st num : Int32} (hP : P 0 1 = nI n) (hn : n ≤ 60) (hi : i < n) (ha : ∀ (w : Int32) (K : Int32 → Prop), K 8 → wp_X3_awaitedBehind st (TX n (P 1) i) w K) : CF P n st num i (nI i) := by
  by_cases hd : dg (TX n (P 1) i)
  · exact CF_df hP hn hi hd (ha _)
  · exact CF_nf hP hn hi hd (ha _)
/-- a comma or a fault -/
theorem comma_y {x : Int32} (h : x = 44) {K : Int32 → Prop} (hK : K 0) : wp_X3_awaitedBehindComma x K := ky h hK
theorem comma_n {x : Int32} (h : ¬ x = 44) {K : Int32 → Prop} (hK : K 8) : wp_X3_awaitedBehindComma x K := kn h hK
-- ===== the model's reader =====
def sm (Z : ES) (s : Nat) (w : Int32) (a : Nat) (T : CS) : ES := va_up (va_up Z 0 (upd (upd (upd (Z 0) 6 (nI s)) 7 w) 9 (nI a))) 6 T
theorem sm_6 (Z : ES) (s : Nat) (w : Int32) (a : Nat) (T : CS) : sm Z s w a T 6 = T := vuS _ _ _
theorem sm_0 (Z : ES) (s : Nat) (w : Int32) (a : Nat) (T : CS) : sm Z s w a T 0 = upd (upd (upd (Z 0) 6 (nI s)) 7 w) 9 (nI a) := by rw [sm, vuN (by decide), vuS]
theorem sm_k (Z : ES) (s : Nat) (w : Int32) (a : Nat) (T : CS) {k : Nat} (h0 : ¬ k = 0) (h6 : ¬ k = 6) : sm Z s w a T k = Z k := by rw [sm, vuN h6, vuN h0]
theorem sm_up {Z : ES} {s s' : Nat} {w w' : Int32} {a a' : Nat} {T : CS} {F : CS} (h : F = upd (upd (upd (Z 0) 6 (nI s')) 7 w') 9 (nI a')) : va_up (sm Z s w a T) 0 F = sm Z s' w' a' T := by
  funext k
  by_cases h0 : k = 0
  · subst h0; rw [vuS, sm_0, h]
  · rw [vuN h0]
    by_cases h6 : k = 6
    · subst h6; rw [sm_6, sm_6]
    · rw [sm_k _ _ _ _ _ h0 h6, sm_k _ _ _ _ _ h0 h6]
theorem sm_s {Z : ES} {s s' : Nat} {w : Int32} {a : Nat} {T : CS} : va_up (sm Z s w a T) 0 (upd (sm Z s w a T 0) 6 (nI s')) = sm Z s' w a T := sm_up (by
  rw [sm_0]; funext k; simp only [updA]; by_cases h1 : k = 6 <;> by_cases h2 : k = 7 <;> by_cases h3 : k = 9 <;> simp [h1, h2, h3] <;> omega)
theorem sm_w {Z : ES} {s : Nat} {w w' : Int32} {a : Nat} {T : CS} : va_up (sm Z s w a T) 0 (upd (sm Z s w a T 0) 7 w') = sm Z s w' a T := sm_up (by
  rw [sm_0]; funext k; simp only [updA]; by_cases h1 : k = 6 <;> by_cases h2 : k = 7 <;> by_cases h3 : k = 9 <;> simp [h1, h2, h3] <;> omega)
theorem sm_a {Z : ES} {s : Nat} {w : Int32} {a a' : Nat} {T : CS} : va_up (sm Z s w a T) 0 (upd (sm Z s w a T 0) 9 (nI a')) = sm Z s w a' T := sm_up (by
  rw [sm_0]; funext k; simp only [updA]; by_cases h1 : k = 6 <;> by_cases h2 : k = 7 <;> by_cases h3 : k = 9 <;> simp [h1, h2, h3] <;> omega)
theorem sm_T {Z : ES} {s : Nat} {w : Int32} {a : Nat} {T T' : CS} : va_up (sm Z s w a T) 6 T' = sm Z s w a T' := vuU _ _ _ _
theorem sm05 (Z : ES) (s : Nat) (w : Int32) (a : Nat) (T : CS) : sm Z s w a T 0 5 = Z 0 5 := by rw [sm_0]; simp [updA]
theorem sm06 (Z : ES) (s : Nat) (w : Int32) (a : Nat) (T : CS) : sm Z s w a T 0 6 = nI s := by rw [sm_0]; simp [updA]
theorem sm07 (Z : ES) (s : Nat) (w : Int32) (a : Nat) (T : CS) : sm Z s w a T 0 7 = w := by rw [sm_0]; simp [updA]
theorem sm09 (Z : ES) (s : Nat) (w : Int32) (a : Nat) (T : CS) : sm Z s w a T 0 9 = nI a := by rw [sm_0]; simp [updA]
theorem nx_q {Z : ES} {n s a : Nat} {w : Int32} {T : CS} (hZ : Z 0 5 = nI n) (hn : n ≤ 60) (hs : s < 2 ^ 20) {K : Int32 → Prop} (hK : K (TX n (Z 5) s)) : wp_X5_next (sm Z s w a T) K := by
  unfold wp_X5_next
  rw [sm05, sm06, hZ, sm_k _ _ _ _ _ (by decide) (by decide), nI_clamp (by omega)]
  by_cases z : s < n
  · rw [TX, if_pos z] at hK
    exact kn (nI_ge (by omega) (by omega)) ⟨nIn (by omega) (by decide), hK⟩
  · rw [TX, if_neg z] at hK
    exact ky (nI_le (by omega) (by omega)) hK
