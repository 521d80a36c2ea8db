-- ===== the first fault =====
def AL (P : ES) (tx : Nat → Int32) (n : Nat) : Nat → List (Nat × Nat × Nat) → Prop
  | _, [] => False
  | p, x :: l => Act P tx n p x.1 x.2.1 x.2.2 ∧ ((l = [] ∧ x.2.2 = n) ∨ (x.2.2 < n ∧ tx x.2.2 = 44 ∧ AL P tx n (x.2.2 + 1) l))
def TB (T : CS) : Nat → Nat → List (Nat × Nat × Nat) → Prop
  | _, _, [] => True
  | a, p, x :: l => Row T a x.1 x.2.1 p x.2.2 ∧ TB T (a + 1) (x.2.2 + 1) l
theorem Act_e {P : ES} {tx : Nat → Int32} {n p k v e : Nat} (h : Act P tx n p k v e) : p + 2 ≤ e ∧ e ≤ n := by
  rcases h with ⟨-, -, -, h1, h2⟩ | ⟨-, -, -, h1, h2, -⟩ | ⟨-, -, -, -, h1, h2, -⟩ <;> omega
theorem Row_ext {T T' : CS} {a k v p e : Nat} (h : Row T a k v p e) (hx : ∀ t, t < 4 * (a + 1) → T' t = T t) : Row T' a k v p e := by
  obtain ⟨h1, h2, h3⟩ := h
  refine ⟨by rw [hx _ (by omega)]; exact h1, by rw [hx _ (by omega)]; exact h2, fun z => ?_⟩
  rw [hx _ (by omega), hx _ (by omega)]; exact h3 z
def KM (K : Int32 → ES → Prop) : ES → Prop := fun X => ((X 0 7) = 0 → (((X 0) 5 ≤ (X 0) 6 → K (-6) X) ∧ (¬ (X 0) 5 ≤ (X 0) 6 → K ((X 0) 6) X))) ∧ (¬ (X 0 7) = 0 → K ((X 0) 6) X)
theorem stop_n {P Z : ES} {n e : Nat} {st num : Int32} (hP : P 0 1 = nI n) (hn : n ≤ 60) (he : e = n) (h : Stop (TX n (Z 5)) st num e) : CF P n st num e (-6) := by
  subst he
  refine CF_end hP hn ?_
  rcases h with h | ⟨h, -⟩ | ⟨h, -⟩
  · exact Or.inl h
  · exact Or.inr (Or.inl h)
  · exact Or.inr (Or.inr h)
theorem stop_comma {P Z : ES} {n e : Nat} {st num r : Int32} (hP : P 0 1 = nI n) (hn : n ≤ 60) (hX : TX n (P 1) = TX n (Z 5)) (he : e < n) (hc : TX n (Z 5) e = 44) (h : Stop (TX n (Z 5)) st num e) (hr : CF P n 0 0 (e + 1) r) : CF P n st num e r := by
  have nd : ¬ dg (TX n (P 1) e) := by rw [hX, hc]; exact dg_44
  refine CF_n hP hn he nd (by decide : ¬ (0 : Int32) = 8) (fun K hK => ?_) hr
  rw [hX, hc] at nd ⊢
  rcases h with rfl | ⟨rfl, -⟩ | ⟨rfl, -⟩
  · exact kn (by decide) (kn (by decide) (kn (by decide) (kn (by decide) (kn (by decide) (kn (by decide) (kn (by decide) (comma_y rfl hK)))))))
  · exact kn (by decide) (kn (by decide) (kn (by decide) (kn (by decide) (ky rfl (dgc_n nd (k00 (comma_y rfl hK)))))))
  · exact kn (by decide) (kn (by decide) (kn (by decide) (kn (by decide) (kn (by decide) (kn (by decide) (ky rfl ⟨fun _ => k00 (comma_y rfl hK), fun z => absurd (by decide) z⟩))))))
theorem stop_bad {P Z : ES} {n e : Nat} {st num : Int32} (hP : P 0 1 = nI n) (hn : n ≤ 60) (hX : TX n (P 1) = TX n (Z 5)) (he : e < n) (hc : ¬ TX n (Z 5) e = 44) (h : Stop (TX n (Z 5)) st num e) : CF P n st num e (nI e) := by
  have hc' : ¬ TX n (P 1) e = 44 := by rw [hX]; exact hc
  rcases h with rfl | ⟨rfl, h⟩ | ⟨rfl, v, v1, v2, rfl, v3⟩
  · exact CF_anyf hP hn he fun w K hK => kn (by decide) (kn (by decide) (kn (by decide) (kn (by decide) (kn (by decide) (kn (by decide) (kn (by decide) (comma_n hc' hK)))))))
  · rw [← hX] at h
    exact CF_anyf hP hn he fun w K hK => kn (by decide) (kn (by decide) (kn (by decide) (kn (by decide) (ky rfl (dgc_n h (k00 (comma_n hc' hK)))))))
  · by_cases hd : dg (TX n (P 1) e)
    · refine CF_df hP hn he hd fun K hK => ?_
      obtain ⟨d, d1, d2⟩ := hd
      have := v3 d d1 (by rw [← hX]; exact d2)
      have en : (10 : Int32) * nI v + TX n (P 1) e - 48 = nI (10 * v + d) := by rw [d2]; exact num_d (by omega) d1
      rw [en]
      exact kn (by decide) (kn (by decide) (kn (by decide) (kn (by decide) (kn (by decide) (kn (by decide) (ky rfl ⟨fun z => absurd z (nI_nlt (b := 1) (by omega) (by omega)), fun _ => ky (nI_lt (a := 200) this (by omega)) (k00 (comma_n hc' hK))⟩))))))
    · exact CF_nf hP hn he hd fun K hK => kn (by decide) (kn (by decide) (kn (by decide) (kn (by decide) (kn (by decide) (kn (by decide) (ky rfl ⟨fun _ => k00 (comma_n hc' hK), fun z => absurd (by decide) z⟩))))))
def FlOk (P Z : ES) (n j p a : Nat) (T : CS) : Prop := ∃ (l : List (Nat × Nat × Nat)) (T' : CS), AL P (TX n (Z 5)) n p l ∧ TB T' a p l ∧ (∀ t, t < 4 * a → T' t = T t) ∧ (∀ num, CF P n 0 num p (-6)) ∧ ∀ (K : Int32 → ES → Prop) (KK : ES → Prop) (m : Nat), j < m → K (-6) (sm Z n 0 (a + l.length) T') → (∀ X4, wpl_X5_fault_19 K (KM K) m X4 → KK X4) → wp_X5_readAct (sm Z p 0 a T) KK
def FlNo (P Z : ES) (n j p a : Nat) (T : CS) : Prop := ∃ (s : Nat) (w : Int32) (a' : Nat) (T' : CS), s ≤ n ∧ (∀ num, CF P n 0 num p (nI s)) ∧ ∀ (K : Int32 → ES → Prop) (KK : ES → Prop) (m : Nat), j < m → K (nI s) (sm Z s w a' T') → (∀ X4, wpl_X5_fault_19 K (KM K) m X4 → KK X4) → wp_X5_readAct (sm Z p 0 a T) KK
theorem fl_loop {P Z : ES} {n : Nat} (hP : P 0 1 = nI n) (hZ : Z 0 5 = nI n) (hn : n ≤ 60) (hX : TX n (P 1) = TX n (Z 5)) (j : Nat) : ∀ (p a : Nat) (T : CS), p + j = n → 3 * a ≤ p → FlOk P Z n j p a T ∨ FlNo P Z n j p a T := by
  induction j using Nat.strongRecOn with
  | _ j ih =>
    intro p a T he ha
    rcases ra_q (T := T) hP hZ hn hX (by omega : p ≤ n) ha with ⟨k, v, e, T1, hA, hRow, hT, hm, hc⟩ | ⟨s, a', T1, hs, hm, hc⟩
    · obtain ⟨e1, e2⟩ := Act_e hA
      by_cases en : e = n
      · refine Or.inl ⟨[(k, v, e)], T1, ⟨hA, Or.inl ⟨rfl, en⟩⟩, ⟨hRow, trivial⟩, hT, hc _ fun st num h => stop_n hP hn en h, fun K KK m hjm hK hKK => hm _ (hKK _ ?_)⟩
        obtain ⟨m', rfl⟩ : ∃ m', m = m' + 1 := ⟨m - 1, by omega⟩
        rw [wpl_X5_fault_19]
        refine ky (sm07 _ _ _ _ _) (nx_q hZ hn (by omega) (kn (by rw [tx_n (by omega)]; decide) (ky (sm07 _ _ _ _ _) (ky ?_ ?_))))
        · rw [sm05, sm06, hZ, en]; exact nI_le (Nat.le_refl _) (by omega)
        · rw [en]; exact hK
      · by_cases hcm : TX n (Z 5) e = 44
        · rcases ih (n - (e + 1)) (by omega) (e + 1) (a + 1) T1 (by omega) (by omega) with ⟨l, T2, b1, b2, b3, b4, b5⟩ | ⟨s, w, a', T2, b1, b2, b3⟩
          · refine Or.inl ⟨(k, v, e) :: l, T2, ⟨hA, Or.inr ⟨(by omega : e < n), hcm, b1⟩⟩, ⟨Row_ext hRow b3, b2⟩, fun t ht => by rw [b3 t (by omega), hT t ht], hc _ fun st num h => stop_comma hP hn hX (by omega) hcm h (b4 0), fun K KK m hjm hK hKK => hm _ (hKK _ ?_)⟩
            obtain ⟨m', rfl⟩ : ∃ m', m = m' + 1 := ⟨m - 1, by omega⟩
            rw [wpl_X5_fault_19]
            refine ky (sm07 _ _ _ _ _) (nx_q hZ hn (by omega) (ky hcm fun X16 e16 => ?_))
            rw [e16, sm06, nI_1, sm_s]
            exact b5 K _ m' (by omega) (by rw [show a + 1 + l.length = a + ((k, v, e) :: l).length by simp; omega]; exact hK) fun X4 h => h
          · refine Or.inr ⟨s, w, a', T2, b1, hc _ fun st num h => stop_comma hP hn hX (by omega) hcm h (b2 0), fun K KK m hjm hK hKK => hm _ (hKK _ ?_)⟩
            obtain ⟨m', rfl⟩ : ∃ m', m = m' + 1 := ⟨m - 1, by omega⟩
            rw [wpl_X5_fault_19]
            refine ky (sm07 _ _ _ _ _) (nx_q hZ hn (by omega) (ky hcm fun X16 e16 => ?_))
            rw [e16, sm06, nI_1, sm_s]
            exact b3 K _ m' (by omega) hK fun X4 h => h
        · refine Or.inr ⟨e, 0, a + 1, T1, e2, hc _ fun st num h => stop_bad hP hn hX (by omega) hcm h, fun K KK m hjm hK hKK => hm _ (hKK _ ?_)⟩
          obtain ⟨m', rfl⟩ : ∃ m', m = m' + 1 := ⟨m - 1, by omega⟩
          rw [wpl_X5_fault_19]
          refine ky (sm07 _ _ _ _ _) (nx_q hZ hn (by omega) (kn hcm (ky (sm07 _ _ _ _ _) (kn ?_ ?_))))
          · rw [sm05, sm06, hZ]; exact nI_ge (by omega) (by omega)
          · rw [sm06]; exact hK
    · refine Or.inr ⟨s, 1, a', T1, hs, hc, fun K KK m hjm hK hKK => hm _ (hKK _ ?_)⟩
      obtain ⟨m', rfl⟩ : ∃ m', m = m' + 1 := ⟨m - 1, by omega⟩
      rw [wpl_X5_fault_19]
      refine kn (by rw [sm07]; decide) (kn (by rw [sm07]; decide) ?_)
      rw [sm06]; exact hK
theorem PD_tx {P M : ES} {n : Nat} (h : ∀ k, k < n → ∃ v : Nat, 33 ≤ v ∧ v ≤ 126 ∧ P 1 k = nI v ∧ M 5 k = nI v) : TX n (P 1) = TX n (M 5) := by
  funext k
  by_cases z : k < n
  · obtain ⟨v, -, -, a, b⟩ := h k z
    rw [TX, TX, if_pos z, if_pos z, a, b]
  · rw [TX, TX, if_neg z, if_neg z]
/-- what both readers say of the text -/
theorem x_fault {P M : ES} (hP : PD P M) : ∃ (r : Int32) (n s : Nat) (w : Int32) (a : Nat) (T : CS), n ≤ 60 ∧ P 0 1 = nI n ∧ M 0 5 = nI n ∧ TX n (P 1) = TX n (M 5) ∧ (∀ K : Int32 → Prop, K r → wp_X3_firstFault P K) ∧ (∀ K : Int32 → ES → Prop, K r (sm M s w a T) → wp_X5_fault M K) ∧ (r = -6 → ∃ l : List (Nat × Nat × Nat), a = l.length ∧ AL P (TX n (M 5)) n 0 l ∧ TB T 0 0 l) := by
  obtain ⟨n, n60, hp, hm, hv⟩ := hP
  have hX := PD_tx hv
  have s0 : ∀ X1 X2 X3 : ES, X1 = va_up M 0 (upd (M 0) 6 0) → X2 = va_up X1 0 (upd (X1 0) 7 0) → X3 = va_up X2 0 (upd (X2 0) 9 0) → X3 = sm M 0 0 0 (M 6) := by
    intro X1 X2 X3 e1 e2 e3
    rw [e3, e2, e1, vuS, vuU, vuS, vuU]
    funext k
    by_cases h0 : k = 0
    · subst h0; rw [vuS, sm_0]; rfl
    · rw [vuN h0]
      by_cases h6 : k = 6
      · subst h6; rw [sm_6]
      · rw [sm_k _ _ _ _ _ h0 h6]
  rcases fl_loop hp hm n60 hX n 0 0 (M 6) (by omega) (by omega) with ⟨l, T, b1, b2, -, b4, b5⟩ | ⟨s, w, a, T, b1, b2, b3⟩
  · refine ⟨-6, n, n, 0, l.length, T, n60, hp, hm, hX, fun K hK => ⟨n + 1, ?_⟩, fun K hK X1 e1 X2 e2 X3 e3 => ?_, fun _ => ⟨l, rfl, b1, b2⟩⟩
    · have := b4 0 K hK
      rw [Nat.sub_zero] at this
      unfold KF at this
      rw [← hp] at this
      exact this
    · rw [s0 X1 X2 X3 e1 e2 e3]
      refine b5 K _ (n + 1) (by omega) (by rw [Nat.zero_add]; exact hK) fun X4 h => ⟨n + 1, h⟩
  · refine ⟨nI s, n, s, w, a, T, n60, hp, hm, hX, fun K hK => ⟨n + 1, ?_⟩, fun K hK X1 e1 X2 e2 X3 e3 => ?_, fun z => absurd z (nI_neg (by omega))⟩
    · have := b2 0 K hK
      rw [Nat.sub_zero] at this
      unfold KF at this
      rw [← hp] at this
      exact this
    · rw [s0 X1 X2 X3 e1 e2 e3]
      refine b3 K _ (n + 1) (by omega) hK fun X4 h => ⟨n + 1, h⟩
