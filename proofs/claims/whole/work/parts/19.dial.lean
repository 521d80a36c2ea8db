-- ===== dial =====
theorem or_n {a b k : Nat} (ha : a < 2 ^ k) (hk : 2 ^ k ≤ 2 ^ 12) (hb : b ≤ 9) : nI a ||| nI (b * 2 ^ k) = nI (a + 2 ^ k * b) := by
  have h1 : 2 ^ k * b ≤ 2 ^ 12 * 9 := Nat.mul_le_mul hk hb
  apply Int32.toBitVec_inj.mp
  apply BitVec.eq_of_toNat_eq
  rw [Int32.toBitVec_or, BitVec.toNat_or, pk_tn (by omega), pk_tn (by rw [Nat.mul_comm]; omega), pk_tn (by omega), Nat.or_comm, Nat.mul_comm b, ← Nat.two_pow_add_eq_or_of_lt ha, Nat.add_comm]
theorem packL_app (v : Nat) : ∀ ds : List Nat, packL (ds ++ [v]) = packL ds + 2 ^ (4 * ds.length) * v
  | [] => by simp [packL]
  | u :: r => by
    have e : 4 * (r.length + 1) = 4 * r.length + 4 := by omega
    have e2 : (2 : Nat) ^ (4 * r.length + 4) * v = 16 * (2 ^ (4 * r.length) * v) := by
      rw [Nat.pow_add, Nat.mul_comm (2 ^ (4 * r.length)), Nat.mul_assoc]
    simp only [List.cons_append, packL, List.length_cons, packL_app v r, e, e2]
    omega
theorem or_pack {ds : List Nat} {v : Nat} (hd : ∀ u ∈ ds, u ≤ 9) (hn : ds.length ≤ 3) (hv : v ≤ 9) : nI (packL ds) ||| (nI v <<< (4 * nI ds.length &&& 31)) = nI (packL (ds ++ [v])) := by
  have hp := packL_lt ds hd
  rw [packL_app]
  have e : (16 : Nat) ^ ds.length = 2 ^ (4 * ds.length) := by rw [Nat.pow_mul]
  rw [e] at hp
  rcases (by omega : ds.length = 0 ∨ ds.length = 1 ∨ ds.length = 2 ∨ ds.length = 3) with n | n | n | n <;> rw [n] at hp ⊢
  · rw [pk_shlN _ 0 (by decide) (by omega)]; exact or_n hp (by decide) hv
  · rw [pk_shlN _ 4 (by decide) (by omega)]; exact or_n hp (by decide) hv
  · rw [pk_shlN _ 8 (by decide) (by omega)]; exact or_n hp (by decide) hv
  · rw [pk_shlN _ 12 (by decide) (by omega)]; exact or_n hp (by decide) hv
theorem LD_app {L N L' N' : CS} {ds : List Nat} {v : Nat} (hD : LD L N ds) (hn : ds.length ≤ 3) (hv : v ≤ 9) (h4 : L' 4 = L 4 ||| (nI v <<< (4 * nI ds.length &&& 31))) (h10 : N' 10 = nI (ds.length + 1)) (hv6 : N' (6 + ds.length) = nI v) (ho : ∀ k, k < ds.length → N' (6 + k) = N (6 + k)) : LD L' N' (ds ++ [v]) := by
  obtain ⟨d1, d2, d3, d4, d5⟩ := hD
  refine ⟨by simp; omega, fun u hu => ?_, by simpa using h10, fun k u hu => ?_, ?_⟩
  · rcases List.mem_append.mp hu with z | z
    · exact d2 u z
    · rw [List.mem_singleton.mp z]; exact hv
  · by_cases hk : k < ds.length
    · rw [List.getElem?_append_left hk] at hu
      rw [ho k hk]; exact d4 k u hu
    · by_cases ek : k = ds.length
      · subst ek
        rw [List.getElem?_append_right (Nat.le_refl _)] at hu
        simp at hu
        subst hu
        exact hv6
      · rw [List.getElem?_eq_none (by simp; omega)] at hu
        exact absurd hu (by simp)
  · rw [h4, d5]; exact or_pack d2 hn hv
set_option maxHeartbeats 2000000 in
theorem sim_dialP {q nf i v : Nat} {X : ES} {h : CS} {N G : ES} (hR : XR q nf X h N G) (hi : i < 16) (hv : v ≤ 9) : SimD q nf (fun K => wp_X0_dialDigit X (nI i) (nI v) K) (fun Z K => wp_X5_dial (ms Z h N G) (nI i) (nI v) K) (h 0) (fun X' => X (6 + i) 0 = 2 → X' (6 + i) 0 = 2 ∧ ¬ X' (6 + i) 5 = 0) := by
  obtain ⟨⟨l0, l1, l2, l3, l5⟩, ds, hD, hS⟩ := hR.2.1 i hi
  have n6 : ¬ (0 = 6 + i) := by omega
  have v0 : ¬ nI v < 0 := nI_pos (by omega)
  have v9 : ¬ 9 < nI v := nI_nlt (b := v) (a := 9) (by omega) (by decide)
  have d1 := hD.1
  have d3 := hD.2.2.1
  by_cases e23 : N i 0 = 2 ∨ N i 0 = 3
  · have hl8 : N i 1 = 1 ∧ X (6 + i) 8 = 0 := by
      rcases e23 with e | e <;> (simp [LSt, e] at hS; exact hS)
    have i23 : ∀ K : Int32 → Prop, K 1 → wp_X5_in (N i 0) 2 3 K := by
      intro K hK
      rcases e23 with e | e <;> exact in_yes (by rw [e]; decide) (by rw [e]; decide) hK
    by_cases e4 : ds.length = 4
    · have q4 : N i 10 = 4 := by rw [d3, e4]; rfl
      have c4 : ¬ X (6 + i) 5 < 4 := by rw [l5, q4]; decide
      apply simD (r := -4) (X' := X) (h' := h) (N' := N) (G' := G)
      · intro K hK
        simp only [wp_X0_dialDigit, lix_nI hi, l0]
        rcases e23 with e | e
        · exact ⟨fun _ => ⟨fun z => absurd z c4, fun _ => hK⟩, fun z => absurd e z⟩
        · exact ⟨fun z => absurd (e.symm.trans z) (by decide), fun _ => ⟨fun _ => ⟨fun z => absurd z c4, fun _ => hK⟩, fun z => absurd e z⟩⟩
      · intro Z K hK
        refine isLine_q hi ⟨fun z => absurd z (by decide), fun _ => in_yes v0 v9 ⟨fun z => absurd z (by decide), fun _ => ?_⟩⟩
        simp only [of_0 hi, of_10 hi]
        refine i23 _ ⟨fun z => absurd z (by decide), fun _ => ⟨fun _ => hK, fun z => absurd q4 z⟩⟩
      · exact hR
      · rfl
      · exact fun z => ⟨z, by rw [l5, q4]; decide⟩
    · have hn : ds.length ≤ 3 := by omega
      have q4 : ¬ N i 10 = 4 := by rw [d3]; exact fun z => e4 (nI_inj (b := 4) (by omega) (by decide) z)
      have c4 : X (6 + i) 5 < 4 := by rw [l5, d3]; exact nI_lt (b := 4) (by omega) (by decide)
      have e6 : (6 : Int32) + N i 10 = nI (6 + ds.length) := by rw [d3]; exact (Int32.ofNat_add 6 ds.length).symm
      have e11 : N i 10 + 1 = nI (ds.length + 1) := by rw [d3, nI_1]
      apply simD (r := N i 10 + 1)
      · intro K hK
        simp only [wp_X0_dialDigit, wp_X2_appendDigit, forall_eq, lix_nI hi, l0, vuS]
        have hK2 : K (upd (upd (X (6 + i)) 4 (X (6 + i) 4 ||| (nI v <<< (4 * X (6 + i) 5 &&& 31)))) 5 (upd (X (6 + i)) 4 (X (6 + i) 4 ||| (nI v <<< (4 * X (6 + i) 5 &&& 31))) 5 + 1) 5) (va_up X (6 + i) (upd (upd (X (6 + i)) 4 (X (6 + i) 4 ||| (nI v <<< (4 * X (6 + i) 5 &&& 31)))) 5 (upd (X (6 + i)) 4 (X (6 + i) 4 ||| (nI v <<< (4 * X (6 + i) 5 &&& 31))) 5 + 1))) := by
          have e : N i 10 + 1 = upd (upd (X (6 + i)) 4 (X (6 + i) 4 ||| (nI v <<< (4 * X (6 + i) 5 &&& 31)))) 5 (upd (X (6 + i)) 4 (X (6 + i) 4 ||| (nI v <<< (4 * X (6 + i) 5 &&& 31))) 5 + 1) 5 := by simp [updA, l5]
          rw [← e]
          exact hK
        rcases e23 with e | e
        · exact ⟨fun _ => ⟨fun _ => hK2, fun z => absurd c4 z⟩, fun z => absurd e z⟩
        · exact ⟨fun z => absurd (e.symm.trans z) (by decide), fun _ => ⟨fun _ => ⟨fun _ => hK2, fun z => absurd c4 z⟩, fun z => absurd e z⟩⟩
      · intro Z K hK
        refine isLine_q hi ⟨fun z => absurd z (by decide), fun _ => in_yes v0 v9 ⟨fun z => absurd z (by decide), fun _ => ?_⟩⟩
        simp only [of_0 hi, of_10 hi]
        refine i23 _ ⟨fun z => absurd z (by decide), fun _ => ⟨fun z => absurd z q4, fun _ => ?_⟩⟩
        rw [q_lay hi (w := 6 + ds.length) (by omega) e6]
        simp only [lay_10 hi, vuS, vuU]
        exact hK
      · refine XR_ln hR hi (Nat.le_refl q) (vuS _ _ _) (fun k k1 k2 => vuN k1) rfl ?_ ?_ (by simp [updA]) (Or.inl (by simp [updA]))
        · rw [vuN n6]; exact hR.1
        · have u0 : ¬ (0 = 6 + ds.length) := by omega
          have u1 : ¬ (1 = 6 + ds.length) := by omega
          have u2 : ¬ (2 = 6 + ds.length) := by omega
          have u3 : ¬ (3 = 6 + ds.length) := by omega
          have u6 : ¬ (6 + ds.length = 10) := by omega
          refine ⟨by simp [updA, u0, u1, u2, u3, l0, l1, l2, l3, l5], ds ++ [v], LD_app hD hn hv (by simp [updA, l5, d3]) (by simp [updA, e11]) (by simp [updA]; omega) (fun k hk => ?_), ?_⟩
          · have y1 : ¬ (6 + k = 10) := by omega
            have y2 : ¬ (k = ds.length) := by omega
            simp [updA, y1, y2]
          · refine Or.inr (Or.inr (Or.inl ⟨?_, ?_, ?_⟩))
            · simp only [updA, u0, if_false]; simp; rcases e23 with e | e <;> simp [e]
            · simp only [updA, u1, if_false]; simpa using hl8.1
            · simpa [updA] using hl8.2
      · rfl
      · intro z
        rw [vuS]
        refine ⟨by simp [updA, z], ?_⟩
        have : X (6 + i) 5 + 1 = nI (ds.length + 1) := by rw [l5]; exact e11
        simp [updA, this]
        exact nI_ne0 (by omega) (by omega)
  · have e2 : ¬ N i 0 = 2 := fun z => e23 (Or.inl z)
    have e3 : ¬ N i 0 = 3 := fun z => e23 (Or.inr z)
    apply simD (r := -5) (X' := X) (h' := h) (N' := N) (G' := G)
    · intro K hK
      simp only [wp_X0_dialDigit, lix_nI hi, l0]
      exact ⟨fun z => absurd z e2, fun _ => ⟨fun z => absurd z e3, fun _ => hK⟩⟩
    · intro Z K hK
      refine isLine_q hi ⟨fun z => absurd z (by decide), fun _ => in_yes v0 v9 ⟨fun z => absurd z (by decide), fun _ => ?_⟩⟩
      simp only [of_0 hi]
      have i23 : ∀ K : Int32 → Prop, K 0 → wp_X5_in (N i 0) 2 3 K := by
        intro K hK
        rcases hS with h1 | h1 | h1 | h1 | h1 | h1
        · exact in_no (by rw [h1.1]; decide) hK
        · exact in_no (by rw [h1.1]; decide) hK
        · rcases h1.1 with e | e | e | e | e | e
          · exact absurd e e2
          · exact absurd e e3
          · exact in_no (by rw [e]; decide) hK
          · exact in_no (by rw [e]; decide) hK
          · exact in_no (by rw [e]; decide) hK
          · exact in_no (by rw [e]; decide) hK
        · rcases h1.1 with e | e <;> exact in_no (by rw [e]; decide) hK
        · exact in_no (by rw [h1.1]; decide) hK
        · exact in_no (by rw [h1.1]; decide) hK
      exact i23 _ ⟨fun _ => hK, fun z => absurd rfl z⟩
    · exact hR
    · rfl
    · exact fun z => absurd (l0.symm.trans z) e2
theorem sim_dial {q nf i v : Nat} {X : ES} {h : CS} {N G : ES} (hR : XR q nf X h N G) (hi : i < 16) (hv : v ≤ 9) : SimI q nf (fun K => wp_X0_dialDigit X (nI i) (nI v) K) (fun Z K => wp_X5_dial (ms Z h N G) (nI i) (nI v) K) (h 0) () () := (sim_dialP hR hi hv).toI
