-- ===== the pure side: the model's row of numbers as a head, lines and finders =====
def flat (h : CS) (N G : ES) : CS := fun a => if a < 17 then h a else if a < 193 then N ((a - 17) / 11) ((a - 17) % 11) else G ((a - 193) / 10) ((a - 193) % 10)
def ms (Z : ES) (h : CS) (N G : ES) : ES := va_up Z 1 (flat h N G)
theorem ms_of (M : ES) : M = ms M (M 1) (fun i w => M 1 (17 + 11 * i + w)) (fun f w => M 1 (193 + 10 * f + w)) := by
  funext k
  by_cases hk : k = 1
  · subst hk
    rw [ms, vuS]
    funext a
    unfold flat
    by_cases h1 : a < 17
    · rw [if_pos h1]
    · rw [if_neg h1]
      by_cases h2 : a < 193
      · rw [if_pos h2]
        show M 1 a = M 1 (17 + 11 * ((a - 17) / 11) + (a - 17) % 11)
        exact congrArg (M 1) (by omega)
      · rw [if_neg h2]
        show M 1 a = M 1 (193 + 10 * ((a - 193) / 10) + (a - 193) % 10)
        exact congrArg (M 1) (by omega)
  · rw [ms, vuN hk]
theorem ms_1 (Z : ES) (h : CS) (N G : ES) : ms Z h N G 1 = flat h N G := vuS _ _ _
theorem ms_up (Z : ES) (h : CS) (N G : ES) (L : CS) : va_up (ms Z h N G) 1 L = va_up Z 1 L := vuU _ _ _ _
theorem flat_h {h : CS} {N G : ES} {a : Nat} (ha : a < 17) : flat h N G a = h a := by simp [flat, ha]
theorem flat_l {h : CS} {N G : ES} {i w : Nat} (hi : i < 16) (hw : w < 11) : flat h N G (17 + 11 * i + w) = N i w := by
  have h1 : ¬ 17 + 11 * i + w < 17 := by omega
  have h2 : 17 + 11 * i + w < 193 := by omega
  have h3 : (17 + 11 * i + w - 17) / 11 = i := by omega
  have h4 : (17 + 11 * i + w - 17) % 11 = w := by omega
  simp only [flat, if_neg h1, if_pos h2, h3, h4]
theorem flat_f {h : CS} {N G : ES} {f w : Nat} (hw : w < 10) : flat h N G (193 + 10 * f + w) = G f w := by
  have h1 : ¬ 193 + 10 * f + w < 17 := by omega
  have h2 : ¬ 193 + 10 * f + w < 193 := by omega
  have h3 : (193 + 10 * f + w - 193) / 10 = f := by omega
  have h4 : (193 + 10 * f + w - 193) % 10 = w := by omega
  simp only [flat, if_neg h1, if_neg h2, h3, h4]
theorem flat_hu {h : CS} {N G : ES} {a : Nat} {v : Int32} (ha : a < 17) : upd (flat h N G) a v = flat (upd h a v) N G := by
  funext b
  unfold upd flat
  by_cases h1 : b = a
  · subst h1; simp [ha]
  · simp [h1]
theorem flat_lu {h : CS} {N G : ES} {i w : Nat} {v : Int32} (hi : i < 16) (hw : w < 11) : upd (flat h N G) (17 + 11 * i + w) v = flat h (va_up N i (upd (N i) w v)) G := by
  funext b
  unfold upd flat va_up
  by_cases h1 : b = 17 + 11 * i + w
  · subst h1
    have h1 : ¬ 17 + 11 * i + w < 17 := by omega
    have h2 : 17 + 11 * i + w < 193 := by omega
    have h3 : (17 + 11 * i + w - 17) / 11 = i := by omega
    have h4 : (17 + 11 * i + w - 17) % 11 = w := by omega
    simp [h1, h2, h3, h4]
  · by_cases h2 : b < 17
    · simp [h1, h2]
    · by_cases h3 : b < 193
      · by_cases h4 : (b - 17) / 11 = i
        · have h5 : ¬ (b - 17) % 11 = w := by omega
          simp [h1, h2, h3, h4, h5]
        · simp [h1, h2, h3, h4]
      · simp [h1, h2, h3]
theorem flat_fu {h : CS} {N G : ES} {f w : Nat} {v : Int32} (hw : w < 10) : upd (flat h N G) (193 + 10 * f + w) v = flat h N (va_up G f (upd (G f) w v)) := by
  funext b
  unfold upd flat va_up
  by_cases h1 : b = 193 + 10 * f + w
  · subst h1
    have h1 : ¬ 193 + 10 * f + w < 17 := by omega
    have h2 : ¬ 193 + 10 * f + w < 193 := by omega
    have h3 : (193 + 10 * f + w - 193) / 10 = f := by omega
    have h4 : (193 + 10 * f + w - 193) % 10 = w := by omega
    simp [h1, h2, h3, h4]
  · by_cases h2 : b < 17
    · simp [h1, h2]
    · by_cases h3 : b < 193
      · simp [h1, h2, h3]
      · by_cases h4 : (b - 193) / 10 = f
        · have h5 : ¬ (b - 193) % 10 = w := by omega
          simp [h1, h2, h3, h4, h5]
        · simp [h1, h2, h3, h4]
theorem ixL {i w : Nat} (hi : i < 16) (hw : w < 11) : (17 + 11 * nI i) + nI w = nI (17 + 11 * i + w) := by
  have h : (17 : Int32) = nI 17 := rfl
  have h2 : (11 : Int32) = nI 11 := rfl
  rw [h, h2, pk_mul, nI_add, nI_add]
theorem ixF {f w : Nat} : (193 + 10 * nI f) + nI w = nI (193 + 10 * f + w) := by
  have h : (193 : Int32) = nI 193 := rfl
  have h2 : (10 : Int32) = nI 10 := rfl
  rw [h, h2, pk_mul, nI_add, nI_add]
theorem nIn {n N : Nat} (h : n < N) (hN : N < 2 ^ 31) : vp_in (nI n) N := vp_in_nI h hN
theorem q_of {Z : ES} {h : CS} {N G : ES} {i w : Nat} {x : Int32} {K : Int32 → Prop} (hi : i < 16) (hw : w < 11) (hx : x = nI w) : wp_X5_of (ms Z h N G) (nI i) x K = K (N i w) := by
  subst hx
  unfold wp_X5_of
  rw [ixL hi hw, nI_clamp (by omega), ms_1, flat_l hi hw]
  exact propext ⟨fun q => q.2, fun q => ⟨nIn (by omega) (by decide), q⟩⟩
theorem q_lay {Z : ES} {h : CS} {N G : ES} {i w : Nat} {x v : Int32} {K : ES → Prop} (hi : i < 16) (hw : w < 11) (hx : x = nI w) : wp_X5_lay (ms Z h N G) (nI i) x v K = K (ms Z h (va_up N i (upd (N i) w v)) G) := by
  subst hx
  unfold wp_X5_lay
  rw [ixL hi hw, nI_clamp (by omega), ms_1, flat_lu hi hw, ms_up]
  exact propext ⟨fun q => q.2 _ rfl, fun q => ⟨nIn (by omega) (by decide), fun _ e => e ▸ q⟩⟩
theorem q_ofF {Z : ES} {h : CS} {N G : ES} {f w : Nat} {x : Int32} {K : Int32 → Prop} (hf : f < 4) (hw : w < 10) (hx : x = nI w) : wp_X5_ofFinder (ms Z h N G) (nI f) x K = K (G f w) := by
  subst hx
  unfold wp_X5_ofFinder
  rw [ixF, nI_clamp (by omega), ms_1, flat_f hw]
  exact propext ⟨fun q => q.2, fun q => ⟨nIn (by omega) (by decide), q⟩⟩
theorem q_layF {Z : ES} {h : CS} {N G : ES} {f w : Nat} {x v : Int32} {K : ES → Prop} (hf : f < 4) (hw : w < 10) (hx : x = nI w) : wp_X5_layFinder (ms Z h N G) (nI f) x v K = K (ms Z h N (va_up G f (upd (G f) w v))) := by
  subst hx
  unfold wp_X5_layFinder
  rw [ixF, nI_clamp (by omega), ms_1, flat_fu hw, ms_up]
  exact propext ⟨fun q => q.2 _ rfl, fun q => ⟨nIn (by omega) (by decide), fun _ e => e ▸ q⟩⟩
theorem q_set {Z : ES} {h : CS} {N G : ES} {w : Nat} {x : Int32} {K : Int32 → Prop} (hw : w < 5) (hx : x = nI w) : wp_X5_setting (ms Z h N G) x K = K (h (5 + w)) := by
  subst hx
  unfold wp_X5_setting
  rw [show (5 : Int32) + nI w = nI (5 + w) from nI_add 5 w, nI_clamp (by omega), ms_1, flat_h (by omega)]
  exact propext ⟨fun q => q.2, fun q => ⟨nIn (by omega) (by decide), q⟩⟩
theorem q_cnt {Z : ES} {h : CS} {N G : ES} {w : Nat} {x : Int32} {K : ES → Prop} (hw : w < 7) (hx : x = nI w) : wp_X5_countOne (ms Z h N G) x K = K (ms Z (upd h (10 + w) (h (10 + w) + 1)) N G) := by
  subst hx
  unfold wp_X5_countOne
  rw [show (10 : Int32) + nI w = nI (10 + w) from nI_add 10 w, nI_clamp (by omega), ms_1, flat_h (by omega), flat_hu (by omega), ms_up]
  exact propext ⟨fun q => q.2.2 _ rfl, fun q => ⟨nIn (by omega) (by decide), nIn (by omega) (by decide), fun _ e => e ▸ q⟩⟩
