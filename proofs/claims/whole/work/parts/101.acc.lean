theorem of_0 {Z : ES} {h : CS} {N G : ES} {i : Nat} {K : Int32 → Prop} (hi : i < 16) : wp_X5_of (ms Z h N G) (nI i) 0 K = K (N i 0) := q_of hi (by decide) rfl
theorem lay_0 {Z : ES} {h : CS} {N G : ES} {i : Nat} {v : Int32} {K : ES → Prop} (hi : i < 16) : wp_X5_lay (ms Z h N G) (nI i) 0 v K = K (ms Z h (va_up N i (upd (N i) 0 v)) G) := q_lay hi (by decide) rfl
theorem of_1 {Z : ES} {h : CS} {N G : ES} {i : Nat} {K : Int32 → Prop} (hi : i < 16) : wp_X5_of (ms Z h N G) (nI i) 1 K = K (N i 1) := q_of hi (by decide) rfl
theorem lay_1 {Z : ES} {h : CS} {N G : ES} {i : Nat} {v : Int32} {K : ES → Prop} (hi : i < 16) : wp_X5_lay (ms Z h N G) (nI i) 1 v K = K (ms Z h (va_up N i (upd (N i) 1 v)) G) := q_lay hi (by decide) rfl
theorem of_2 {Z : ES} {h : CS} {N G : ES} {i : Nat} {K : Int32 → Prop} (hi : i < 16) : wp_X5_of (ms Z h N G) (nI i) 2 K = K (N i 2) := q_of hi (by decide) rfl
theorem lay_2 {Z : ES} {h : CS} {N G : ES} {i : Nat} {v : Int32} {K : ES → Prop} (hi : i < 16) : wp_X5_lay (ms Z h N G) (nI i) 2 v K = K (ms Z h (va_up N i (upd (N i) 2 v)) G) := q_lay hi (by decide) rfl
theorem of_3 {Z : ES} {h : CS} {N G : ES} {i : Nat} {K : Int32 → Prop} (hi : i < 16) : wp_X5_of (ms Z h N G) (nI i) 3 K = K (N i 3) := q_of hi (by decide) rfl
theorem lay_3 {Z : ES} {h : CS} {N G : ES} {i : Nat} {v : Int32} {K : ES → Prop} (hi : i < 16) : wp_X5_lay (ms Z h N G) (nI i) 3 v K = K (ms Z h (va_up N i (upd (N i) 3 v)) G) := q_lay hi (by decide) rfl
theorem of_4 {Z : ES} {h : CS} {N G : ES} {i : Nat} {K : Int32 → Prop} (hi : i < 16) : wp_X5_of (ms Z h N G) (nI i) 4 K = K (N i 4) := q_of hi (by decide) rfl
theorem lay_4 {Z : ES} {h : CS} {N G : ES} {i : Nat} {v : Int32} {K : ES → Prop} (hi : i < 16) : wp_X5_lay (ms Z h N G) (nI i) 4 v K = K (ms Z h (va_up N i (upd (N i) 4 v)) G) := q_lay hi (by decide) rfl
theorem of_5 {Z : ES} {h : CS} {N G : ES} {i : Nat} {K : Int32 → Prop} (hi : i < 16) : wp_X5_of (ms Z h N G) (nI i) 5 K = K (N i 5) := q_of hi (by decide) rfl
theorem lay_5 {Z : ES} {h : CS} {N G : ES} {i : Nat} {v : Int32} {K : ES → Prop} (hi : i < 16) : wp_X5_lay (ms Z h N G) (nI i) 5 v K = K (ms Z h (va_up N i (upd (N i) 5 v)) G) := q_lay hi (by decide) rfl
theorem of_6 {Z : ES} {h : CS} {N G : ES} {i : Nat} {K : Int32 → Prop} (hi : i < 16) : wp_X5_of (ms Z h N G) (nI i) 6 K = K (N i 6) := q_of hi (by decide) rfl
theorem lay_6 {Z : ES} {h : CS} {N G : ES} {i : Nat} {v : Int32} {K : ES → Prop} (hi : i < 16) : wp_X5_lay (ms Z h N G) (nI i) 6 v K = K (ms Z h (va_up N i (upd (N i) 6 v)) G) := q_lay hi (by decide) rfl
theorem of_7 {Z : ES} {h : CS} {N G : ES} {i : Nat} {K : Int32 → Prop} (hi : i < 16) : wp_X5_of (ms Z h N G) (nI i) 7 K = K (N i 7) := q_of hi (by decide) rfl
theorem lay_7 {Z : ES} {h : CS} {N G : ES} {i : Nat} {v : Int32} {K : ES → Prop} (hi : i < 16) : wp_X5_lay (ms Z h N G) (nI i) 7 v K = K (ms Z h (va_up N i (upd (N i) 7 v)) G) := q_lay hi (by decide) rfl
theorem of_8 {Z : ES} {h : CS} {N G : ES} {i : Nat} {K : Int32 → Prop} (hi : i < 16) : wp_X5_of (ms Z h N G) (nI i) 8 K = K (N i 8) := q_of hi (by decide) rfl
theorem lay_8 {Z : ES} {h : CS} {N G : ES} {i : Nat} {v : Int32} {K : ES → Prop} (hi : i < 16) : wp_X5_lay (ms Z h N G) (nI i) 8 v K = K (ms Z h (va_up N i (upd (N i) 8 v)) G) := q_lay hi (by decide) rfl
theorem of_9 {Z : ES} {h : CS} {N G : ES} {i : Nat} {K : Int32 → Prop} (hi : i < 16) : wp_X5_of (ms Z h N G) (nI i) 9 K = K (N i 9) := q_of hi (by decide) rfl
theorem lay_9 {Z : ES} {h : CS} {N G : ES} {i : Nat} {v : Int32} {K : ES → Prop} (hi : i < 16) : wp_X5_lay (ms Z h N G) (nI i) 9 v K = K (ms Z h (va_up N i (upd (N i) 9 v)) G) := q_lay hi (by decide) rfl
theorem of_10 {Z : ES} {h : CS} {N G : ES} {i : Nat} {K : Int32 → Prop} (hi : i < 16) : wp_X5_of (ms Z h N G) (nI i) 10 K = K (N i 10) := q_of hi (by decide) rfl
theorem lay_10 {Z : ES} {h : CS} {N G : ES} {i : Nat} {v : Int32} {K : ES → Prop} (hi : i < 16) : wp_X5_lay (ms Z h N G) (nI i) 10 v K = K (ms Z h (va_up N i (upd (N i) 10 v)) G) := q_lay hi (by decide) rfl
theorem ofF_0 {Z : ES} {h : CS} {N G : ES} {f : Nat} {K : Int32 → Prop} (hf : f < 4) : wp_X5_ofFinder (ms Z h N G) (nI f) 0 K = K (G f 0) := q_ofF hf (by decide) rfl
theorem layF_0 {Z : ES} {h : CS} {N G : ES} {f : Nat} {v : Int32} {K : ES → Prop} (hf : f < 4) : wp_X5_layFinder (ms Z h N G) (nI f) 0 v K = K (ms Z h N (va_up G f (upd (G f) 0 v))) := q_layF hf (by decide) rfl
theorem ofF_1 {Z : ES} {h : CS} {N G : ES} {f : Nat} {K : Int32 → Prop} (hf : f < 4) : wp_X5_ofFinder (ms Z h N G) (nI f) 1 K = K (G f 1) := q_ofF hf (by decide) rfl
theorem layF_1 {Z : ES} {h : CS} {N G : ES} {f : Nat} {v : Int32} {K : ES → Prop} (hf : f < 4) : wp_X5_layFinder (ms Z h N G) (nI f) 1 v K = K (ms Z h N (va_up G f (upd (G f) 1 v))) := q_layF hf (by decide) rfl
theorem ofF_2 {Z : ES} {h : CS} {N G : ES} {f : Nat} {K : Int32 → Prop} (hf : f < 4) : wp_X5_ofFinder (ms Z h N G) (nI f) 2 K = K (G f 2) := q_ofF hf (by decide) rfl
theorem layF_2 {Z : ES} {h : CS} {N G : ES} {f : Nat} {v : Int32} {K : ES → Prop} (hf : f < 4) : wp_X5_layFinder (ms Z h N G) (nI f) 2 v K = K (ms Z h N (va_up G f (upd (G f) 2 v))) := q_layF hf (by decide) rfl
theorem ofF_3 {Z : ES} {h : CS} {N G : ES} {f : Nat} {K : Int32 → Prop} (hf : f < 4) : wp_X5_ofFinder (ms Z h N G) (nI f) 3 K = K (G f 3) := q_ofF hf (by decide) rfl
theorem layF_3 {Z : ES} {h : CS} {N G : ES} {f : Nat} {v : Int32} {K : ES → Prop} (hf : f < 4) : wp_X5_layFinder (ms Z h N G) (nI f) 3 v K = K (ms Z h N (va_up G f (upd (G f) 3 v))) := q_layF hf (by decide) rfl
theorem ofF_4 {Z : ES} {h : CS} {N G : ES} {f : Nat} {K : Int32 → Prop} (hf : f < 4) : wp_X5_ofFinder (ms Z h N G) (nI f) 4 K = K (G f 4) := q_ofF hf (by decide) rfl
theorem layF_4 {Z : ES} {h : CS} {N G : ES} {f : Nat} {v : Int32} {K : ES → Prop} (hf : f < 4) : wp_X5_layFinder (ms Z h N G) (nI f) 4 v K = K (ms Z h N (va_up G f (upd (G f) 4 v))) := q_layF hf (by decide) rfl
theorem ofF_5 {Z : ES} {h : CS} {N G : ES} {f : Nat} {K : Int32 → Prop} (hf : f < 4) : wp_X5_ofFinder (ms Z h N G) (nI f) 5 K = K (G f 5) := q_ofF hf (by decide) rfl
theorem layF_5 {Z : ES} {h : CS} {N G : ES} {f : Nat} {v : Int32} {K : ES → Prop} (hf : f < 4) : wp_X5_layFinder (ms Z h N G) (nI f) 5 v K = K (ms Z h N (va_up G f (upd (G f) 5 v))) := q_layF hf (by decide) rfl
theorem ofF_6 {Z : ES} {h : CS} {N G : ES} {f : Nat} {K : Int32 → Prop} (hf : f < 4) : wp_X5_ofFinder (ms Z h N G) (nI f) 6 K = K (G f 6) := q_ofF hf (by decide) rfl
theorem layF_6 {Z : ES} {h : CS} {N G : ES} {f : Nat} {v : Int32} {K : ES → Prop} (hf : f < 4) : wp_X5_layFinder (ms Z h N G) (nI f) 6 v K = K (ms Z h N (va_up G f (upd (G f) 6 v))) := q_layF hf (by decide) rfl
theorem ofF_7 {Z : ES} {h : CS} {N G : ES} {f : Nat} {K : Int32 → Prop} (hf : f < 4) : wp_X5_ofFinder (ms Z h N G) (nI f) 7 K = K (G f 7) := q_ofF hf (by decide) rfl
theorem layF_7 {Z : ES} {h : CS} {N G : ES} {f : Nat} {v : Int32} {K : ES → Prop} (hf : f < 4) : wp_X5_layFinder (ms Z h N G) (nI f) 7 v K = K (ms Z h N (va_up G f (upd (G f) 7 v))) := q_layF hf (by decide) rfl
theorem ofF_8 {Z : ES} {h : CS} {N G : ES} {f : Nat} {K : Int32 → Prop} (hf : f < 4) : wp_X5_ofFinder (ms Z h N G) (nI f) 8 K = K (G f 8) := q_ofF hf (by decide) rfl
theorem layF_8 {Z : ES} {h : CS} {N G : ES} {f : Nat} {v : Int32} {K : ES → Prop} (hf : f < 4) : wp_X5_layFinder (ms Z h N G) (nI f) 8 v K = K (ms Z h N (va_up G f (upd (G f) 8 v))) := q_layF hf (by decide) rfl
theorem ofF_9 {Z : ES} {h : CS} {N G : ES} {f : Nat} {K : Int32 → Prop} (hf : f < 4) : wp_X5_ofFinder (ms Z h N G) (nI f) 9 K = K (G f 9) := q_ofF hf (by decide) rfl
theorem layF_9 {Z : ES} {h : CS} {N G : ES} {f : Nat} {v : Int32} {K : ES → Prop} (hf : f < 4) : wp_X5_layFinder (ms Z h N G) (nI f) 9 v K = K (ms Z h N (va_up G f (upd (G f) 9 v))) := q_layF hf (by decide) rfl
theorem set_0 {Z : ES} {h : CS} {N G : ES} {K : Int32 → Prop} : wp_X5_setting (ms Z h N G) 0 K = K (h 5) := q_set (w := 0) (by decide) rfl
theorem set_1 {Z : ES} {h : CS} {N G : ES} {K : Int32 → Prop} : wp_X5_setting (ms Z h N G) 1 K = K (h 6) := q_set (w := 1) (by decide) rfl
theorem set_2 {Z : ES} {h : CS} {N G : ES} {K : Int32 → Prop} : wp_X5_setting (ms Z h N G) 2 K = K (h 7) := q_set (w := 2) (by decide) rfl
theorem set_3 {Z : ES} {h : CS} {N G : ES} {K : Int32 → Prop} : wp_X5_setting (ms Z h N G) 3 K = K (h 8) := q_set (w := 3) (by decide) rfl
theorem set_4 {Z : ES} {h : CS} {N G : ES} {K : Int32 → Prop} : wp_X5_setting (ms Z h N G) 4 K = K (h 9) := q_set (w := 4) (by decide) rfl
theorem cnt_0 {Z : ES} {h : CS} {N G : ES} {K : ES → Prop} : wp_X5_countOne (ms Z h N G) 0 K = K (ms Z (upd h 10 (h 10 + 1)) N G) := q_cnt (w := 0) (by decide) rfl
theorem cnt_1 {Z : ES} {h : CS} {N G : ES} {K : ES → Prop} : wp_X5_countOne (ms Z h N G) 1 K = K (ms Z (upd h 11 (h 11 + 1)) N G) := q_cnt (w := 1) (by decide) rfl
theorem cnt_2 {Z : ES} {h : CS} {N G : ES} {K : ES → Prop} : wp_X5_countOne (ms Z h N G) 2 K = K (ms Z (upd h 12 (h 12 + 1)) N G) := q_cnt (w := 2) (by decide) rfl
theorem cnt_3 {Z : ES} {h : CS} {N G : ES} {K : ES → Prop} : wp_X5_countOne (ms Z h N G) 3 K = K (ms Z (upd h 13 (h 13 + 1)) N G) := q_cnt (w := 3) (by decide) rfl
theorem cnt_4 {Z : ES} {h : CS} {N G : ES} {K : ES → Prop} : wp_X5_countOne (ms Z h N G) 4 K = K (ms Z (upd h 14 (h 14 + 1)) N G) := q_cnt (w := 4) (by decide) rfl
theorem cnt_5 {Z : ES} {h : CS} {N G : ES} {K : ES → Prop} : wp_X5_countOne (ms Z h N G) 5 K = K (ms Z (upd h 15 (h 15 + 1)) N G) := q_cnt (w := 5) (by decide) rfl
theorem cnt_6 {Z : ES} {h : CS} {N G : ES} {K : ES → Prop} : wp_X5_countOne (ms Z h N G) 6 K = K (ms Z (upd h 16 (h 16 + 1)) N G) := q_cnt (w := 6) (by decide) rfl
theorem hd_0 {Z : ES} {h : CS} {N G : ES} : (ms Z h N G) 1 (0 : Int32).toNatClampNeg = h 0 := by rw [ms_1]; exact flat_h (by decide)
theorem hd_1 {Z : ES} {h : CS} {N G : ES} : (ms Z h N G) 1 (1 : Int32).toNatClampNeg = h 1 := by rw [ms_1]; exact flat_h (by decide)
theorem hd_2 {Z : ES} {h : CS} {N G : ES} : (ms Z h N G) 1 (2 : Int32).toNatClampNeg = h 2 := by rw [ms_1]; exact flat_h (by decide)
theorem hd_3 {Z : ES} {h : CS} {N G : ES} : (ms Z h N G) 1 (3 : Int32).toNatClampNeg = h 3 := by rw [ms_1]; exact flat_h (by decide)
theorem hd_4 {Z : ES} {h : CS} {N G : ES} : (ms Z h N G) 1 (4 : Int32).toNatClampNeg = h 4 := by rw [ms_1]; exact flat_h (by decide)
theorem hd_5 {Z : ES} {h : CS} {N G : ES} : (ms Z h N G) 1 (5 : Int32).toNatClampNeg = h 5 := by rw [ms_1]; exact flat_h (by decide)
theorem hd_6 {Z : ES} {h : CS} {N G : ES} : (ms Z h N G) 1 (6 : Int32).toNatClampNeg = h 6 := by rw [ms_1]; exact flat_h (by decide)
theorem hd_7 {Z : ES} {h : CS} {N G : ES} : (ms Z h N G) 1 (7 : Int32).toNatClampNeg = h 7 := by rw [ms_1]; exact flat_h (by decide)
theorem hd_8 {Z : ES} {h : CS} {N G : ES} : (ms Z h N G) 1 (8 : Int32).toNatClampNeg = h 8 := by rw [ms_1]; exact flat_h (by decide)
theorem hd_9 {Z : ES} {h : CS} {N G : ES} : (ms Z h N G) 1 (9 : Int32).toNatClampNeg = h 9 := by rw [ms_1]; exact flat_h (by decide)
theorem hd_10 {Z : ES} {h : CS} {N G : ES} : (ms Z h N G) 1 (10 : Int32).toNatClampNeg = h 10 := by rw [ms_1]; exact flat_h (by decide)
theorem hd_11 {Z : ES} {h : CS} {N G : ES} : (ms Z h N G) 1 (11 : Int32).toNatClampNeg = h 11 := by rw [ms_1]; exact flat_h (by decide)
theorem hd_12 {Z : ES} {h : CS} {N G : ES} : (ms Z h N G) 1 (12 : Int32).toNatClampNeg = h 12 := by rw [ms_1]; exact flat_h (by decide)
theorem hd_13 {Z : ES} {h : CS} {N G : ES} : (ms Z h N G) 1 (13 : Int32).toNatClampNeg = h 13 := by rw [ms_1]; exact flat_h (by decide)
theorem hd_14 {Z : ES} {h : CS} {N G : ES} : (ms Z h N G) 1 (14 : Int32).toNatClampNeg = h 14 := by rw [ms_1]; exact flat_h (by decide)
theorem hd_15 {Z : ES} {h : CS} {N G : ES} : (ms Z h N G) 1 (15 : Int32).toNatClampNeg = h 15 := by rw [ms_1]; exact flat_h (by decide)
theorem hd_16 {Z : ES} {h : CS} {N G : ES} : (ms Z h N G) 1 (16 : Int32).toNatClampNeg = h 16 := by rw [ms_1]; exact flat_h (by decide)
theorem hu_0 {Z : ES} {h : CS} {N G : ES} {v : Int32} : va_up (ms Z h N G) 1 (upd (ms Z h N G 1) (0 : Int32).toNatClampNeg v) = ms Z (upd h 0 v) N G := by rw [ms_1, ms_up]; exact congrArg (va_up Z 1) (flat_hu (a := 0) (by decide))
theorem hu_1 {Z : ES} {h : CS} {N G : ES} {v : Int32} : va_up (ms Z h N G) 1 (upd (ms Z h N G 1) (1 : Int32).toNatClampNeg v) = ms Z (upd h 1 v) N G := by rw [ms_1, ms_up]; exact congrArg (va_up Z 1) (flat_hu (a := 1) (by decide))
theorem hu_2 {Z : ES} {h : CS} {N G : ES} {v : Int32} : va_up (ms Z h N G) 1 (upd (ms Z h N G 1) (2 : Int32).toNatClampNeg v) = ms Z (upd h 2 v) N G := by rw [ms_1, ms_up]; exact congrArg (va_up Z 1) (flat_hu (a := 2) (by decide))
theorem hu_3 {Z : ES} {h : CS} {N G : ES} {v : Int32} : va_up (ms Z h N G) 1 (upd (ms Z h N G 1) (3 : Int32).toNatClampNeg v) = ms Z (upd h 3 v) N G := by rw [ms_1, ms_up]; exact congrArg (va_up Z 1) (flat_hu (a := 3) (by decide))
theorem hu_4 {Z : ES} {h : CS} {N G : ES} {v : Int32} : va_up (ms Z h N G) 1 (upd (ms Z h N G 1) (4 : Int32).toNatClampNeg v) = ms Z (upd h 4 v) N G := by rw [ms_1, ms_up]; exact congrArg (va_up Z 1) (flat_hu (a := 4) (by decide))
theorem hu_5 {Z : ES} {h : CS} {N G : ES} {v : Int32} : va_up (ms Z h N G) 1 (upd (ms Z h N G 1) (5 : Int32).toNatClampNeg v) = ms Z (upd h 5 v) N G := by rw [ms_1, ms_up]; exact congrArg (va_up Z 1) (flat_hu (a := 5) (by decide))
theorem hu_6 {Z : ES} {h : CS} {N G : ES} {v : Int32} : va_up (ms Z h N G) 1 (upd (ms Z h N G 1) (6 : Int32).toNatClampNeg v) = ms Z (upd h 6 v) N G := by rw [ms_1, ms_up]; exact congrArg (va_up Z 1) (flat_hu (a := 6) (by decide))
theorem hu_7 {Z : ES} {h : CS} {N G : ES} {v : Int32} : va_up (ms Z h N G) 1 (upd (ms Z h N G 1) (7 : Int32).toNatClampNeg v) = ms Z (upd h 7 v) N G := by rw [ms_1, ms_up]; exact congrArg (va_up Z 1) (flat_hu (a := 7) (by decide))
theorem hu_8 {Z : ES} {h : CS} {N G : ES} {v : Int32} : va_up (ms Z h N G) 1 (upd (ms Z h N G 1) (8 : Int32).toNatClampNeg v) = ms Z (upd h 8 v) N G := by rw [ms_1, ms_up]; exact congrArg (va_up Z 1) (flat_hu (a := 8) (by decide))
theorem hu_9 {Z : ES} {h : CS} {N G : ES} {v : Int32} : va_up (ms Z h N G) 1 (upd (ms Z h N G 1) (9 : Int32).toNatClampNeg v) = ms Z (upd h 9 v) N G := by rw [ms_1, ms_up]; exact congrArg (va_up Z 1) (flat_hu (a := 9) (by decide))
theorem hu_10 {Z : ES} {h : CS} {N G : ES} {v : Int32} : va_up (ms Z h N G) 1 (upd (ms Z h N G 1) (10 : Int32).toNatClampNeg v) = ms Z (upd h 10 v) N G := by rw [ms_1, ms_up]; exact congrArg (va_up Z 1) (flat_hu (a := 10) (by decide))
theorem hu_11 {Z : ES} {h : CS} {N G : ES} {v : Int32} : va_up (ms Z h N G) 1 (upd (ms Z h N G 1) (11 : Int32).toNatClampNeg v) = ms Z (upd h 11 v) N G := by rw [ms_1, ms_up]; exact congrArg (va_up Z 1) (flat_hu (a := 11) (by decide))
theorem hu_12 {Z : ES} {h : CS} {N G : ES} {v : Int32} : va_up (ms Z h N G) 1 (upd (ms Z h N G 1) (12 : Int32).toNatClampNeg v) = ms Z (upd h 12 v) N G := by rw [ms_1, ms_up]; exact congrArg (va_up Z 1) (flat_hu (a := 12) (by decide))
theorem hu_13 {Z : ES} {h : CS} {N G : ES} {v : Int32} : va_up (ms Z h N G) 1 (upd (ms Z h N G 1) (13 : Int32).toNatClampNeg v) = ms Z (upd h 13 v) N G := by rw [ms_1, ms_up]; exact congrArg (va_up Z 1) (flat_hu (a := 13) (by decide))
theorem hu_14 {Z : ES} {h : CS} {N G : ES} {v : Int32} : va_up (ms Z h N G) 1 (upd (ms Z h N G 1) (14 : Int32).toNatClampNeg v) = ms Z (upd h 14 v) N G := by rw [ms_1, ms_up]; exact congrArg (va_up Z 1) (flat_hu (a := 14) (by decide))
theorem hu_15 {Z : ES} {h : CS} {N G : ES} {v : Int32} : va_up (ms Z h N G) 1 (upd (ms Z h N G 1) (15 : Int32).toNatClampNeg v) = ms Z (upd h 15 v) N G := by rw [ms_1, ms_up]; exact congrArg (va_up Z 1) (flat_hu (a := 15) (by decide))
theorem hu_16 {Z : ES} {h : CS} {N G : ES} {v : Int32} : va_up (ms Z h N G) 1 (upd (ms Z h N G 1) (16 : Int32).toNatClampNeg v) = ms Z (upd h 16 v) N G := by rw [ms_1, ms_up]; exact congrArg (va_up Z 1) (flat_hu (a := 16) (by decide))
theorem vpl {n : Nat} {x : Int32} (h : x = nI n) (h1 : n < 233) : vp_in x 233 := by subst h; exact nIn h1 (by decide)
theorem vpl_0 : vp_in (0 : Int32) 233 ↔ True := iff_true_intro (vpl (n := 0) rfl (by decide))
theorem vpl_1 : vp_in (1 : Int32) 233 ↔ True := iff_true_intro (vpl (n := 1) rfl (by decide))
theorem vpl_2 : vp_in (2 : Int32) 233 ↔ True := iff_true_intro (vpl (n := 2) rfl (by decide))
theorem vpl_3 : vp_in (3 : Int32) 233 ↔ True := iff_true_intro (vpl (n := 3) rfl (by decide))
theorem vpl_4 : vp_in (4 : Int32) 233 ↔ True := iff_true_intro (vpl (n := 4) rfl (by decide))
theorem vpl_5 : vp_in (5 : Int32) 233 ↔ True := iff_true_intro (vpl (n := 5) rfl (by decide))
theorem vpl_6 : vp_in (6 : Int32) 233 ↔ True := iff_true_intro (vpl (n := 6) rfl (by decide))
theorem vpl_7 : vp_in (7 : Int32) 233 ↔ True := iff_true_intro (vpl (n := 7) rfl (by decide))
theorem vpl_8 : vp_in (8 : Int32) 233 ↔ True := iff_true_intro (vpl (n := 8) rfl (by decide))
theorem vpl_9 : vp_in (9 : Int32) 233 ↔ True := iff_true_intro (vpl (n := 9) rfl (by decide))
theorem vpl_10 : vp_in (10 : Int32) 233 ↔ True := iff_true_intro (vpl (n := 10) rfl (by decide))
theorem vpl_11 : vp_in (11 : Int32) 233 ↔ True := iff_true_intro (vpl (n := 11) rfl (by decide))
theorem vpl_12 : vp_in (12 : Int32) 233 ↔ True := iff_true_intro (vpl (n := 12) rfl (by decide))
theorem vpl_13 : vp_in (13 : Int32) 233 ↔ True := iff_true_intro (vpl (n := 13) rfl (by decide))
theorem vpl_14 : vp_in (14 : Int32) 233 ↔ True := iff_true_intro (vpl (n := 14) rfl (by decide))
theorem vpl_15 : vp_in (15 : Int32) 233 ↔ True := iff_true_intro (vpl (n := 15) rfl (by decide))
theorem vpl_16 : vp_in (16 : Int32) 233 ↔ True := iff_true_intro (vpl (n := 16) rfl (by decide))
