set_option maxHeartbeats 16000000 in
set_option maxRecDepth 100000 in
theorem t_L_law {p : Program} {l : Launch} {e : Env} {R : Room} {s : State} {m : MethodId} {args : Array Value} {below : List Frame} {meth : Method} {c : Code} {H : Heap} {locs : List Loc} {cells slots : Nat} {Q : State → Prop} {ls : Array Slot} {g : GG} {lay : LY} {H0 : Heap} {o lo : Nat} {sv : Nat → Option Nat} {flo : CS → va_E} {E0 : ES} {K : Int32 → ES → Prop} {b L : Nat} {xs : Nat → Int32} (hx : p.tables.exec = Jvm.exec) (hb : c.code = code) (hml : c.maxLocals = 9) (hown : s.vm.findClass RL = some m.cls) (hts : ∀ w ∈ lw_gd, w.before args s = true) (hK : KK g s) (hA : okL g lay) (HR : RL4 g lay o sv) (HS : SL g lay o sv) (hlo : lay lo = some flo) (hX : va_X b L xs s H0) (hbl : b < H0.size) (hbA : ¬ Ab g b) (hLs : L ≤ 260) (hRf : 7 ≤ R.frames) (hRl : 165 ≤ R.locals) (hRc : cells + 400 ≤ R.cells) (hRs : slots + 10000 ≤ R.slots) (hret : ∀ (pc : Nat) (_ : decode code pc = .ok (.ireturn, 1)) (v : Int32) (X : ES) (H : Heap) (locs : List Loc) (ls : Array Slot) (cl sl : Nat), cl ≤ cells + 400 → sl ≤ slots + 10000 → K v X → va_S (Ab g) H0 H locs → W p l e R s m args below meth c H locs cl sl Q (F0 m pc ls [.int v])) (hW : Wd g lay E0 H) (hS : va_S (Ab g) H0 H locs) (hl : lv_has ls 9 [(0, .ref b), (1, .ref o)]) (hw : wp_L_law o lo sv E0 K) : W p l e R s m args below meth c H locs cells slots Q (F0 m 8 ls []) := by
  unfold wp_L_law at hw
  refine lv_aload_n hx hb dL_law_8 rfl (lv_at hl 1 rfl) ?_
  refine lv_iconst (v := 1) hx hb dL_law_9 (by decide) ?_
  refine lv_aload_n hx hb dL_law_10 rfl (lv_at hl 0 rfl) ?_
  refine lv_iconst (v := 0) hx hb dL_law_11 (by decide) ?_
  refine lv_iconst (v := 4) hx hb dL_law_12 (by decide) ?_
  refine w_ccell (rest := [.int 1, .ref o]) hx hb hml hown hts hK hW hS hl.1 hX hbl hbA (c_L_cell hLs hw.1.1 hw.1.2 (by decide)) (k_L_41 hts ⟨Nat.le_trans (by decide) hRf, Nat.le_trans (by decide) hRl⟩) (Nat.le_of_ble_eq_true rfl) dL_law_13 ⟨by omega, by omega⟩ (fun r_1 H locs hcv hW hS => ?_)
  have hw := hw.2 r_1 hcv
  refine lv_iadd hx hb dL_law_16 ?_
  refine lv_iconst (v := 1) hx hb dL_law_17 (by decide) ?_
  refine lv_aload_n hx hb dL_law_18 rfl (lv_at hl 0 rfl) ?_
  refine lv_iconst (v := 1) hx hb dL_law_19 (by decide) ?_
  refine lv_iconst (v := 3) hx hb dL_law_20 (by decide) ?_
  refine w_ccell (rest := [.int 1, .int (1 + r_1), .ref o]) hx hb hml hown hts hK hW hS hl.1 hX hbl hbA (c_L_cell hLs hw.1.1 hw.1.2 (by decide)) (k_L_41 hts ⟨Nat.le_trans (by decide) hRf, Nat.le_trans (by decide) hRl⟩) (Nat.le_of_ble_eq_true rfl) dL_law_21 ⟨by omega, by omega⟩ (fun r_2 H locs hcv hW hS => ?_)
  have hw := hw.2 r_2 hcv
  refine lv_iadd hx hb dL_law_24 ?_
  refine w_cvi (As := [.int (1 + r_1), .int (1 + r_2)]) (rest := []) hx hb hml hown hts hK hW hS hl.1 (c_X4_setUp hA HR hw) (k_L_45 hts ⟨Nat.le_trans (by decide) hRf, Nat.le_trans (by decide) hRl⟩) (w_recv hK hW HR.1 rfl rfl rfl) rfl rfl (Nat.le_of_ble_eq_true rfl) dL_law_25 ⟨by omega, by omega⟩ (fun r_3 X_4 H locs hw hW hS => ?_)
  refine lv_pop hx hb dL_law_28 rfl ?_
  refine lv_aload_n hx hb dL_law_29 rfl (lv_at hl 1 rfl) ?_
  refine lv_iconst (v := 0) hx hb dL_law_30 (by decide) ?_
  refine lv_iconst (v := 3) hx hb dL_law_31 (by decide) ?_
  refine lv_aload_n hx hb dL_law_32 rfl (lv_at hl 0 rfl) ?_
  refine lv_iconst (v := 2) hx hb dL_law_33 (by decide) ?_
  refine lv_bipush (v := 20) hx hb dL_law_34 (by decide) ?_
  refine w_ccell (rest := [.int 3, .int 0, .ref o]) hx hb hml hown hts hK hW hS hl.1 hX hbl hbA (c_L_cell hLs hw.1.1 hw.1.2 (by decide)) (k_L_41 hts ⟨Nat.le_trans (by decide) hRf, Nat.le_trans (by decide) hRl⟩) (Nat.le_of_ble_eq_true rfl) dL_law_36 ⟨by omega, by omega⟩ (fun r_5 H locs hcv hW hS => ?_)
  have hw := hw.2 r_5 hcv
  refine lv_iadd hx hb dL_law_39 ?_
  refine w_cvi (As := [.int 0, .int (3 + r_5)]) (rest := []) hx hb hml hown hts hK hW hS hl.1 (c_X4_set hA HR hw) (k_L_48 hts ⟨Nat.le_trans (by decide) hRf, Nat.le_trans (by decide) hRl⟩) (w_recv hK hW HR.1 rfl rfl rfl) rfl rfl (Nat.le_of_ble_eq_true rfl) dL_law_40 ⟨by omega, by omega⟩ (fun r_6 X_7 H locs hw hW hS => ?_)
  refine lv_pop hx hb dL_law_43 rfl ?_
  refine lv_aload_n hx hb dL_law_44 rfl (lv_at hl 1 rfl) ?_
  refine lv_iconst (v := 1) hx hb dL_law_45 (by decide) ?_
  refine lv_iconst (v := 3) hx hb dL_law_46 (by decide) ?_
  refine lv_aload_n hx hb dL_law_47 rfl (lv_at hl 0 rfl) ?_
  refine lv_iconst (v := 3) hx hb dL_law_48 (by decide) ?_
  refine lv_bipush (v := 20) hx hb dL_law_49 (by decide) ?_
  refine w_ccell (rest := [.int 3, .int 1, .ref o]) hx hb hml hown hts hK hW hS hl.1 hX hbl hbA (c_L_cell hLs hw.1.1 hw.1.2 (by decide)) (k_L_41 hts ⟨Nat.le_trans (by decide) hRf, Nat.le_trans (by decide) hRl⟩) (Nat.le_of_ble_eq_true rfl) dL_law_51 ⟨by omega, by omega⟩ (fun r_8 H locs hcv hW hS => ?_)
  have hw := hw.2 r_8 hcv
  refine lv_iadd hx hb dL_law_54 ?_
  refine w_cvi (As := [.int 1, .int (3 + r_8)]) (rest := []) hx hb hml hown hts hK hW hS hl.1 (c_X4_set hA HR hw) (k_L_48 hts ⟨Nat.le_trans (by decide) hRf, Nat.le_trans (by decide) hRl⟩) (w_recv hK hW HR.1 rfl rfl rfl) rfl rfl (Nat.le_of_ble_eq_true rfl) dL_law_55 ⟨by omega, by omega⟩ (fun r_9 X_10 H locs hw hW hS => ?_)
  refine lv_pop hx hb dL_law_58 rfl ?_
  refine lv_aload_n hx hb dL_law_59 rfl (lv_at hl 1 rfl) ?_
  refine lv_iconst (v := 2) hx hb dL_law_60 (by decide) ?_
  refine lv_iconst (v := 1) hx hb dL_law_61 (by decide) ?_
  refine lv_aload_n hx hb dL_law_62 rfl (lv_at hl 0 rfl) ?_
  refine lv_iconst (v := 4) hx hb dL_law_63 (by decide) ?_
  refine lv_bipush (v := 9) hx hb dL_law_64 (by decide) ?_
  refine w_ccell (rest := [.int 1, .int 2, .ref o]) hx hb hml hown hts hK hW hS hl.1 hX hbl hbA (c_L_cell hLs hw.1.1 hw.1.2 (by decide)) (k_L_41 hts ⟨Nat.le_trans (by decide) hRf, Nat.le_trans (by decide) hRl⟩) (Nat.le_of_ble_eq_true rfl) dL_law_66 ⟨by omega, by omega⟩ (fun r_11 H locs hcv hW hS => ?_)
  have hw := hw.2 r_11 hcv
  refine lv_iadd hx hb dL_law_69 ?_
  refine w_cvi (As := [.int 2, .int (1 + r_11)]) (rest := []) hx hb hml hown hts hK hW hS hl.1 (c_X4_set hA HR hw) (k_L_48 hts ⟨Nat.le_trans (by decide) hRf, Nat.le_trans (by decide) hRl⟩) (w_recv hK hW HR.1 rfl rfl rfl) rfl rfl (Nat.le_of_ble_eq_true rfl) dL_law_70 ⟨by omega, by omega⟩ (fun r_12 X_13 H locs hw hW hS => ?_)
  refine lv_pop hx hb dL_law_73 rfl ?_
  refine lv_aload_n hx hb dL_law_74 rfl (lv_at hl 1 rfl) ?_
  refine lv_iconst (v := 3) hx hb dL_law_75 (by decide) ?_
  refine lv_iconst (v := 1) hx hb dL_law_76 (by decide) ?_
  refine lv_aload_n hx hb dL_law_77 rfl (lv_at hl 0 rfl) ?_
  refine lv_iconst (v := 5) hx hb dL_law_78 (by decide) ?_
  refine lv_bipush (v := 6) hx hb dL_law_79 (by decide) ?_
  refine w_ccell (rest := [.int 1, .int 3, .ref o]) hx hb hml hown hts hK hW hS hl.1 hX hbl hbA (c_L_cell hLs hw.1.1 hw.1.2 (by decide)) (k_L_41 hts ⟨Nat.le_trans (by decide) hRf, Nat.le_trans (by decide) hRl⟩) (Nat.le_of_ble_eq_true rfl) dL_law_81 ⟨by omega, by omega⟩ (fun r_14 H locs hcv hW hS => ?_)
  have hw := hw.2 r_14 hcv
  refine lv_iadd hx hb dL_law_84 ?_
  refine w_cvi (As := [.int 3, .int (1 + r_14)]) (rest := []) hx hb hml hown hts hK hW hS hl.1 (c_X4_set hA HR hw) (k_L_48 hts ⟨Nat.le_trans (by decide) hRf, Nat.le_trans (by decide) hRl⟩) (w_recv hK hW HR.1 rfl rfl rfl) rfl rfl (Nat.le_of_ble_eq_true rfl) dL_law_85 ⟨by omega, by omega⟩ (fun r_15 X_16 H locs hw hW hS => ?_)
  refine lv_pop hx hb dL_law_88 rfl ?_
  refine lv_aload_n hx hb dL_law_89 rfl (lv_at hl 1 rfl) ?_
  refine lv_iconst (v := 4) hx hb dL_law_90 (by decide) ?_
  refine lv_iconst (v := 1) hx hb dL_law_91 (by decide) ?_
  refine lv_aload_n hx hb dL_law_92 rfl (lv_at hl 0 rfl) ?_
  refine lv_bipush (v := 6) hx hb dL_law_93 (by decide) ?_
  refine lv_bipush (v := 9) hx hb dL_law_95 (by decide) ?_
  refine w_ccell (rest := [.int 1, .int 4, .ref o]) hx hb hml hown hts hK hW hS hl.1 hX hbl hbA (c_L_cell hLs hw.1.1 hw.1.2 (by decide)) (k_L_41 hts ⟨Nat.le_trans (by decide) hRf, Nat.le_trans (by decide) hRl⟩) (Nat.le_of_ble_eq_true rfl) dL_law_97 ⟨by omega, by omega⟩ (fun r_17 H locs hcv hW hS => ?_)
  have hw := hw.2 r_17 hcv
  refine lv_iadd hx hb dL_law_100 ?_
  refine w_cvi (As := [.int 4, .int (1 + r_17)]) (rest := []) hx hb hml hown hts hK hW hS hl.1 (c_X4_set hA HR hw) (k_L_48 hts ⟨Nat.le_trans (by decide) hRf, Nat.le_trans (by decide) hRl⟩) (w_recv hK hW HR.1 rfl rfl rfl) rfl rfl (Nat.le_of_ble_eq_true rfl) dL_law_101 ⟨by omega, by omega⟩ (fun r_18 X_19 H locs hw hW hS => ?_)
  refine lv_pop hx hb dL_law_104 rfl ?_
  refine lv_iconst (v := 0) hx hb dL_law_105 (by decide) ?_
  refine lv_istore_n (lv' := [(2, .int 0), (0, .ref b), (1, .ref o)]) hx hb dL_law_106 rfl hl (by decide) rfl (fun ls hl => ?_)
  obtain ⟨n_328, hnb, hw⟩ := hw
  obtain ⟨CB_107, eCB⟩ : ∃ z : Nat, z = cells + 297 := ⟨_, rfl⟩
  obtain ⟨SB_107, eSB⟩ : ∃ z : Nat, z = slots + 4428 := ⟨_, rfl⟩
  refine w_loopG (KT := Int32 → ES → Prop) (σ := Int32 × ES) (Wl := fun Kx_107 n_107 q => wpl_L_law_107 o lo sv K Kx_107 n_107 q.1 q.2) (Pw := fun q => Wd g lay (q.2)) (lvf := fun q => [(0, .ref b), (1, .ref o), (2, .int q.1)]) (nL := 9) (dc := 11) (ds := 164) (CB := CB_107) (SB := SB_107) n_328 (0, X_19) (by omega) (by omega) hw hW hS (lv_sub hl [1, 2, 0] rfl) (fun _ h => h) (fun Kx_107 eK_107 n_107 q H locs ls cl sl hcg hsg hw hW hS hl ih_107 => ?_)
  obtain ⟨i_125, X_126⟩ := q
  try dsimp only at hw
  rw [wpl_L_law_107] at hw
  have hl : lv_has ls 9 [(0, .ref b), (1, .ref o), (2, .int i_125)] := hl
  have hW : Wd g lay X_126 H := hW
  have hJ_352 : ∀ (i_329 : Int32) (i_330 : Int32) (i_331 : Int32) (i_332 : Int32) (i_333 : Int32) (X_334 : ES)  (cl sl : Nat) (H : Heap) (locs : List Loc) (ls : Array Slot), wpj_L_law_352 o lo sv K Kx_107 (wpl_L_law_107 o lo sv K Kx_107 n_107) i_329 i_330 i_331 i_332 i_333 X_334 → Wd g lay X_334 H → va_S (Ab g) H0 H locs → lv_has ls 9 [(0, .ref b), (1, .ref o), (2, .int i_329), (3, .int i_330), (4, .int i_331), (5, .int i_332), (6, .int i_333)] → cl + (n_107 + 1) * 11 ≤ CB_107 + 0 → sl + (n_107 + 1) * 164 ≤ SB_107 + 0 → W p l e R s m args below meth c H locs cl sl Q (F0 m 352 ls []) := by
    intro i_329 i_330 i_331 i_332 i_333 X_334  cl sl H locs ls hw hW hS hl hcg hsg
    unfold wpj_L_law_352 at hw
    refine lv_aload_n hx hb dL_law_352 rfl (lv_at hl 1 rfl) ?_
    refine w_csiA (As := [.ref o]) (rest := []) hx hb hml hown hts hK hW hS hl.1 (c_L_fits hA HR hlo hw) (k_L_36 hts ⟨Nat.le_trans (by decide) hRf, Nat.le_trans (by decide) hRl⟩) rfl rfl (Nat.le_of_ble_eq_true rfl) dL_law_353 ⟨by omega, by omega⟩ (fun r_343 X_344 H locs hw hW hS => ?_)
    refine lv_if_eq (tgt := 380) hx hb dL_law_356 (by decide) (fun c_345 => ?_) (fun c_345 => ?_)
    · have hw := hw.1 c_345
      refine lv_iconst (v := 0) hx hb dL_law_380 (by decide) ?_
      exact hret _ dL_law_381 _ _ _ _ _ _ _ (by omega) (by omega) hw hS
    · have hw := hw.2 c_345
      refine lv_aload_n hx hb dL_law_359 rfl (lv_at hl 1 rfl) ?_
      refine lv_iconst (v := 1) hx hb dL_law_360 (by decide) ?_
      refine lv_aload_n hx hb dL_law_361 rfl (lv_at hl 0 rfl) ?_
      refine lv_iconst (v := 4) hx hb dL_law_362 (by decide) ?_
      refine lv_iload_n hx hb dL_law_363 rfl (lv_at hl 2 rfl) ?_
      refine lv_imul hx hb dL_law_364 ?_
      refine lv_bipush (v := 10) hx hb dL_law_365 (by decide) ?_
      refine lv_iadd hx hb dL_law_367 ?_
      refine lv_bipush (v := 7) hx hb dL_law_368 (by decide) ?_
      refine w_ccell (rest := [.int 1, .ref o]) hx hb hml hown hts hK hW hS hl.1 hX hbl hbA (c_L_cell hLs hw.1.1 hw.1.2 (by decide)) (k_L_41 hts ⟨Nat.le_trans (by decide) hRf, Nat.le_trans (by decide) hRl⟩) (Nat.le_of_ble_eq_true rfl) dL_law_370 ⟨by omega, by omega⟩ (fun r_346 H locs hcv hW hS => ?_)
      have hw := hw.2 r_346 hcv
      refine lv_iadd hx hb dL_law_373 ?_
      refine w_csiA (As := [.ref o, .int (1 + r_346)]) (rest := []) hx hb hml hown hts hK hW hS hl.1 (c_L_ticks hA HR hlo hw) (k_L_60b hts ⟨Nat.le_trans (by decide) hRf, Nat.le_trans (by decide) hRl⟩) rfl rfl (Nat.le_of_ble_eq_true rfl) dL_law_374 ⟨by omega, by omega⟩ (fun r_347 X_348 H locs hw hW hS => ?_)
      refine lv_if_ne (tgt := 382) hx hb dL_law_377 (by decide) (fun c_349 => ?_) (fun c_349 => ?_)
      · have hw := hw.2 c_349
        obtain ⟨v_350, ev_350⟩ : ∃ z : Int32, z = i_329 + 1 := ⟨_, rfl⟩
        have hw := hw v_350 ev_350
        refine lv_iinc (v := v_350) (lv' := [(2, .int v_350), (0, .ref b), (1, .ref o), (3, .int i_330), (4, .int i_331), (5, .int i_332), (6, .int i_333)]) hx hb dL_law_382 hl (k := 2) rfl (by rw [ev_350]; rfl) (by decide) rfl (fun ls hl => ?_)
        refine lv_goto (tgt := 107) hx hb dL_law_385 (by decide) ?_
        exact ih_107 (v_350, X_348) _ _ _ _ _ (by omega) (by omega) hw hW hS (lv_sub hl [1, 2, 0] rfl)
      · have hw := hw.1 c_349
        refine lv_iconst (v := 0) hx hb dL_law_380 (by decide) ?_
        exact hret _ dL_law_381 _ _ _ _ _ _ _ (by omega) (by omega) hw hS
  have hJ_259 : ∀ (i_351 : Int32) (i_352 : Int32) (i_353 : Int32) (i_354 : Int32) (i_355 : Int32) (X_356 : ES) (t_357 : Int32) (t_358 : Int32) (cl sl : Nat) (H : Heap) (locs : List Loc) (ls : Array Slot), wpj_L_law_259 o lo sv K Kx_107 (wpl_L_law_107 o lo sv K Kx_107 n_107) i_351 i_352 i_353 i_354 i_355 X_356 t_357 t_358 → Wd g lay X_356 H → va_S (Ab g) H0 H locs → lv_has ls 9 [(0, .ref b), (1, .ref o), (2, .int i_351), (3, .int i_352), (4, .int i_353), (5, .int i_354), (6, .int i_355)] → cl + (n_107 + 1) * 11 ≤ CB_107 + 0 → sl + (n_107 + 1) * 164 ≤ SB_107 + 0 → W p l e R s m args below meth c H locs cl sl Q (F0 m 259 ls [.int t_358, .int t_357]) := by
    intro i_351 i_352 i_353 i_354 i_355 X_356 t_357 t_358 cl sl H locs ls hw hW hS hl hcg hsg
    unfold wpj_L_law_259 at hw
    refine lv_icmp_eq (tgt := 352) hx hb dL_law_259 (by decide) (fun c_360 => ?_) (fun c_360 => ?_)
    · have hw := hw.1 c_360
      exact hJ_352 _ _ _ _ _ _ _ _ _ _ _ hw hW hS (lv_sub hl [0, 1, 2, 3, 4, 5, 6] rfl) (by omega) (by omega)
    · have hw := hw.2 c_360
      refine lv_iconst (v := 0) hx hb dL_law_262 (by decide) ?_
      exact hret _ dL_law_263 _ _ _ _ _ _ _ (by omega) (by omega) hw hS
  have hJ_253 : ∀ (i_361 : Int32) (i_362 : Int32) (i_363 : Int32) (i_364 : Int32) (i_365 : Int32) (X_366 : ES) (t_367 : Int32) (cl sl : Nat) (H : Heap) (locs : List Loc) (ls : Array Slot), wpj_L_law_253 o lo sv K Kx_107 (wpl_L_law_107 o lo sv K Kx_107 n_107) i_361 i_362 i_363 i_364 i_365 X_366 t_367 → Wd g lay X_366 H → va_S (Ab g) H0 H locs → lv_has ls 9 [(0, .ref b), (1, .ref o), (2, .int i_361), (3, .int i_362), (4, .int i_363), (5, .int i_364), (6, .int i_365)] → cl + (n_107 + 1) * 11 ≤ CB_107 + 0 → sl + (n_107 + 1) * 164 ≤ SB_107 + 0 → W p l e R s m args below meth c H locs cl sl Q (F0 m 253 ls [.int t_367]) := by
    intro i_361 i_362 i_363 i_364 i_365 X_366 t_367 cl sl H locs ls hw hW hS hl hcg hsg
    unfold wpj_L_law_253 at hw
    refine lv_iload hx hb dL_law_253 (lv_at hl 6 rfl) ?_
    refine lv_goto (tgt := 259) hx hb dL_law_255 (by decide) ?_
    exact hJ_259 _ _ _ _ _ _ _ _ _ _ _ _ _ hw hW hS (lv_sub hl [0, 1, 2, 3, 4, 5, 6] rfl) (by omega) (by omega)
  have hJ_225 : ∀ (i_368 : Int32) (i_369 : Int32) (i_370 : Int32) (i_371 : Int32) (i_372 : Int32) (X_373 : ES) (t_374 : Int32) (t_375 : Int32) (cl sl : Nat) (H : Heap) (locs : List Loc) (ls : Array Slot), wpj_L_law_225 o lo sv K Kx_107 (wpl_L_law_107 o lo sv K Kx_107 n_107) i_368 i_369 i_370 i_371 i_372 X_373 t_374 t_375 → Wd g lay X_373 H → va_S (Ab g) H0 H locs → lv_has ls 9 [(0, .ref b), (1, .ref o), (2, .int i_368), (3, .int i_369), (4, .int i_370), (5, .int i_371), (6, .int i_372)] → cl + (n_107 + 1) * 11 ≤ CB_107 + 0 → sl + (n_107 + 1) * 164 ≤ SB_107 + 0 → W p l e R s m args below meth c H locs cl sl Q (F0 m 225 ls [.int t_375, .int t_374]) := by
    intro i_368 i_369 i_370 i_371 i_372 X_373 t_374 t_375 cl sl H locs ls hw hW hS hl hcg hsg
    unfold wpj_L_law_225 at hw
    refine lv_icmp_ne (tgt := 262) hx hb dL_law_225 (by decide) (fun c_381 => ?_) (fun c_381 => ?_)
    · have hw := hw.2 c_381
      refine lv_iconst (v := 0) hx hb dL_law_262 (by decide) ?_
      exact hret _ dL_law_263 _ _ _ _ _ _ _ (by omega) (by omega) hw hS
    · have hw := hw.1 c_381
      refine lv_iload hx hb dL_law_228 (lv_at hl 5 rfl) ?_
      refine lv_iconst (v := 1) hx hb dL_law_230 (by decide) ?_
      refine lv_icmp_ne (tgt := 352) hx hb dL_law_231 (by decide) (fun c_382 => ?_) (fun c_382 => ?_)
      · have hw := hw.2 c_382
        exact hJ_352 _ _ _ _ _ _ _ _ _ _ _ hw hW hS (lv_sub hl [0, 1, 2, 3, 4, 5, 6] rfl) (by omega) (by omega)
      · have hw := hw.1 c_382
        refine lv_aload_n hx hb dL_law_234 rfl (lv_at hl 1 rfl) ?_
        refine lv_iload_n hx hb dL_law_235 rfl (lv_at hl 3 rfl) ?_
        refine lv_iconst (v := 0) hx hb dL_law_236 (by decide) ?_
        refine w_cvi (As := [.int i_369, .int 0]) (rest := []) hx hb hml hown hts hK hW hS hl.1 (c_X4_line hA HR hw) (k_L_18 hts ⟨Nat.le_trans (by decide) hRf, Nat.le_trans (by decide) hRl⟩) (w_recv hK hW HR.1 rfl rfl rfl) rfl rfl (Nat.le_of_ble_eq_true rfl) dL_law_237 ⟨by omega, by omega⟩ (fun r_383 Ez H locs hw2 hW hS => ?_)
        obtain ⟨ez, hw⟩ := hw2
        rw [ez] at hW
        refine lv_iload hx hb dL_law_240 (lv_at hl 6 rfl) ?_
        refine lv_iconst (v := 5) hx hb dL_law_242 (by decide) ?_
        refine lv_icmp_eq (tgt := 253) hx hb dL_law_243 (by decide) (fun c_384 => ?_) (fun c_384 => ?_)
        · have hw := hw.1 c_384
          exact hJ_253 _ _ _ _ _ _ _ _ _ _ _ _ hw hW hS (lv_sub hl [0, 1, 2, 3, 4, 5, 6] rfl) (by omega) (by omega)
        · have hw := hw.2 c_384
          refine lv_iload hx hb dL_law_246 (lv_at hl 6 rfl) ?_
          refine lv_bipush (v := 7) hx hb dL_law_248 (by decide) ?_
          refine lv_icmp_ne (tgt := 258) hx hb dL_law_250 (by decide) (fun c_385 => ?_) (fun c_385 => ?_)
          · have hw := hw.2 c_385
            refine lv_iconst (v := 0) hx hb dL_law_258 (by decide) ?_
            exact hJ_259 _ _ _ _ _ _ _ _ _ _ _ _ _ hw hW hS (lv_sub hl [0, 1, 2, 3, 4, 5, 6] rfl) (by omega) (by omega)
          · have hw := hw.1 c_385
            exact hJ_253 _ _ _ _ _ _ _ _ _ _ _ _ hw hW hS (lv_sub hl [0, 1, 2, 3, 4, 5, 6] rfl) (by omega) (by omega)
  have hJ_184 : ∀ (i_386 : Int32) (i_387 : Int32) (i_388 : Int32) (i_389 : Int32) (i_390 : Int32) (X_391 : ES) (t_392 : Int32) (cl sl : Nat) (H : Heap) (locs : List Loc) (ls : Array Slot), wpj_L_law_184 o lo sv K Kx_107 (wpl_L_law_107 o lo sv K Kx_107 n_107) i_386 i_387 i_388 i_389 i_390 X_391 t_392 → Wd g lay X_391 H → va_S (Ab g) H0 H locs → lv_has ls 9 [(0, .ref b), (1, .ref o), (2, .int i_386), (3, .int i_387), (4, .int i_388), (5, .int i_389), (6, .int i_390)] → cl + (n_107 + 1) * 11 ≤ CB_107 + 0 → sl + (n_107 + 1) * 164 ≤ SB_107 + 0 → W p l e R s m args below meth c H locs cl sl Q (F0 m 184 ls [.int t_392]) := by
    intro i_386 i_387 i_388 i_389 i_390 X_391 t_392 cl sl H locs ls hw hW hS hl hcg hsg
    unfold wpj_L_law_184 at hw
    refine lv_istore (lv' := [(7, .int t_392), (0, .ref b), (1, .ref o), (2, .int i_386), (3, .int i_387), (4, .int i_388), (5, .int i_389), (6, .int i_390)]) hx hb dL_law_184 hl (by decide) rfl (fun ls hl => ?_)
    refine lv_aload_n hx hb dL_law_186 rfl (lv_at hl 2 rfl) ?_
    refine lv_iload_n hx hb dL_law_187 rfl (lv_at hl 4 rfl) ?_
    refine w_cvi (As := [.int i_387]) (rest := []) hx hb hml hown hts hK hW hS hl.1 (c_X4_lift hA HR hw) (k_L_51 hts ⟨Nat.le_trans (by decide) hRf, Nat.le_trans (by decide) hRl⟩) (w_recv hK hW HR.1 rfl rfl rfl) rfl rfl (Nat.le_of_ble_eq_true rfl) dL_law_188 ⟨by omega, by omega⟩ (fun r_396 X_397 H locs hw hW hS => ?_)
    refine lv_iload hx hb dL_law_191 (lv_at hl 0 rfl) ?_
    refine lv_icmp_eq (tgt := 198) hx hb dL_law_193 (by decide) (fun c_398 => ?_) (fun c_398 => ?_)
    · have hw := hw.1 c_398
      refine lv_goto (tgt := 352) hx hb dL_law_198 (by decide) ?_
      exact hJ_352 _ _ _ _ _ _ _ _ _ _ _ hw hW hS (lv_sub hl [1, 2, 3, 4, 5, 6, 7] rfl) (by omega) (by omega)
    · have hw := hw.2 c_398
      refine lv_iconst (v := 0) hx hb dL_law_196 (by decide) ?_
      exact hret _ dL_law_197 _ _ _ _ _ _ _ (by omega) (by omega) hw hS
  refine lv_iload_n hx hb dL_law_107 rfl (lv_at hl 2 rfl) ?_
  refine lv_bipush (v := 26) hx hb dL_law_108 (by decide) ?_
  refine lv_icmp_ge (tgt := 388) hx hb dL_law_110 (by decide) (fun c_399 => ?_) (fun c_399 => ?_)
  · have hw := hw.1 c_399
    rw [eK_107] at hw
    refine lv_aload_n hx hb dL_law_388 rfl (lv_at hl 0 rfl) ?_
    refine lv_bipush (v := 120) hx hb dL_law_389 (by decide) ?_
    refine lv_bipush (v := 8) hx hb dL_law_391 (by decide) ?_
    refine w_ccell (rest := []) hx hb hml hown hts hK hW hS hl.1 hX hbl hbA (c_L_cell hLs hw.1.1 hw.1.2 (by decide)) (k_L_41 hts ⟨Nat.le_trans (by decide) hRf, Nat.le_trans (by decide) hRl⟩) (Nat.le_of_ble_eq_true rfl) dL_law_393 ⟨by omega, by omega⟩ (fun r_400 H locs hcv hW hS => ?_)
    have hw := hw.2 r_400 hcv
    refine lv_istore_n (lv' := [(2, .int r_400), (0, .ref b), (1, .ref o)]) hx hb dL_law_396 rfl hl (by decide) rfl (fun ls hl => ?_)
    refine lv_aload_n hx hb dL_law_397 rfl (lv_at hl 1 rfl) ?_
    refine lv_bipush (v := 121) hx hb dL_law_398 (by decide) ?_
    refine lv_bipush (v := 12) hx hb dL_law_400 (by decide) ?_
    refine w_ccell (rest := []) hx hb hml hown hts hK hW hS hl.1 hX hbl hbA (c_L_cell hLs hw.1.1 hw.1.2 (by decide)) (k_L_41 hts ⟨Nat.le_trans (by decide) hRf, Nat.le_trans (by decide) hRl⟩) (Nat.le_of_ble_eq_true rfl) dL_law_402 ⟨by omega, by omega⟩ (fun r_401 H locs hcv hW hS => ?_)
    have hw := hw.2 r_401 hcv
    refine lv_istore_n (lv' := [(3, .int r_401), (2, .int r_400), (0, .ref b), (1, .ref o)]) hx hb dL_law_405 rfl hl (by decide) rfl (fun ls hl => ?_)
    refine lv_aload_n hx hb dL_law_406 rfl (lv_at hl 3 rfl) ?_
    refine lv_iload_n hx hb dL_law_407 rfl (lv_at hl 1 rfl) ?_
    refine lv_iload_n hx hb dL_law_408 rfl (lv_at hl 0 rfl) ?_
    refine lv_bipush (v := 60) hx hb dL_law_409 (by decide) ?_
    refine w_cvi (As := [.int r_400, .int r_401, .int 60]) (rest := []) hx hb hml hown hts hK hW hS hl.1 (c_X4_until hA HR hw) (k_L_64 hts ⟨Nat.le_trans (by decide) hRf, Nat.le_trans (by decide) hRl⟩) (w_recv hK hW HR.1 rfl rfl rfl) rfl rfl (Nat.le_of_ble_eq_true rfl) dL_law_411 ⟨by omega, by omega⟩ (fun r_402 X_403 H locs hw hW hS => ?_)
    refine lv_istore (lv' := [(4, .int r_402), (3, .int r_401), (2, .int r_400), (0, .ref b), (1, .ref o)]) hx hb dL_law_414 hl (by decide) rfl (fun ls hl => ?_)
    refine lv_aload_n hx hb dL_law_416 rfl (lv_at hl 4 rfl) ?_
    refine lv_iconst (v := 1) hx hb dL_law_417 (by decide) ?_
    refine w_csave (rest := []) hx hb hml hown hts hK hW hS hl.1 (c_X4_save hA HR HS hw) (k_L_68 hts ⟨Nat.le_trans (by decide) hRf, Nat.le_trans (by decide) hRl⟩) (w_recv hK hW HR.1 rfl rfl rfl) (Nat.le_of_ble_eq_true rfl) dL_law_418 ⟨by omega, by omega⟩ (fun r_404 lay_s sv_1 X_405 H locs hA HR HS hw hW hS => ?_)
    have hlo : lay_s (o + 54 + 1) = some (arI g 60) := HR.2.2.2.2.2
    refine lv_pop hx hb dL_law_421 rfl ?_
    refine lv_iconst (v := 0) hx hb dL_law_422 (by decide) ?_
    refine lv_istore (lv' := [(5, .int 0), (4, .int r_402), (3, .int r_401), (2, .int r_400), (0, .ref b), (1, .ref o)]) hx hb dL_law_423 hl (by decide) rfl (fun ls hl => ?_)
    obtain ⟨n_416, hw⟩ := hw
    refine w_loop (KT := Int32 → Int32 → Int32 → Int32 → ES → Prop) (σ := Int32 × Int32 × Int32 × Int32 × ES) (Wl := fun Kx_425 n_425 q => wpl_L_law_425 o lo sv_1 K Kx_425 n_425 q.1 q.2.1 q.2.2.1 q.2.2.2.1 q.2.2.2.2) (Pw := fun q => Wd g lay_s (q.2.2.2.2)) (lvf := fun q => [(0, .ref b), (1, .ref o), (2, .int q.1), (3, .int q.2.1), (4, .int q.2.2.1), (5, .int q.2.2.2.1)]) (nL := 9) n_416 (r_400, r_401, r_402, 0, X_405) hw hW hS (lv_sub hl [4, 5, 3, 2, 1, 0] rfl) (fun _ h => h) (fun Kx_425 eK_425 n_425 q H locs ls hw hW hS hl ih_425 => ?_)
    obtain ⟨i_411, i_412, i_413, i_414, X_415⟩ := q
    try dsimp only at hw
    rw [wpl_L_law_425] at hw
    have hl : lv_has ls 9 [(0, .ref b), (1, .ref o), (2, .int i_411), (3, .int i_412), (4, .int i_413), (5, .int i_414)] := hl
    have hW : Wd g lay_s X_415 H := hW
    have hJ_468 : ∀ (i_417 : Int32) (i_418 : Int32) (i_419 : Int32) (i_420 : Int32) (X_421 : ES) (t_422 : Int32) (t_423 : Int32) (H : Heap) (locs : List Loc) (ls : Array Slot), wpj_L_law_468 o lo sv_1 K Kx_425 (wpl_L_law_425 o lo sv_1 K Kx_425 n_425) i_417 i_418 i_419 i_420 X_421 t_422 t_423 → Wd g lay_s X_421 H → va_S (Ab g) H0 H locs → lv_has ls 9 [(0, .ref b), (1, .ref o), (2, .int i_417), (3, .int i_418), (4, .int i_419), (5, .int i_420)] → W p l e R s m args below meth c H locs (cl + 26) (sl + 244) Q (F0 m 468 ls [.int t_423, .int t_422]) := by
      intro i_417 i_418 i_419 i_420 X_421 t_422 t_423 H locs ls hw hW hS hl
      unfold wpj_L_law_468 at hw
      refine lv_icmp_ne (tgt := 503) hx hb dL_law_468 (by decide) (fun c_434 => ?_) (fun c_434 => ?_)
      · have hw := hw.2 c_434
        refine lv_iconst (v := 0) hx hb dL_law_503 (by decide) ?_
        exact hret _ dL_law_504 _ _ _ _ _ _ _ (by omega) (by omega) hw hS
      · have hw := hw.1 c_434
        refine lv_aload_n hx hb dL_law_471 rfl (lv_at hl 1 rfl) ?_
        refine lv_iconst (v := 1) hx hb dL_law_472 (by decide) ?_
        refine w_cvi (As := [.int 1]) (rest := []) hx hb hml hown hts hK hW hS hl.1 (c_X4_restore hA HR HS hw) (k_L_71 hts ⟨Nat.le_trans (by decide) hRf, Nat.le_trans (by decide) hRl⟩) (w_recv hK hW HR.1 rfl rfl rfl) rfl rfl (Nat.le_of_ble_eq_true rfl) dL_law_473 ⟨by omega, by omega⟩ (fun r_435 X_436 H locs hw hW hS => ?_)
        refine lv_if_lt (tgt := 503) hx hb dL_law_476 (by decide) (fun c_437 => ?_) (fun c_437 => ?_)
        · have hw := hw.1 c_437
          refine lv_iconst (v := 0) hx hb dL_law_503 (by decide) ?_
          exact hret _ dL_law_504 _ _ _ _ _ _ _ (by omega) (by omega) hw hS
        · have hw := hw.2 c_437
          refine lv_aload_n hx hb dL_law_479 rfl (lv_at hl 1 rfl) ?_
          refine w_csiA (As := [.ref o]) (rest := []) hx hb hml hown hts hK hW hS hl.1 (c_L_fits hA HR hlo hw) (k_L_36 hts ⟨Nat.le_trans (by decide) hRf, Nat.le_trans (by decide) hRl⟩) rfl rfl (Nat.le_of_ble_eq_true rfl) dL_law_480 ⟨by omega, by omega⟩ (fun r_438 X_439 H locs hw hW hS => ?_)
          refine lv_if_eq (tgt := 503) hx hb dL_law_483 (by decide) (fun c_440 => ?_) (fun c_440 => ?_)
          · have hw := hw.1 c_440
            refine lv_iconst (v := 0) hx hb dL_law_503 (by decide) ?_
            exact hret _ dL_law_504 _ _ _ _ _ _ _ (by omega) (by omega) hw hS
          · have hw := hw.2 c_440
            refine lv_aload_n hx hb dL_law_486 rfl (lv_at hl 1 rfl) ?_
            refine lv_iload_n hx hb dL_law_487 rfl (lv_at hl 2 rfl) ?_
            refine lv_iload_n hx hb dL_law_488 rfl (lv_at hl 3 rfl) ?_
            refine lv_bipush (v := 60) hx hb dL_law_489 (by decide) ?_
            refine w_cvi (As := [.int i_417, .int i_418, .int 60]) (rest := []) hx hb hml hown hts hK hW hS hl.1 (c_X4_until hA HR hw) (k_L_64 hts ⟨Nat.le_trans (by decide) hRf, Nat.le_trans (by decide) hRl⟩) (w_recv hK hW HR.1 rfl rfl rfl) rfl rfl (Nat.le_of_ble_eq_true rfl) dL_law_491 ⟨by omega, by omega⟩ (fun r_441 X_442 H locs hw hW hS => ?_)
            refine lv_iload hx hb dL_law_494 (lv_at hl 4 rfl) ?_
            refine lv_icmp_ne (tgt := 503) hx hb dL_law_496 (by decide) (fun c_443 => ?_) (fun c_443 => ?_)
            · have hw := hw.2 c_443
              refine lv_iconst (v := 0) hx hb dL_law_503 (by decide) ?_
              exact hret _ dL_law_504 _ _ _ _ _ _ _ (by omega) (by omega) hw hS
            · have hw := hw.1 c_443
              refine lv_iconst (v := 1) hx hb dL_law_499 (by decide) ?_
              refine lv_goto (tgt := 504) hx hb dL_law_500 (by decide) ?_
              exact hret _ dL_law_504 _ _ _ _ _ _ _ (by omega) (by omega) hw hS
    have hJ_449 : ∀ (i_444 : Int32) (i_445 : Int32) (i_446 : Int32) (i_447 : Int32) (X_448 : ES)  (H : Heap) (locs : List Loc) (ls : Array Slot), wpj_L_law_449 o lo sv_1 K Kx_425 (wpl_L_law_425 o lo sv_1 K Kx_425 n_425) i_444 i_445 i_446 i_447 X_448 → Wd g lay_s X_448 H → va_S (Ab g) H0 H locs → lv_has ls 9 [(0, .ref b), (1, .ref o), (2, .int i_444), (3, .int i_445), (4, .int i_446), (5, .int i_447)] → W p l e R s m args below meth c H locs (cl + 26) (sl + 244) Q (F0 m 449 ls []) := by
      intro i_444 i_445 i_446 i_447 X_448  H locs ls hw hW hS hl
      unfold wpj_L_law_449 at hw
      refine lv_iload hx hb dL_law_449 (lv_at hl 4 rfl) ?_
      refine lv_aload_n hx hb dL_law_451 rfl (lv_at hl 1 rfl) ?_
      refine lv_iload_n hx hb dL_law_452 rfl (lv_at hl 2 rfl) ?_
      refine lv_iconst (v := 0) hx hb dL_law_453 (by decide) ?_
      refine w_cvi (As := [.int i_444, .int 0]) (rest := [.int i_446]) hx hb hml hown hts hK hW hS hl.1 (c_X4_line hA HR hw) (k_L_18 hts ⟨Nat.le_trans (by decide) hRf, Nat.le_trans (by decide) hRl⟩) (w_recv hK hW HR.1 rfl rfl rfl) rfl rfl (Nat.le_of_ble_eq_true rfl) dL_law_454 ⟨by omega, by omega⟩ (fun r_451 Ez H locs hw2 hW hS => ?_)
      obtain ⟨ez, hw⟩ := hw2
      rw [ez] at hW
      refine lv_iload_n hx hb dL_law_457 rfl (lv_at hl 3 rfl) ?_
      refine lv_icmp_ne (tgt := 466) hx hb dL_law_458 (by decide) (fun c_452 => ?_) (fun c_452 => ?_)
      · have hw := hw.2 c_452
        refine lv_bipush (v := (-6)) hx hb dL_law_466 (by decide) ?_
        exact hJ_468 _ _ _ _ _ _ _ _ _ _ hw hW hS (lv_sub hl [0, 1, 2, 3, 4, 5] rfl)
      · have hw := hw.1 c_452
        refine lv_iload hx hb dL_law_461 (lv_at hl 5 rfl) ?_
        refine lv_goto (tgt := 468) hx hb dL_law_463 (by decide) ?_
        exact hJ_468 _ _ _ _ _ _ _ _ _ _ hw hW hS (lv_sub hl [0, 1, 2, 3, 4, 5] rfl)
    refine lv_iload hx hb dL_law_425 (lv_at hl 5 rfl) ?_
    refine lv_bipush (v := 60) hx hb dL_law_427 (by decide) ?_
    refine lv_icmp_gt (tgt := 517) hx hb dL_law_429 (by decide) (fun c_453 => ?_) (fun c_453 => ?_)
    · have hw := hw.1 c_453
      rw [eK_425] at hw
      refine lv_iconst (v := 0) hx hb dL_law_517 (by decide) ?_
      exact hret _ dL_law_518 _ _ _ _ _ _ _ (by omega) (by omega) hw hS
    · have hw := hw.2 c_453
      refine lv_aload_n hx hb dL_law_432 rfl (lv_at hl 1 rfl) ?_
      refine lv_iload_n hx hb dL_law_433 rfl (lv_at hl 2 rfl) ?_
      refine lv_iconst (v := 0) hx hb dL_law_434 (by decide) ?_
      refine w_cvi (As := [.int i_411, .int 0]) (rest := []) hx hb hml hown hts hK hW hS hl.1 (c_X4_line hA HR hw) (k_L_18 hts ⟨Nat.le_trans (by decide) hRf, Nat.le_trans (by decide) hRl⟩) (w_recv hK hW HR.1 rfl rfl rfl) rfl rfl (Nat.le_of_ble_eq_true rfl) dL_law_435 ⟨by omega, by omega⟩ (fun r_454 Ez H locs hw2 hW hS => ?_)
      obtain ⟨ez, hw⟩ := hw2
      rw [ez] at hW
      refine lv_iload_n hx hb dL_law_438 rfl (lv_at hl 3 rfl) ?_
      refine lv_icmp_eq (tgt := 449) hx hb dL_law_439 (by decide) (fun c_455 => ?_) (fun c_455 => ?_)
      · have hw := hw.1 c_455
        exact hJ_449 _ _ _ _ _ _ _ _ hw hW hS (lv_sub hl [0, 1, 2, 3, 4, 5] rfl)
      · have hw := hw.2 c_455
        refine lv_iload hx hb dL_law_442 (lv_at hl 5 rfl) ?_
        refine lv_bipush (v := 60) hx hb dL_law_444 (by decide) ?_
        refine lv_icmp_ne (tgt := 505) hx hb dL_law_446 (by decide) (fun c_456 => ?_) (fun c_456 => ?_)
        · have hw := hw.2 c_456
          refine lv_aload_n hx hb dL_law_505 rfl (lv_at hl 1 rfl) ?_
          refine lv_iconst (v := 1) hx hb dL_law_506 (by decide) ?_
          refine w_cvi (As := [.int 1]) (rest := []) hx hb hml hown hts hK hW hS hl.1 (c_X4_tick hA HR hw) (k_L_33 hts ⟨Nat.le_trans (by decide) hRf, Nat.le_trans (by decide) hRl⟩) (w_recv hK hW HR.1 rfl rfl rfl) rfl rfl (Nat.le_of_ble_eq_true rfl) dL_law_507 ⟨by omega, by omega⟩ (fun r_457 X_458 H locs hw hW hS => ?_)
          refine lv_pop hx hb dL_law_510 rfl ?_
          obtain ⟨v_459, ev_459⟩ : ∃ z : Int32, z = i_414 + 1 := ⟨_, rfl⟩
          have hw := hw v_459 ev_459
          refine lv_iinc (v := v_459) (lv' := [(5, .int v_459), (0, .ref b), (1, .ref o), (2, .int i_411), (3, .int i_412), (4, .int i_413)]) hx hb dL_law_511 hl (k := 5) rfl (by rw [ev_459]; rfl) (by decide) rfl (fun ls hl => ?_)
          refine lv_goto (tgt := 425) hx hb dL_law_514 (by decide) ?_
          exact ih_425 (i_411, i_412, i_413, v_459, X_458) _ _ _ hw hW hS (lv_sub hl [1, 2, 3, 4, 5, 0] rfl)
        · have hw := hw.1 c_456
          exact hJ_449 _ _ _ _ _ _ _ _ hw hW hS (lv_sub hl [0, 1, 2, 3, 4, 5] rfl)
  · have hw := hw.2 c_399
    refine lv_aload_n hx hb dL_law_113 rfl (lv_at hl 0 rfl) ?_
    refine lv_iconst (v := 4) hx hb dL_law_114 (by decide) ?_
    refine lv_iload_n hx hb dL_law_115 rfl (lv_at hl 2 rfl) ?_
    refine lv_imul hx hb dL_law_116 ?_
    refine lv_bipush (v := 7) hx hb dL_law_117 (by decide) ?_
    refine lv_iadd hx hb dL_law_119 ?_
    refine lv_bipush (v := 8) hx hb dL_law_120 (by decide) ?_
    refine w_ccell (rest := []) hx hb hml hown hts hK hW hS hl.1 hX hbl hbA (c_L_cell hLs hw.1.1 hw.1.2 (by decide)) (k_L_41 hts ⟨Nat.le_trans (by decide) hRf, Nat.le_trans (by decide) hRl⟩) (Nat.le_of_ble_eq_true rfl) dL_law_122 ⟨by omega, by omega⟩ (fun r_460 H locs hcv hW hS => ?_)
    have hw := hw.2 r_460 hcv
    refine lv_istore_n (lv' := [(3, .int r_460), (0, .ref b), (1, .ref o), (2, .int i_125)]) hx hb dL_law_125 rfl hl (by decide) rfl (fun ls hl => ?_)
    refine lv_aload_n hx hb dL_law_126 rfl (lv_at hl 1 rfl) ?_
    refine lv_iconst (v := 4) hx hb dL_law_127 (by decide) ?_
    refine lv_iload_n hx hb dL_law_128 rfl (lv_at hl 3 rfl) ?_
    refine lv_imul hx hb dL_law_129 ?_
    refine lv_bipush (v := 8) hx hb dL_law_130 (by decide) ?_
    refine lv_iadd hx hb dL_law_132 ?_
    refine lv_bipush (v := 10) hx hb dL_law_133 (by decide) ?_
    refine w_ccell (rest := []) hx hb hml hown hts hK hW hS hl.1 hX hbl hbA (c_L_cell hLs hw.1.1 hw.1.2 (by decide)) (k_L_41 hts ⟨Nat.le_trans (by decide) hRf, Nat.le_trans (by decide) hRl⟩) (Nat.le_of_ble_eq_true rfl) dL_law_135 ⟨by omega, by omega⟩ (fun r_461 H locs hcv hW hS => ?_)
    have hw := hw.2 r_461 hcv
    refine lv_istore (lv' := [(4, .int r_461), (3, .int r_460), (0, .ref b), (1, .ref o), (2, .int i_125)]) hx hb dL_law_138 hl (by decide) rfl (fun ls hl => ?_)
    refine lv_aload_n hx hb dL_law_140 rfl (lv_at hl 3 rfl) ?_
    refine lv_iload_n hx hb dL_law_141 rfl (lv_at hl 1 rfl) ?_
    refine lv_iconst (v := 1) hx hb dL_law_142 (by decide) ?_
    refine w_cvi (As := [.int r_460, .int 1]) (rest := []) hx hb hml hown hts hK hW hS hl.1 (c_X4_line hA HR hw) (k_L_18 hts ⟨Nat.le_trans (by decide) hRf, Nat.le_trans (by decide) hRl⟩) (w_recv hK hW HR.1 rfl rfl rfl) rfl rfl (Nat.le_of_ble_eq_true rfl) dL_law_143 ⟨by omega, by omega⟩ (fun r_462 Ez H locs hw2 hW hS => ?_)
    obtain ⟨ez, hw⟩ := hw2
    rw [ez] at hW
    refine lv_istore (lv' := [(5, .int r_462), (4, .int r_461), (3, .int r_460), (0, .ref b), (1, .ref o), (2, .int i_125)]) hx hb dL_law_146 hl (by decide) rfl (fun ls hl => ?_)
    refine lv_aload_n hx hb dL_law_148 rfl (lv_at hl 4 rfl) ?_
    refine lv_iload_n hx hb dL_law_149 rfl (lv_at hl 2 rfl) ?_
    refine lv_iconst (v := 0) hx hb dL_law_150 (by decide) ?_
    refine w_cvi (As := [.int r_460, .int 0]) (rest := []) hx hb hml hown hts hK hW hS hl.1 (c_X4_line hA HR hw) (k_L_18 hts ⟨Nat.le_trans (by decide) hRf, Nat.le_trans (by decide) hRl⟩) (w_recv hK hW HR.1 rfl rfl rfl) rfl rfl (Nat.le_of_ble_eq_true rfl) dL_law_151 ⟨by omega, by omega⟩ (fun r_463 Ez H locs hw2 hW hS => ?_)
    obtain ⟨ez, hw⟩ := hw2
    rw [ez] at hW
    refine lv_istore (lv' := [(6, .int r_463), (5, .int r_462), (4, .int r_461), (3, .int r_460), (0, .ref b), (1, .ref o), (2, .int i_125)]) hx hb dL_law_154 hl (by decide) rfl (fun ls hl => ?_)
    refine lv_iload hx hb dL_law_156 (lv_at hl 2 rfl) ?_
    refine lv_iconst (v := 4) hx hb dL_law_158 (by decide) ?_
    refine lv_icmp_ge (tgt := 201) hx hb dL_law_159 (by decide) (fun c_464 => ?_) (fun c_464 => ?_)
    · have hw := hw.1 c_464
      refine lv_iload hx hb dL_law_201 (lv_at hl 2 rfl) ?_
      refine lv_bipush (v := 6) hx hb dL_law_203 (by decide) ?_
      refine lv_icmp_ge (tgt := 264) hx hb dL_law_205 (by decide) (fun c_465 => ?_) (fun c_465 => ?_)
      · have hw := hw.1 c_465
        refine lv_iconst (v := 0) hx hb dL_law_264 (by decide) ?_
        refine lv_istore (lv' := [(7, .int 0), (6, .int r_463), (5, .int r_462), (4, .int r_461), (3, .int r_460), (0, .ref b), (1, .ref o), (2, .int i_125)]) hx hb dL_law_265 hl (by decide) rfl (fun ls hl => ?_)
        obtain ⟨n_480, hw⟩ := hw
        refine w_loop (KT := Int32 → Int32 → Int32 → Int32 → Int32 → Int32 → ES → Prop) (σ := Int32 × Int32 × Int32 × Int32 × Int32 × Int32 × ES) (Wl := fun Kx_267 n_267 q => wpl_L_law_267 o lo sv K Kx_267 n_267 q.1 q.2.1 q.2.2.1 q.2.2.2.1 q.2.2.2.2.1 q.2.2.2.2.2.1 q.2.2.2.2.2.2) (Pw := fun q => Wd g lay (q.2.2.2.2.2.2)) (lvf := fun q => [(0, .ref b), (1, .ref o), (2, .int q.1), (3, .int q.2.1), (4, .int q.2.2.1), (5, .int q.2.2.2.1), (6, .int q.2.2.2.2.1), (7, .int q.2.2.2.2.2.1)]) (nL := 9) n_480 (i_125, r_460, r_461, r_462, r_463, 0, X_126) hw hW hS (lv_sub hl [5, 6, 7, 4, 3, 2, 1, 0] rfl) (fun _ h => h) (fun Kx_267 eK_267 n_267 q H locs ls hw hW hS hl ih_267 => ?_)
        obtain ⟨i_473, i_474, i_475, i_476, i_477, i_478, X_479⟩ := q
        try dsimp only at hw
        rw [wpl_L_law_267] at hw
        have hl : lv_has ls 9 [(0, .ref b), (1, .ref o), (2, .int i_473), (3, .int i_474), (4, .int i_475), (5, .int i_476), (6, .int i_477), (7, .int i_478)] := hl
        have hW : Wd g lay X_479 H := hW
        have hJ_346 : ∀ (i_481 : Int32) (i_482 : Int32) (i_483 : Int32) (i_484 : Int32) (i_485 : Int32) (i_486 : Int32) (i_487 : Int32) (X_488 : ES)  (H : Heap) (locs : List Loc) (ls : Array Slot), wpj_L_law_346 o lo sv K Kx_267 (wpl_L_law_267 o lo sv K Kx_267 n_267) i_481 i_482 i_483 i_484 i_485 i_486 i_487 X_488 → Wd g lay X_488 H → va_S (Ab g) H0 H locs → lv_has ls 9 [(0, .ref b), (1, .ref o), (2, .int i_481), (3, .int i_482), (4, .int i_483), (5, .int i_484), (6, .int i_485), (7, .int i_486), (8, .int i_487)] → W p l e R s m args below meth c H locs cl sl Q (F0 m 346 ls []) := by
          intro i_481 i_482 i_483 i_484 i_485 i_486 i_487 X_488  H locs ls hw hW hS hl
          unfold wpj_L_law_346 at hw
          obtain ⟨v_490, ev_490⟩ : ∃ z : Int32, z = i_486 + 1 := ⟨_, rfl⟩
          have hw := hw v_490 ev_490
          refine lv_iinc (v := v_490) (lv' := [(7, .int v_490), (0, .ref b), (1, .ref o), (2, .int i_481), (3, .int i_482), (4, .int i_483), (5, .int i_484), (6, .int i_485), (8, .int i_487)]) hx hb dL_law_346 hl (k := 7) rfl (by rw [ev_490]; rfl) (by decide) rfl (fun ls hl => ?_)
          refine lv_goto (tgt := 267) hx hb dL_law_349 (by decide) ?_
          exact ih_267 (i_481, i_482, i_483, i_484, i_485, v_490, X_488) _ _ _ hw hW hS (lv_sub hl [1, 2, 3, 4, 5, 6, 7, 0] rfl)
        refine lv_iload hx hb dL_law_267 (lv_at hl 7 rfl) ?_
        refine lv_bipush (v := 16) hx hb dL_law_269 (by decide) ?_
        refine lv_icmp_ge (tgt := 352) hx hb dL_law_271 (by decide) (fun c_491 => ?_) (fun c_491 => ?_)
        · have hw := hw.1 c_491
          rw [eK_267] at hw
          exact hJ_352 _ _ _ _ _ _ _ _ _ _ _ hw hW hS (lv_sub hl [0, 1, 2, 3, 4, 5, 6] rfl) (by omega) (by omega)
        · have hw := hw.2 c_491
          refine lv_aload_n hx hb dL_law_274 rfl (lv_at hl 0 rfl) ?_
          refine lv_iconst (v := 4) hx hb dL_law_275 (by decide) ?_
          refine lv_iload_n hx hb dL_law_276 rfl (lv_at hl 2 rfl) ?_
          refine lv_imul hx hb dL_law_277 ?_
          refine lv_bipush (v := 9) hx hb dL_law_278 (by decide) ?_
          refine lv_iadd hx hb dL_law_280 ?_
          refine lv_iload hx hb dL_law_281 (lv_at hl 7 rfl) ?_
          refine lv_iadd hx hb dL_law_283 ?_
          refine lv_bipush (v := 16) hx hb dL_law_284 (by decide) ?_
          refine w_ccell (rest := []) hx hb hml hown hts hK hW hS hl.1 hX hbl hbA (c_L_cell hLs hw.1.1 hw.1.2 (by decide)) (k_L_41 hts ⟨Nat.le_trans (by decide) hRf, Nat.le_trans (by decide) hRl⟩) (Nat.le_of_ble_eq_true rfl) dL_law_286 ⟨by omega, by omega⟩ (fun r_492 H locs hcv hW hS => ?_)
          have hw := hw.2 r_492 hcv
          refine lv_istore (lv' := [(8, .int r_492), (0, .ref b), (1, .ref o), (2, .int i_473), (3, .int i_474), (4, .int i_475), (5, .int i_476), (6, .int i_477), (7, .int i_478)]) hx hb dL_law_289 hl (by decide) rfl (fun ls hl => ?_)
          refine lv_aload_n hx hb dL_law_291 rfl (lv_at hl 2 rfl) ?_
          refine lv_iload hx hb dL_law_292 (lv_at hl 8 rfl) ?_
          refine lv_iconst (v := 0) hx hb dL_law_294 (by decide) ?_
          refine w_cvi (As := [.int i_478, .int 0]) (rest := []) hx hb hml hown hts hK hW hS hl.1 (c_X4_line hA HR hw) (k_L_18 hts ⟨Nat.le_trans (by decide) hRf, Nat.le_trans (by decide) hRl⟩) (w_recv hK hW HR.1 rfl rfl rfl) rfl rfl (Nat.le_of_ble_eq_true rfl) dL_law_295 ⟨by omega, by omega⟩ (fun r_493 Ez H locs hw2 hW hS => ?_)
          obtain ⟨ez, hw⟩ := hw2
          rw [ez] at hW
          refine lv_iconst (v := 2) hx hb dL_law_298 (by decide) ?_
          refine lv_icmp_ne (tgt := 346) hx hb dL_law_299 (by decide) (fun c_494 => ?_) (fun c_494 => ?_)
          · have hw := hw.2 c_494
            exact hJ_346 _ _ _ _ _ _ _ _ _ _ _ hw hW hS (lv_sub hl [1, 2, 3, 4, 5, 6, 7, 8, 0] rfl)
          · have hw := hw.1 c_494
            refine lv_aload_n hx hb dL_law_302 rfl (lv_at hl 2 rfl) ?_
            refine lv_iload hx hb dL_law_303 (lv_at hl 8 rfl) ?_
            refine lv_iconst (v := 4) hx hb dL_law_305 (by decide) ?_
            refine w_cvi (As := [.int i_478, .int 4]) (rest := []) hx hb hml hown hts hK hW hS hl.1 (c_X4_line hA HR hw) (k_L_18 hts ⟨Nat.le_trans (by decide) hRf, Nat.le_trans (by decide) hRl⟩) (w_recv hK hW HR.1 rfl rfl rfl) rfl rfl (Nat.le_of_ble_eq_true rfl) dL_law_306 ⟨by omega, by omega⟩ (fun r_495 Ez H locs hw2 hW hS => ?_)
            obtain ⟨ez, hw⟩ := hw2
            rw [ez] at hW
            refine lv_if_ne (tgt := 346) hx hb dL_law_309 (by decide) (fun c_496 => ?_) (fun c_496 => ?_)
            · have hw := hw.2 c_496
              exact hJ_346 _ _ _ _ _ _ _ _ _ _ _ hw hW hS (lv_sub hl [1, 2, 3, 4, 5, 6, 7, 8, 0] rfl)
            · have hw := hw.1 c_496
              refine lv_aload_n hx hb dL_law_312 rfl (lv_at hl 2 rfl) ?_
              refine lv_iload hx hb dL_law_313 (lv_at hl 8 rfl) ?_
              refine lv_iload hx hb dL_law_315 (lv_at hl 0 rfl) ?_
              refine lv_iconst (v := 4) hx hb dL_law_317 (by decide) ?_
              refine lv_idiv hx hb dL_law_318 (by decide) ?_
              refine lv_iconst (v := 1) hx hb dL_law_319 (by decide) ?_
              refine lv_iadd hx hb dL_law_320 ?_
              refine w_cvi (As := [.int i_478, .int ((r_492 / 4) + 1)]) (rest := []) hx hb hml hown hts hK hW hS hl.1 (c_X4_dial hA HR hw) (k_L_57 hts ⟨Nat.le_trans (by decide) hRf, Nat.le_trans (by decide) hRl⟩) (w_recv hK hW HR.1 rfl rfl rfl) rfl rfl (Nat.le_of_ble_eq_true rfl) dL_law_321 ⟨by omega, by omega⟩ (fun r_497 X_498 H locs hw hW hS => ?_)
              refine lv_iconst (v := 1) hx hb dL_law_324 (by decide) ?_
              refine lv_icmp_ne (tgt := 344) hx hb dL_law_325 (by decide) (fun c_499 => ?_) (fun c_499 => ?_)
              · have hw := hw.2 c_499
                refine lv_iconst (v := 0) hx hb dL_law_344 (by decide) ?_
                exact hret _ dL_law_345 _ _ _ _ _ _ _ (by omega) (by omega) hw hS
              · have hw := hw.1 c_499
                refine lv_aload_n hx hb dL_law_328 rfl (lv_at hl 2 rfl) ?_
                refine lv_iload hx hb dL_law_329 (lv_at hl 8 rfl) ?_
                refine lv_iload hx hb dL_law_331 (lv_at hl 0 rfl) ?_
                refine lv_iconst (v := 4) hx hb dL_law_333 (by decide) ?_
                refine lv_irem hx hb dL_law_334 (by decide) ?_
                refine lv_iconst (v := 1) hx hb dL_law_335 (by decide) ?_
                refine lv_iadd hx hb dL_law_336 ?_
                refine w_cvi (As := [.int i_478, .int ((r_492 - r_492 / 4 * 4) + 1)]) (rest := []) hx hb hml hown hts hK hW hS hl.1 (c_X4_dial hA HR hw) (k_L_57 hts ⟨Nat.le_trans (by decide) hRf, Nat.le_trans (by decide) hRl⟩) (w_recv hK hW HR.1 rfl rfl rfl) rfl rfl (Nat.le_of_ble_eq_true rfl) dL_law_337 ⟨by omega, by omega⟩ (fun r_500 X_501 H locs hw hW hS => ?_)
                refine lv_iconst (v := 2) hx hb dL_law_340 (by decide) ?_
                refine lv_icmp_eq (tgt := 346) hx hb dL_law_341 (by decide) (fun c_502 => ?_) (fun c_502 => ?_)
                · have hw := hw.1 c_502
                  exact hJ_346 _ _ _ _ _ _ _ _ _ _ _ hw hW hS (lv_sub hl [1, 2, 3, 4, 5, 6, 7, 8, 0] rfl)
                · have hw := hw.2 c_502
                  refine lv_iconst (v := 0) hx hb dL_law_344 (by decide) ?_
                  exact hret _ dL_law_345 _ _ _ _ _ _ _ (by omega) (by omega) hw hS
      · have hw := hw.2 c_465
        refine lv_aload_n hx hb dL_law_208 rfl (lv_at hl 5 rfl) ?_
        refine lv_iload_n hx hb dL_law_209 rfl (lv_at hl 3 rfl) ?_
        refine w_cvi (As := [.int r_460]) (rest := []) hx hb hml hown hts hK hW hS hl.1 (c_X4_hang hA HR hw) (k_L_54 hts ⟨Nat.le_trans (by decide) hRf, Nat.le_trans (by decide) hRl⟩) (w_recv hK hW HR.1 rfl rfl rfl) rfl rfl (Nat.le_of_ble_eq_true rfl) dL_law_210 ⟨by omega, by omega⟩ (fun r_503 X_504 H locs hw hW hS => ?_)
        refine lv_iload hx hb dL_law_213 (lv_at hl 1 rfl) ?_
        refine lv_if_ne (tgt := 223) hx hb dL_law_215 (by decide) (fun c_505 => ?_) (fun c_505 => ?_)
        · have hw := hw.2 c_505
          refine lv_iload hx hb dL_law_223 (lv_at hl 0 rfl) ?_
          exact hJ_225 _ _ _ _ _ _ _ _ _ _ _ _ _ hw hW hS (lv_sub hl [4, 5, 6, 3, 2, 1, 0] rfl) (by omega) (by omega)
        · have hw := hw.1 c_505
          refine lv_bipush (v := (-5)) hx hb dL_law_218 (by decide) ?_
          refine lv_goto (tgt := 225) hx hb dL_law_220 (by decide) ?_
          exact hJ_225 _ _ _ _ _ _ _ _ _ _ _ _ _ hw hW hS (lv_sub hl [4, 5, 6, 3, 2, 1, 0] rfl) (by omega) (by omega)
    · have hw := hw.2 c_464
      refine lv_iload hx hb dL_law_162 (lv_at hl 1 rfl) ?_
      refine lv_iconst (v := 1) hx hb dL_law_164 (by decide) ?_
      refine lv_icmp_ne (tgt := 173) hx hb dL_law_165 (by decide) (fun c_506 => ?_) (fun c_506 => ?_)
      · have hw := hw.2 c_506
        refine lv_iload hx hb dL_law_173 (lv_at hl 0 rfl) ?_
        refine lv_if_ne (tgt := 182) hx hb dL_law_175 (by decide) (fun c_507 => ?_) (fun c_507 => ?_)
        · have hw := hw.2 c_507
          refine lv_iload hx hb dL_law_182 (lv_at hl 0 rfl) ?_
          exact hJ_184 _ _ _ _ _ _ _ _ _ _ _ _ hw hW hS (lv_sub hl [4, 5, 6, 3, 2, 1, 0] rfl) (by omega) (by omega)
        · have hw := hw.1 c_507
          refine lv_iconst (v := 1) hx hb dL_law_178 (by decide) ?_
          refine lv_goto (tgt := 184) hx hb dL_law_179 (by decide) ?_
          exact hJ_184 _ _ _ _ _ _ _ _ _ _ _ _ hw hW hS (lv_sub hl [4, 5, 6, 3, 2, 1, 0] rfl) (by omega) (by omega)
      · have hw := hw.1 c_506
        refine lv_bipush (v := (-5)) hx hb dL_law_168 (by decide) ?_
        refine lv_goto (tgt := 184) hx hb dL_law_170 (by decide) ?_
        exact hJ_184 _ _ _ _ _ _ _ _ _ _ _ _ hw hW hS (lv_sub hl [4, 5, 6, 3, 2, 1, 0] rfl) (by omega) (by omega)
