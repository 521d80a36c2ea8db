set_option maxHeartbeats 8000000 in
set_option maxRecDepth 100000 in
theorem t_L_fits {p : Program} {l : Launch} {e : Env} {R : Room} {s : State} {m : MethodId} {args : Array Value} {below : List Frame} {meth : Method} {c : Code} {H : Heap} {locs : List Loc} {cells slots : Nat} {Q : State → Prop} {ls : Array Slot} {g : GG} {lay : LY} {H0 : Heap} {o lo : Nat} {sv : Nat → Option Nat} {flo : CS → va_E} {E0 : ES} {K : Int32 → ES → Prop} (hx : p.tables.exec = Jvm.exec) (hb : c.code = cL_fits) (hml : c.maxLocals = 12) (hown : s.vm.findClass RL = some m.cls) (hts : ∀ w ∈ lw_gd, w.before args s = true) (hK : KK g s) (hA : okL g lay) (HR : RL4 g lay o sv) (hlo : lay lo = some flo) (hRf : 4 ≤ R.frames) (hRl : 89 ≤ R.locals) (hRc : cells + 1 ≤ R.cells) (hRs : slots + 16 ≤ R.slots) (hret : ∀ (pc : Nat) (_ : decode cL_fits pc = .ok (.ireturn, 1)) (v : Int32) (X : ES) (H : Heap) (locs : List Loc) (ls : Array Slot) (cl sl : Nat), cl ≤ cells + 1 → sl ≤ slots + 16 → (v = 0 ∨ v = 1) → K v X → Wd g lay X H → va_S (Ab g) H0 H locs → W p l e R s m args below meth c H locs cl sl Q (F0 m pc ls [.int v])) (hW : Wd g lay E0 H) (hS : va_S (Ab g) H0 H locs) (hl : lv_has ls 12 [(0, .ref o)]) (hw : wp_L_fits o lo E0 K) : W p l e R s m args below meth c H locs cells slots Q (F0 m 0 ls []) := by
  have hsub : ∀ z f, lay z = some f → lay z = some f := fun _ _ h => h
  unfold wp_L_fits at hw
  refine lv_iconst (v := 0) hx hb dL_fits_0 (by decide) ?_
  refine lv_istore_n (lv' := [(1, .int 0), (0, .ref o)]) hx hb dL_fits_1 rfl hl (by decide) rfl (fun ls hl => ?_)
  refine lv_iconst (v := 0) hx hb dL_fits_2 (by decide) ?_
  refine lv_istore_n (lv' := [(2, .int 0), (1, .int 0), (0, .ref o)]) hx hb dL_fits_3 rfl hl (by decide) rfl (fun ls hl => ?_)
  refine lv_iconst (v := 0) hx hb dL_fits_4 (by decide) ?_
  refine lv_istore_n (lv' := [(3, .int 0), (2, .int 0), (1, .int 0), (0, .ref o)]) hx hb dL_fits_5 rfl hl (by decide) rfl (fun ls hl => ?_)
  refine lv_iconst (v := 0) hx hb dL_fits_6 (by decide) ?_
  refine lv_istore (lv' := [(4, .int 0), (3, .int 0), (2, .int 0), (1, .int 0), (0, .ref o)]) hx hb dL_fits_7 hl (by decide) rfl (fun ls hl => ?_)
  refine lv_bipush (v := 16) hx hb dL_fits_9 (by decide) ?_
  refine w_newi2 (lo := lo) (N := 16) hx hb hts hK hW hA HR hlo hS wd_arrI (by decide) (by decide) (by decide) (by omega) (by omega) dL_fits_11 (fun ar_11 lay_11 H hlt hA HR hlar11 hsu hW hS => ?_)
  have hlo : lay_11 ar_11 = some (arI g 16) := hlar11
  have hsub : ∀ z f, lay z = some f → lay_11 z = some f := hsu
  obtain ⟨X_2, eX_2⟩ : ∃ z : ES, z = va_up E0 ar_11 (fun _ => 0) := ⟨_, rfl⟩
  have hw := hw ar_11 hlt X_2 eX_2
  rw [← eX_2] at hW
  refine lv_astore (lv' := [(5, .ref ar_11), (4, .int 0), (3, .int 0), (2, .int 0), (1, .int 0), (0, .ref o)]) hx hb dL_fits_13 hl (by decide) rfl (fun ls hl => ?_)
  refine lv_iconst (v := 0) hx hb dL_fits_15 (by decide) ?_
  refine lv_istore (lv' := [(6, .int 0), (5, .ref ar_11), (4, .int 0), (3, .int 0), (2, .int 0), (1, .int 0), (0, .ref o)]) hx hb dL_fits_16 hl (by decide) rfl (fun ls hl => ?_)
  obtain ⟨n_1225, hw⟩ := hw
  refine w_loop (KT := Int32 → Int32 → Int32 → Int32 → Int32 → ES → Prop) (σ := Int32 × Int32 × Int32 × Int32 × Int32 × ES) (Wl := fun Kx_18 n_18 q => wpl_L_fits_18 o lo ar_11 K Kx_18 n_18 q.1 q.2.1 q.2.2.1 q.2.2.2.1 q.2.2.2.2.1 q.2.2.2.2.2) (Pw := fun q => Wd g lay_11 (q.2.2.2.2.2)) (lvf := fun q => [(0, .ref o), (1, .int q.1), (2, .int q.2.1), (3, .int q.2.2.1), (4, .int q.2.2.2.1), (5, .ref ar_11), (6, .int q.2.2.2.2.1)]) (nL := 12) n_1225 (0, 0, 0, 0, 0, X_2) hw hW hS (lv_sub hl [6, 5, 4, 3, 2, 1, 0] rfl) (fun _ h => h) (fun Kx_18 eK_18 n_18 q H locs ls hw hW hS hl ih_18 => ?_)
  obtain ⟨i_624, i_625, i_626, i_627, i_628, X_629⟩ := q
  try dsimp only at hw
  rw [wpl_L_fits_18] at hw
  have hl : lv_has ls 12 [(0, .ref o), (1, .int i_624), (2, .int i_625), (3, .int i_626), (4, .int i_627), (5, .ref ar_11), (6, .int i_628)] := hl
  have hW : Wd g lay_11 X_629 H := hW
  have hJ_508 : ∀ (i_1226 : Int32) (i_1227 : Int32) (i_1228 : Int32) (i_1229 : Int32) (i_1230 : Int32) (i_1231 : Int32) (i_1232 : Int32) (i_1233 : Int32) (X_1234 : ES)  (H : Heap) (locs : List Loc) (ls : Array Slot), wpj_L_fits_508 o lo ar_11 K Kx_18 (wpl_L_fits_18 o lo ar_11 K Kx_18 n_18) i_1226 i_1227 i_1228 i_1229 i_1230 i_1231 i_1232 i_1233 X_1234 → Wd g lay_11 X_1234 H → va_S (Ab g) H0 H locs → lv_has ls 12 [(0, .ref o), (1, .int i_1226), (2, .int i_1227), (3, .int i_1228), (4, .int i_1229), (5, .ref ar_11), (6, .int i_1230), (7, .int i_1231), (8, .int i_1232), (9, .int i_1233)] → W p l e R s m args below meth c H locs (cells + 1) (slots + 16) Q (F0 m 508 ls []) := by
    intro i_1226 i_1227 i_1228 i_1229 i_1230 i_1231 i_1232 i_1233 X_1234  H locs ls hw hW hS hl
    unfold wpj_L_fits_508 at hw
    obtain ⟨v_1236, ev_1236⟩ : ∃ z : Int32, z = i_1230 + 1 := ⟨_, rfl⟩
    have hw := hw v_1236 ev_1236
    refine lv_iinc (v := v_1236) (lv' := [(6, .int v_1236), (0, .ref o), (1, .int i_1226), (2, .int i_1227), (3, .int i_1228), (4, .int i_1229), (5, .ref ar_11), (7, .int i_1231), (8, .int i_1232), (9, .int i_1233)]) hx hb dL_fits_508 hl (k := 6) rfl (by rw [ev_1236]; rfl) (by decide) rfl (fun ls hl => ?_)
    refine lv_goto (tgt := 18) hx hb dL_fits_511 (by decide) ?_
    exact ih_18 (i_1226, i_1227, i_1228, i_1229, v_1236, X_1234) _ _ _ hw hW hS (lv_sub hl [1, 2, 3, 4, 5, 6, 0] rfl)
  have hJ_427 : ∀ (i_1237 : Int32) (i_1238 : Int32) (i_1239 : Int32) (i_1240 : Int32) (i_1241 : Int32) (i_1242 : Int32) (i_1243 : Int32) (i_1244 : Int32) (i_1245 : Int32) (X_1246 : ES) (t_1247 : Int32) (t_1248 : Int32) (H : Heap) (locs : List Loc) (ls : Array Slot), wpj_L_fits_427 o lo ar_11 K Kx_18 (wpl_L_fits_18 o lo ar_11 K Kx_18 n_18) i_1237 i_1238 i_1239 i_1240 i_1241 i_1242 i_1243 i_1244 i_1245 X_1246 t_1247 t_1248 → Wd g lay_11 X_1246 H → va_S (Ab g) H0 H locs → lv_has ls 12 [(0, .ref o), (1, .int i_1237), (2, .int i_1238), (3, .int i_1239), (4, .int i_1240), (5, .ref ar_11), (6, .int i_1241), (7, .int i_1242), (8, .int i_1243), (9, .int i_1244), (10, .int i_1245)] → W p l e R s m args below meth c H locs (cells + 1) (slots + 16) Q (F0 m 427 ls [.int t_1248, .int t_1247]) := by
    intro i_1237 i_1238 i_1239 i_1240 i_1241 i_1242 i_1243 i_1244 i_1245 X_1246 t_1247 t_1248 H locs ls hw hW hS hl
    unfold wpj_L_fits_427 at hw
    refine lv_icmp_ne (tgt := 506) hx hb dL_fits_427 (by decide) (fun c_1262 => ?_) (fun c_1262 => ?_)
    · have hw := hw.2 c_1262
      refine lv_iconst (v := 0) hx hb dL_fits_506 (by decide) ?_
      exact hret _ dL_fits_507 _ _ _ _ _ _ _ (by omega) (by omega) (Or.inl rfl) hw (hW.sub hsub) hS
    · have hw := hw.1 c_1262
      refine lv_aload_n hx hb dL_fits_430 rfl (lv_at hl 0 rfl) ?_
      refine lv_iload hx hb dL_fits_431 (lv_at hl 10 rfl) ?_
      refine lv_iconst (v := 3) hx hb dL_fits_433 (by decide) ?_
      refine w_cvi (As := [.int i_1245, .int 3]) (rest := []) hx hb hml hown hts hK hW hS hl.1 (c_X4_line hA HR hw) (k_L_18 hts ⟨Nat.le_trans (by decide) hRf, Nat.le_trans (by decide) hRl⟩) (w_recv hK hW HR.1 rfl rfl rfl) rfl rfl (Nat.le_of_ble_eq_true rfl) dL_fits_434 ⟨by omega, by omega⟩ (fun r_1263 Ez H locs hw2 hW hS => ?_)
      obtain ⟨ez, hw⟩ := hw2
      rw [ez] at hW
      refine lv_iload hx hb dL_fits_437 (lv_at hl 8 rfl) ?_
      refine lv_icmp_ne (tgt := 506) hx hb dL_fits_439 (by decide) (fun c_1264 => ?_) (fun c_1264 => ?_)
      · have hw := hw.2 c_1264
        refine lv_iconst (v := 0) hx hb dL_fits_506 (by decide) ?_
        exact hret _ dL_fits_507 _ _ _ _ _ _ _ (by omega) (by omega) (Or.inl rfl) hw (hW.sub hsub) hS
      · have hw := hw.1 c_1264
        refine lv_aload_n hx hb dL_fits_442 rfl (lv_at hl 0 rfl) ?_
        refine lv_iload hx hb dL_fits_443 (lv_at hl 10 rfl) ?_
        refine lv_iconst (v := 2) hx hb dL_fits_445 (by decide) ?_
        refine w_cvi (As := [.int i_1245, .int 2]) (rest := []) hx hb hml hown hts hK hW hS hl.1 (c_X4_line hA HR hw) (k_L_18 hts ⟨Nat.le_trans (by decide) hRf, Nat.le_trans (by decide) hRl⟩) (w_recv hK hW HR.1 rfl rfl rfl) rfl rfl (Nat.le_of_ble_eq_true rfl) dL_fits_446 ⟨by omega, by omega⟩ (fun r_1265 Ez H locs hw2 hW hS => ?_)
        obtain ⟨ez, hw⟩ := hw2
        rw [ez] at hW
        refine lv_iload hx hb dL_fits_449 (lv_at hl 6 rfl) ?_
        refine lv_icmp_ne (tgt := 506) hx hb dL_fits_451 (by decide) (fun c_1266 => ?_) (fun c_1266 => ?_)
        · have hw := hw.2 c_1266
          refine lv_iconst (v := 0) hx hb dL_fits_506 (by decide) ?_
          exact hret _ dL_fits_507 _ _ _ _ _ _ _ (by omega) (by omega) (Or.inl rfl) hw (hW.sub hsub) hS
        · have hw := hw.1 c_1266
          refine lv_aload_n hx hb dL_fits_454 rfl (lv_at hl 0 rfl) ?_
          refine lv_iload hx hb dL_fits_455 (lv_at hl 10 rfl) ?_
          refine lv_iconst (v := 0) hx hb dL_fits_457 (by decide) ?_
          refine w_cvi (As := [.int i_1245, .int 0]) (rest := []) hx hb hml hown hts hK hW hS hl.1 (c_X4_trace hA HR hw) (k_L_24 hts ⟨Nat.le_trans (by decide) hRf, Nat.le_trans (by decide) hRl⟩) (w_recv hK hW HR.1 rfl rfl rfl) rfl rfl (Nat.le_of_ble_eq_true rfl) dL_fits_458 ⟨by omega, by omega⟩ (fun r_1267 Ez H locs hw2 hW hS => ?_)
          obtain ⟨ez, hw⟩ := hw2
          rw [ez] at hW
          refine lv_aload_n hx hb dL_fits_461 rfl (lv_at hl 0 rfl) ?_
          refine lv_iload hx hb dL_fits_462 (lv_at hl 6 rfl) ?_
          refine lv_iconst (v := 4) hx hb dL_fits_464 (by decide) ?_
          refine w_cvi (As := [.int i_1241, .int 4]) (rest := [.int r_1267]) hx hb hml hown hts hK hW hS hl.1 (c_X4_finder hA HR hw) (k_L_14 hts ⟨Nat.le_trans (by decide) hRf, Nat.le_trans (by decide) hRl⟩) (w_recv hK hW HR.1 rfl rfl rfl) rfl rfl (Nat.le_of_ble_eq_true rfl) dL_fits_465 ⟨by omega, by omega⟩ (fun r_1268 Ez H locs hw2 hW hS => ?_)
          obtain ⟨ez, hw⟩ := hw2
          rw [ez] at hW
          refine lv_icmp_ne (tgt := 506) hx hb dL_fits_468 (by decide) (fun c_1269 => ?_) (fun c_1269 => ?_)
          · have hw := hw.2 c_1269
            refine lv_iconst (v := 0) hx hb dL_fits_506 (by decide) ?_
            exact hret _ dL_fits_507 _ _ _ _ _ _ _ (by omega) (by omega) (Or.inl rfl) hw (hW.sub hsub) hS
          · have hw := hw.1 c_1269
            refine lv_aload_n hx hb dL_fits_471 rfl (lv_at hl 0 rfl) ?_
            refine lv_iload hx hb dL_fits_472 (lv_at hl 10 rfl) ?_
            refine lv_iconst (v := 1) hx hb dL_fits_474 (by decide) ?_
            refine w_cvi (As := [.int i_1245, .int 1]) (rest := []) hx hb hml hown hts hK hW hS hl.1 (c_X4_trace hA HR hw) (k_L_24 hts ⟨Nat.le_trans (by decide) hRf, Nat.le_trans (by decide) hRl⟩) (w_recv hK hW HR.1 rfl rfl rfl) rfl rfl (Nat.le_of_ble_eq_true rfl) dL_fits_475 ⟨by omega, by omega⟩ (fun r_1270 Ez H locs hw2 hW hS => ?_)
            obtain ⟨ez, hw⟩ := hw2
            rw [ez] at hW
            refine lv_iload hx hb dL_fits_478 (lv_at hl 6 rfl) ?_
            refine lv_icmp_ne (tgt := 506) hx hb dL_fits_480 (by decide) (fun c_1271 => ?_) (fun c_1271 => ?_)
            · have hw := hw.2 c_1271
              refine lv_iconst (v := 0) hx hb dL_fits_506 (by decide) ?_
              exact hret _ dL_fits_507 _ _ _ _ _ _ _ (by omega) (by omega) (Or.inl rfl) hw (hW.sub hsub) hS
            · have hw := hw.1 c_1271
              refine lv_aload_n hx hb dL_fits_483 rfl (lv_at hl 0 rfl) ?_
              refine lv_iload hx hb dL_fits_484 (lv_at hl 10 rfl) ?_
              refine lv_iconst (v := 2) hx hb dL_fits_486 (by decide) ?_
              refine w_cvi (As := [.int i_1245, .int 2]) (rest := []) hx hb hml hown hts hK hW hS hl.1 (c_X4_trace hA HR hw) (k_L_24 hts ⟨Nat.le_trans (by decide) hRf, Nat.le_trans (by decide) hRl⟩) (w_recv hK hW HR.1 rfl rfl rfl) rfl rfl (Nat.le_of_ble_eq_true rfl) dL_fits_487 ⟨by omega, by omega⟩ (fun r_1272 Ez H locs hw2 hW hS => ?_)
              obtain ⟨ez, hw⟩ := hw2
              rw [ez] at hW
              refine lv_iload hx hb dL_fits_490 (lv_at hl 8 rfl) ?_
              refine lv_icmp_ne (tgt := 506) hx hb dL_fits_492 (by decide) (fun c_1273 => ?_) (fun c_1273 => ?_)
              · have hw := hw.2 c_1273
                refine lv_iconst (v := 0) hx hb dL_fits_506 (by decide) ?_
                exact hret _ dL_fits_507 _ _ _ _ _ _ _ (by omega) (by omega) (Or.inl rfl) hw (hW.sub hsub) hS
              · have hw := hw.1 c_1273
                refine lv_iload hx hb dL_fits_495 (lv_at hl 10 rfl) ?_
                refine lv_iconst (v := 4) hx hb dL_fits_497 (by decide) ?_
                refine lv_idiv hx hb dL_fits_498 (by decide) ?_
                refine lv_iconst (v := 1) hx hb dL_fits_499 (by decide) ?_
                refine lv_iadd hx hb dL_fits_500 ?_
                refine lv_iload hx hb dL_fits_501 (lv_at hl 9 rfl) ?_
                refine lv_icmp_eq (tgt := 508) hx hb dL_fits_503 (by decide) (fun c_1274 => ?_) (fun c_1274 => ?_)
                · have hw := hw.1 c_1274
                  exact hJ_508 _ _ _ _ _ _ _ _ _ _ _ _ hw hW hS (lv_sub hl [0, 1, 2, 3, 4, 5, 6, 7, 8, 9] rfl)
                · have hw := hw.2 c_1274
                  refine lv_iconst (v := 0) hx hb dL_fits_506 (by decide) ?_
                  exact hret _ dL_fits_507 _ _ _ _ _ _ _ (by omega) (by omega) (Or.inl rfl) hw (hW.sub hsub) hS
  have hJ_398 : ∀ (i_1275 : Int32) (i_1276 : Int32) (i_1277 : Int32) (i_1278 : Int32) (i_1279 : Int32) (i_1280 : Int32) (i_1281 : Int32) (i_1282 : Int32) (X_1283 : ES)  (H : Heap) (locs : List Loc) (ls : Array Slot), wpj_L_fits_398 o lo ar_11 K Kx_18 (wpl_L_fits_18 o lo ar_11 K Kx_18 n_18) i_1275 i_1276 i_1277 i_1278 i_1279 i_1280 i_1281 i_1282 X_1283 → Wd g lay_11 X_1283 H → va_S (Ab g) H0 H locs → lv_has ls 12 [(0, .ref o), (1, .int i_1275), (2, .int i_1276), (3, .int i_1277), (4, .int i_1278), (5, .ref ar_11), (6, .int i_1279), (7, .int i_1280), (8, .int i_1281), (9, .int i_1282)] → W p l e R s m args below meth c H locs (cells + 1) (slots + 16) Q (F0 m 398 ls []) := by
    intro i_1275 i_1276 i_1277 i_1278 i_1279 i_1280 i_1281 i_1282 X_1283  H locs ls hw hW hS hl
    unfold wpj_L_fits_398 at hw
    refine lv_aload_n hx hb dL_fits_398 rfl (lv_at hl 0 rfl) ?_
    refine lv_iload hx hb dL_fits_399 (lv_at hl 8 rfl) ?_
    refine lv_iconst (v := 3) hx hb dL_fits_401 (by decide) ?_
    refine w_cvi (As := [.int i_1281, .int 3]) (rest := []) hx hb hml hown hts hK hW hS hl.1 (c_X4_line hA HR hw) (k_L_18 hts ⟨Nat.le_trans (by decide) hRf, Nat.le_trans (by decide) hRl⟩) (w_recv hK hW HR.1 rfl rfl rfl) rfl rfl (Nat.le_of_ble_eq_true rfl) dL_fits_402 ⟨by omega, by omega⟩ (fun r_1287 Ez H locs hw2 hW hS => ?_)
    obtain ⟨ez, hw⟩ := hw2
    rw [ez] at hW
    refine lv_istore (lv' := [(10, .int r_1287), (0, .ref o), (1, .int i_1275), (2, .int i_1276), (3, .int i_1277), (4, .int i_1278), (5, .ref ar_11), (6, .int i_1279), (7, .int i_1280), (8, .int i_1281), (9, .int i_1282)]) hx hb dL_fits_405 hl (by decide) rfl (fun ls hl => ?_)
    refine lv_aload_n hx hb dL_fits_407 rfl (lv_at hl 1 rfl) ?_
    refine lv_iload hx hb dL_fits_408 (lv_at hl 0 rfl) ?_
    refine lv_iconst (v := 0) hx hb dL_fits_410 (by decide) ?_
    refine w_cvi (As := [.int r_1287, .int 0]) (rest := []) hx hb hml hown hts hK hW hS hl.1 (c_X4_line hA HR hw) (k_L_18 hts ⟨Nat.le_trans (by decide) hRf, Nat.le_trans (by decide) hRl⟩) (w_recv hK hW HR.1 rfl rfl rfl) rfl rfl (Nat.le_of_ble_eq_true rfl) dL_fits_411 ⟨by omega, by omega⟩ (fun r_1288 Ez H locs hw2 hW hS => ?_)
    obtain ⟨ez, hw⟩ := hw2
    rw [ez] at hW
    refine lv_iload hx hb dL_fits_414 (lv_at hl 8 rfl) ?_
    refine lv_bipush (v := 7) hx hb dL_fits_416 (by decide) ?_
    refine lv_icmp_ne (tgt := 425) hx hb dL_fits_418 (by decide) (fun c_1289 => ?_) (fun c_1289 => ?_)
    · have hw := hw.2 c_1289
      refine lv_bipush (v := 7) hx hb dL_fits_425 (by decide) ?_
      exact hJ_427 _ _ _ _ _ _ _ _ _ _ _ _ _ _ _ hw hW hS (lv_sub hl [1, 2, 3, 4, 5, 6, 7, 8, 9, 10, 0] rfl)
    · have hw := hw.1 c_1289
      refine lv_iconst (v := 5) hx hb dL_fits_421 (by decide) ?_
      refine lv_goto (tgt := 427) hx hb dL_fits_422 (by decide) ?_
      exact hJ_427 _ _ _ _ _ _ _ _ _ _ _ _ _ _ _ hw hW hS (lv_sub hl [1, 2, 3, 4, 5, 6, 7, 8, 9, 10, 0] rfl)
  have hJ_384 : ∀ (i_1290 : Int32) (i_1291 : Int32) (i_1292 : Int32) (i_1293 : Int32) (i_1294 : Int32) (i_1295 : Int32) (i_1296 : Int32) (i_1297 : Int32) (X_1298 : ES)  (H : Heap) (locs : List Loc) (ls : Array Slot), wpj_L_fits_384 o lo ar_11 K Kx_18 (wpl_L_fits_18 o lo ar_11 K Kx_18 n_18) i_1290 i_1291 i_1292 i_1293 i_1294 i_1295 i_1296 i_1297 X_1298 → Wd g lay_11 X_1298 H → va_S (Ab g) H0 H locs → lv_has ls 12 [(0, .ref o), (1, .int i_1290), (2, .int i_1291), (3, .int i_1292), (4, .int i_1293), (5, .ref ar_11), (6, .int i_1294), (7, .int i_1295), (8, .int i_1296), (9, .int i_1297)] → W p l e R s m args below meth c H locs (cells + 1) (slots + 16) Q (F0 m 384 ls []) := by
    intro i_1290 i_1291 i_1292 i_1293 i_1294 i_1295 i_1296 i_1297 X_1298  H locs ls hw hW hS hl
    unfold wpj_L_fits_384 at hw
    refine lv_iload hx hb dL_fits_384 (lv_at hl 7 rfl) ?_
    refine lv_bipush (v := 7) hx hb dL_fits_386 (by decide) ?_
    refine lv_icmp_eq (tgt := 398) hx hb dL_fits_388 (by decide) (fun c_1301 => ?_) (fun c_1301 => ?_)
    · have hw := hw.1 c_1301
      exact hJ_398 _ _ _ _ _ _ _ _ _ _ _ _ hw hW hS (lv_sub hl [0, 1, 2, 3, 4, 5, 6, 7, 8, 9] rfl)
    · have hw := hw.2 c_1301
      refine lv_iload hx hb dL_fits_391 (lv_at hl 7 rfl) ?_
      refine lv_bipush (v := 8) hx hb dL_fits_393 (by decide) ?_
      refine lv_icmp_ne (tgt := 508) hx hb dL_fits_395 (by decide) (fun c_1302 => ?_) (fun c_1302 => ?_)
      · have hw := hw.2 c_1302
        exact hJ_508 _ _ _ _ _ _ _ _ _ _ _ _ hw hW hS (lv_sub hl [0, 1, 2, 3, 4, 5, 6, 7, 8, 9] rfl)
      · have hw := hw.1 c_1302
        exact hJ_398 _ _ _ _ _ _ _ _ _ _ _ _ hw hW hS (lv_sub hl [0, 1, 2, 3, 4, 5, 6, 7, 8, 9] rfl)
  have hJ_370 : ∀ (i_1303 : Int32) (i_1304 : Int32) (i_1305 : Int32) (i_1306 : Int32) (i_1307 : Int32) (i_1308 : Int32) (i_1309 : Int32) (i_1310 : Int32) (X_1311 : ES)  (H : Heap) (locs : List Loc) (ls : Array Slot), wpj_L_fits_370 o lo ar_11 K Kx_18 (wpl_L_fits_18 o lo ar_11 K Kx_18 n_18) i_1303 i_1304 i_1305 i_1306 i_1307 i_1308 i_1309 i_1310 X_1311 → Wd g lay_11 X_1311 H → va_S (Ab g) H0 H locs → lv_has ls 12 [(0, .ref o), (1, .int i_1303), (2, .int i_1304), (3, .int i_1305), (4, .int i_1306), (5, .ref ar_11), (6, .int i_1307), (7, .int i_1308), (8, .int i_1309), (9, .int i_1310)] → W p l e R s m args below meth c H locs (cells + 1) (slots + 16) Q (F0 m 370 ls []) := by
    intro i_1303 i_1304 i_1305 i_1306 i_1307 i_1308 i_1309 i_1310 X_1311  H locs ls hw hW hS hl
    unfold wpj_L_fits_370 at hw
    refine lv_aload_n hx hb dL_fits_370 rfl (lv_at hl 0 rfl) ?_
    refine lv_iload hx hb dL_fits_371 (lv_at hl 6 rfl) ?_
    refine lv_iconst (v := 4) hx hb dL_fits_373 (by decide) ?_
    refine w_cvi (As := [.int i_1307, .int 4]) (rest := []) hx hb hml hown hts hK hW hS hl.1 (c_X4_finder hA HR hw) (k_L_14 hts ⟨Nat.le_trans (by decide) hRf, Nat.le_trans (by decide) hRl⟩) (w_recv hK hW HR.1 rfl rfl rfl) rfl rfl (Nat.le_of_ble_eq_true rfl) dL_fits_374 ⟨by omega, by omega⟩ (fun r_1314 Ez H locs hw2 hW hS => ?_)
    obtain ⟨ez, hw⟩ := hw2
    rw [ez] at hW
    refine lv_bipush (v := (-6)) hx hb dL_fits_377 (by decide) ?_
    refine lv_icmp_eq (tgt := 384) hx hb dL_fits_379 (by decide) (fun c_1315 => ?_) (fun c_1315 => ?_)
    · have hw := hw.1 c_1315
      exact hJ_384 _ _ _ _ _ _ _ _ _ _ _ _ hw hW hS (lv_sub hl [0, 1, 2, 3, 4, 5, 6, 7, 8, 9] rfl)
    · have hw := hw.2 c_1315
      refine lv_iconst (v := 0) hx hb dL_fits_382 (by decide) ?_
      exact hret _ dL_fits_383 _ _ _ _ _ _ _ (by omega) (by omega) (Or.inl rfl) hw (hW.sub hsub) hS
  have hJ_357 : ∀ (i_1316 : Int32) (i_1317 : Int32) (i_1318 : Int32) (i_1319 : Int32) (i_1320 : Int32) (i_1321 : Int32) (i_1322 : Int32) (i_1323 : Int32) (X_1324 : ES)  (H : Heap) (locs : List Loc) (ls : Array Slot), wpj_L_fits_357 o lo ar_11 K Kx_18 (wpl_L_fits_18 o lo ar_11 K Kx_18 n_18) i_1316 i_1317 i_1318 i_1319 i_1320 i_1321 i_1322 i_1323 X_1324 → Wd g lay_11 X_1324 H → va_S (Ab g) H0 H locs → lv_has ls 12 [(0, .ref o), (1, .int i_1316), (2, .int i_1317), (3, .int i_1318), (4, .int i_1319), (5, .ref ar_11), (6, .int i_1320), (7, .int i_1321), (8, .int i_1322), (9, .int i_1323)] → W p l e R s m args below meth c H locs (cells + 1) (slots + 16) Q (F0 m 357 ls []) := by
    intro i_1316 i_1317 i_1318 i_1319 i_1320 i_1321 i_1322 i_1323 X_1324  H locs ls hw hW hS hl
    unfold wpj_L_fits_357 at hw
    refine lv_iload hx hb dL_fits_357 (lv_at hl 7 rfl) ?_
    refine lv_iconst (v := 4) hx hb dL_fits_359 (by decide) ?_
    refine lv_icmp_lt (tgt := 370) hx hb dL_fits_360 (by decide) (fun c_1327 => ?_) (fun c_1327 => ?_)
    · have hw := hw.1 c_1327
      exact hJ_370 _ _ _ _ _ _ _ _ _ _ _ _ hw hW hS (lv_sub hl [0, 1, 2, 3, 4, 5, 6, 7, 8, 9] rfl)
    · have hw := hw.2 c_1327
      refine lv_iload hx hb dL_fits_363 (lv_at hl 7 rfl) ?_
      refine lv_bipush (v := 9) hx hb dL_fits_365 (by decide) ?_
      refine lv_icmp_ne (tgt := 384) hx hb dL_fits_367 (by decide) (fun c_1328 => ?_) (fun c_1328 => ?_)
      · have hw := hw.2 c_1328
        exact hJ_384 _ _ _ _ _ _ _ _ _ _ _ _ hw hW hS (lv_sub hl [0, 1, 2, 3, 4, 5, 6, 7, 8, 9] rfl)
      · have hw := hw.1 c_1328
        exact hJ_370 _ _ _ _ _ _ _ _ _ _ _ _ hw hW hS (lv_sub hl [0, 1, 2, 3, 4, 5, 6, 7, 8, 9] rfl)
  have hJ_346 : ∀ (i_1329 : Int32) (i_1330 : Int32) (i_1331 : Int32) (i_1332 : Int32) (i_1333 : Int32) (i_1334 : Int32) (i_1335 : Int32) (i_1336 : Int32) (X_1337 : ES)  (H : Heap) (locs : List Loc) (ls : Array Slot), wpj_L_fits_346 o lo ar_11 K Kx_18 (wpl_L_fits_18 o lo ar_11 K Kx_18 n_18) i_1329 i_1330 i_1331 i_1332 i_1333 i_1334 i_1335 i_1336 X_1337 → Wd g lay_11 X_1337 H → va_S (Ab g) H0 H locs → lv_has ls 12 [(0, .ref o), (1, .int i_1329), (2, .int i_1330), (3, .int i_1331), (4, .int i_1332), (5, .ref ar_11), (6, .int i_1333), (7, .int i_1334), (8, .int i_1335), (9, .int i_1336)] → W p l e R s m args below meth c H locs (cells + 1) (slots + 16) Q (F0 m 346 ls []) := by
    intro i_1329 i_1330 i_1331 i_1332 i_1333 i_1334 i_1335 i_1336 X_1337  H locs ls hw hW hS hl
    unfold wpj_L_fits_346 at hw
    refine lv_iload hx hb dL_fits_346 (lv_at hl 7 rfl) ?_
    refine lv_iconst (v := 3) hx hb dL_fits_348 (by decide) ?_
    refine lv_icmp_ge (tgt := 357) hx hb dL_fits_349 (by decide) (fun c_1340 => ?_) (fun c_1340 => ?_)
    · have hw := hw.1 c_1340
      exact hJ_357 _ _ _ _ _ _ _ _ _ _ _ _ hw hW hS (lv_sub hl [0, 1, 2, 3, 4, 5, 6, 7, 8, 9] rfl)
    · have hw := hw.2 c_1340
      refine lv_iload hx hb dL_fits_352 (lv_at hl 9 rfl) ?_
      refine lv_if_ne (tgt := 382) hx hb dL_fits_354 (by decide) (fun c_1341 => ?_) (fun c_1341 => ?_)
      · have hw := hw.2 c_1341
        refine lv_iconst (v := 0) hx hb dL_fits_382 (by decide) ?_
        exact hret _ dL_fits_383 _ _ _ _ _ _ _ (by omega) (by omega) (Or.inl rfl) hw (hW.sub hsub) hS
      · have hw := hw.1 c_1341
        exact hJ_357 _ _ _ _ _ _ _ _ _ _ _ _ hw hW hS (lv_sub hl [0, 1, 2, 3, 4, 5, 6, 7, 8, 9] rfl)
  have hJ_294 : ∀ (i_1342 : Int32) (i_1343 : Int32) (i_1344 : Int32) (i_1345 : Int32) (i_1346 : Int32) (i_1347 : Int32) (i_1348 : Int32) (X_1349 : ES)  (H : Heap) (locs : List Loc) (ls : Array Slot), wpj_L_fits_294 o lo ar_11 K Kx_18 (wpl_L_fits_18 o lo ar_11 K Kx_18 n_18) i_1342 i_1343 i_1344 i_1345 i_1346 i_1347 i_1348 X_1349 → Wd g lay_11 X_1349 H → va_S (Ab g) H0 H locs → lv_has ls 12 [(0, .ref o), (1, .int i_1342), (2, .int i_1343), (3, .int i_1344), (4, .int i_1345), (5, .ref ar_11), (6, .int i_1346), (7, .int i_1347), (8, .int i_1348)] → W p l e R s m args below meth c H locs (cells + 1) (slots + 16) Q (F0 m 294 ls []) := by
    intro i_1342 i_1343 i_1344 i_1345 i_1346 i_1347 i_1348 X_1349  H locs ls hw hW hS hl
    unfold wpj_L_fits_294 at hw
    refine lv_aload_n hx hb dL_fits_294 rfl (lv_at hl 0 rfl) ?_
    refine lv_iload hx hb dL_fits_295 (lv_at hl 6 rfl) ?_
    refine lv_iconst (v := 3) hx hb dL_fits_297 (by decide) ?_
    refine w_cvi (As := [.int i_1346, .int 3]) (rest := []) hx hb hml hown hts hK hW hS hl.1 (c_X4_finder hA HR hw) (k_L_14 hts ⟨Nat.le_trans (by decide) hRf, Nat.le_trans (by decide) hRl⟩) (w_recv hK hW HR.1 rfl rfl rfl) rfl rfl (Nat.le_of_ble_eq_true rfl) dL_fits_298 ⟨by omega, by omega⟩ (fun r_1358 Ez H locs hw2 hW hS => ?_)
    obtain ⟨ez, hw⟩ := hw2
    rw [ez] at hW
    refine lv_istore (lv' := [(9, .int r_1358), (0, .ref o), (1, .int i_1342), (2, .int i_1343), (3, .int i_1344), (4, .int i_1345), (5, .ref ar_11), (6, .int i_1346), (7, .int i_1347), (8, .int i_1348)]) hx hb dL_fits_301 hl (by decide) rfl (fun ls hl => ?_)
    refine lv_iload hx hb dL_fits_303 (lv_at hl 8 rfl) ?_
    refine lv_iconst (v := 4) hx hb dL_fits_305 (by decide) ?_
    refine lv_icmp_le (tgt := 346) hx hb dL_fits_306 (by decide) (fun c_1359 => ?_) (fun c_1359 => ?_)
    · have hw := hw.1 c_1359
      exact hJ_346 _ _ _ _ _ _ _ _ _ _ _ _ hw hW hS (lv_sub hl [1, 2, 3, 4, 5, 6, 7, 8, 9, 0] rfl)
    · have hw := hw.2 c_1359
      refine lv_iload hx hb dL_fits_309 (lv_at hl 8 rfl) ?_
      refine lv_bipush (v := 9) hx hb dL_fits_311 (by decide) ?_
      refine lv_icmp_ge (tgt := 346) hx hb dL_fits_313 (by decide) (fun c_1360 => ?_) (fun c_1360 => ?_)
      · have hw := hw.1 c_1360
        exact hJ_346 _ _ _ _ _ _ _ _ _ _ _ _ hw hW hS (lv_sub hl [1, 2, 3, 4, 5, 6, 7, 8, 9, 0] rfl)
      · have hw := hw.2 c_1360
        refine lv_aload_n hx hb dL_fits_316 rfl (lv_at hl 1 rfl) ?_
        refine lv_iload hx hb dL_fits_317 (lv_at hl 0 rfl) ?_
        refine lv_aload_n hx hb dL_fits_319 rfl (lv_at hl 1 rfl) ?_
        refine lv_iload hx hb dL_fits_320 (lv_at hl 7 rfl) ?_
        refine lv_iconst (v := 4) hx hb dL_fits_322 (by decide) ?_
        refine w_cvi (As := [.int i_1346, .int 4]) (rest := [.int r_1358, .ref o]) hx hb hml hown hts hK hW hS hl.1 (c_X4_finder hA HR hw) (k_L_14 hts ⟨Nat.le_trans (by decide) hRf, Nat.le_trans (by decide) hRl⟩) (w_recv hK hW HR.1 rfl rfl rfl) rfl rfl (Nat.le_of_ble_eq_true rfl) dL_fits_323 ⟨by omega, by omega⟩ (fun r_1361 Ez H locs hw2 hW hS => ?_)
        obtain ⟨ez, hw⟩ := hw2
        rw [ez] at hW
        refine w_cvi (As := [.int r_1358, .int r_1361]) (rest := []) hx hb hml hown hts hK hW hS hl.1 (c_X4_connector hA HR hw) (k_L_21 hts ⟨Nat.le_trans (by decide) hRf, Nat.le_trans (by decide) hRl⟩) (w_recv hK hW HR.1 rfl rfl rfl) rfl rfl (Nat.le_of_ble_eq_true rfl) dL_fits_326 ⟨by omega, by omega⟩ (fun r_1362 Ez H locs hw2 hW hS => ?_)
        obtain ⟨ez, hw⟩ := hw2
        rw [ez] at hW
        refine lv_iload hx hb dL_fits_329 (lv_at hl 7 rfl) ?_
        refine lv_icmp_ne (tgt := 382) hx hb dL_fits_331 (by decide) (fun c_1363 => ?_) (fun c_1363 => ?_)
        · have hw := hw.2 c_1363
          refine lv_iconst (v := 0) hx hb dL_fits_382 (by decide) ?_
          exact hret _ dL_fits_383 _ _ _ _ _ _ _ (by omega) (by omega) (Or.inl rfl) hw (hW.sub hsub) hS
        · have hw := hw.1 c_1363
          refine lv_iload hx hb dL_fits_334 (lv_at hl 0 rfl) ?_
          refine lv_iconst (v := 1) hx hb dL_fits_336 (by decide) ?_
          refine lv_icmp_lt (tgt := 382) hx hb dL_fits_337 (by decide) (fun c_1364 => ?_) (fun c_1364 => ?_)
          · have hw := hw.1 c_1364
            refine lv_iconst (v := 0) hx hb dL_fits_382 (by decide) ?_
            exact hret _ dL_fits_383 _ _ _ _ _ _ _ (by omega) (by omega) (Or.inl rfl) hw (hW.sub hsub) hS
          · have hw := hw.2 c_1364
            refine lv_iload hx hb dL_fits_340 (lv_at hl 0 rfl) ?_
            refine lv_iconst (v := 4) hx hb dL_fits_342 (by decide) ?_
            refine lv_icmp_gt (tgt := 382) hx hb dL_fits_343 (by decide) (fun c_1365 => ?_) (fun c_1365 => ?_)
            · have hw := hw.1 c_1365
              refine lv_iconst (v := 0) hx hb dL_fits_382 (by decide) ?_
              exact hret _ dL_fits_383 _ _ _ _ _ _ _ (by omega) (by omega) (Or.inl rfl) hw (hW.sub hsub) hS
            · have hw := hw.2 c_1365
              exact hJ_346 _ _ _ _ _ _ _ _ _ _ _ _ hw hW hS (lv_sub hl [1, 2, 3, 4, 5, 6, 7, 8, 9, 0] rfl)
  have hJ_253 : ∀ (i_1366 : Int32) (i_1367 : Int32) (i_1368 : Int32) (i_1369 : Int32) (i_1370 : Int32) (i_1371 : Int32) (i_1372 : Int32) (i_1373 : Int32) (X_1374 : ES) (t_1375 : Int32) (H : Heap) (locs : List Loc) (ls : Array Slot), wpj_L_fits_253 o lo ar_11 K Kx_18 (wpl_L_fits_18 o lo ar_11 K Kx_18 n_18) i_1366 i_1367 i_1368 i_1369 i_1370 i_1371 i_1372 i_1373 X_1374 t_1375 → Wd g lay_11 X_1374 H → va_S (Ab g) H0 H locs → lv_has ls 12 [(0, .ref o), (1, .int i_1366), (2, .int i_1367), (3, .int i_1368), (4, .int i_1369), (5, .ref ar_11), (6, .int i_1370), (7, .int i_1371), (8, .int i_1372), (9, .int i_1373)] → W p l e R s m args below meth c H locs (cells + 1) (slots + 16) Q (F0 m 253 ls [.int t_1375]) := by
    intro i_1366 i_1367 i_1368 i_1369 i_1370 i_1371 i_1372 i_1373 X_1374 t_1375 H locs ls hw hW hS hl
    unfold wpj_L_fits_253 at hw
    refine lv_istore (lv' := [(10, .int t_1375), (0, .ref o), (1, .int i_1366), (2, .int i_1367), (3, .int i_1368), (4, .int i_1369), (5, .ref ar_11), (6, .int i_1370), (7, .int i_1371), (8, .int i_1372), (9, .int i_1373)]) hx hb dL_fits_253 hl (by decide) rfl (fun ls hl => ?_)
    refine lv_iload hx hb dL_fits_255 (lv_at hl 0 rfl) ?_
    refine lv_if_eq (tgt := 292) hx hb dL_fits_257 (by decide) (fun c_1382 => ?_) (fun c_1382 => ?_)
    · have hw := hw.1 c_1382
      refine lv_iconst (v := 0) hx hb dL_fits_292 (by decide) ?_
      exact hret _ dL_fits_293 _ _ _ _ _ _ _ (by omega) (by omega) (Or.inl rfl) hw (hW.sub hsub) hS
    · have hw := hw.2 c_1382
      refine lv_aload_n hx hb dL_fits_260 rfl (lv_at hl 1 rfl) ?_
      refine lv_iload hx hb dL_fits_261 (lv_at hl 9 rfl) ?_
      refine lv_iconst (v := 2) hx hb dL_fits_263 (by decide) ?_
      refine w_cvi (As := [.int i_1372, .int 2]) (rest := []) hx hb hml hown hts hK hW hS hl.1 (c_X4_line hA HR hw) (k_L_18 hts ⟨Nat.le_trans (by decide) hRf, Nat.le_trans (by decide) hRl⟩) (w_recv hK hW HR.1 rfl rfl rfl) rfl rfl (Nat.le_of_ble_eq_true rfl) dL_fits_264 ⟨by omega, by omega⟩ (fun r_1383 Ez H locs hw2 hW hS => ?_)
      obtain ⟨ez, hw⟩ := hw2
      rw [ez] at hW
      refine lv_iload hx hb dL_fits_267 (lv_at hl 7 rfl) ?_
      refine lv_icmp_ne (tgt := 292) hx hb dL_fits_269 (by decide) (fun c_1384 => ?_) (fun c_1384 => ?_)
      · have hw := hw.2 c_1384
        refine lv_iconst (v := 0) hx hb dL_fits_292 (by decide) ?_
        exact hret _ dL_fits_293 _ _ _ _ _ _ _ (by omega) (by omega) (Or.inl rfl) hw (hW.sub hsub) hS
      · have hw := hw.1 c_1384
        refine lv_aload_n hx hb dL_fits_272 rfl (lv_at hl 1 rfl) ?_
        refine lv_iload hx hb dL_fits_273 (lv_at hl 9 rfl) ?_
        refine lv_iconst (v := 1) hx hb dL_fits_275 (by decide) ?_
        refine w_cvi (As := [.int i_1372, .int 1]) (rest := []) hx hb hml hown hts hK hW hS hl.1 (c_X4_line hA HR hw) (k_L_18 hts ⟨Nat.le_trans (by decide) hRf, Nat.le_trans (by decide) hRl⟩) (w_recv hK hW HR.1 rfl rfl rfl) rfl rfl (Nat.le_of_ble_eq_true rfl) dL_fits_276 ⟨by omega, by omega⟩ (fun r_1385 Ez H locs hw2 hW hS => ?_)
        obtain ⟨ez, hw⟩ := hw2
        rw [ez] at hW
        refine lv_iconst (v := 1) hx hb dL_fits_279 (by decide) ?_
        refine lv_icmp_ne (tgt := 292) hx hb dL_fits_280 (by decide) (fun c_1386 => ?_) (fun c_1386 => ?_)
        · have hw := hw.2 c_1386
          refine lv_iconst (v := 0) hx hb dL_fits_292 (by decide) ?_
          exact hret _ dL_fits_293 _ _ _ _ _ _ _ (by omega) (by omega) (Or.inl rfl) hw (hW.sub hsub) hS
        · have hw := hw.1 c_1386
          refine lv_aload hx hb dL_fits_283 (lv_at hl 6 rfl) ?_
          refine lv_iload hx hb dL_fits_285 (lv_at hl 9 rfl) ?_
          obtain ⟨hin, hw⟩ := hw
          refine w_iald hx hb hK hW hlar11 rfl hin dL_fits_287 ?_
          refine lv_iconst (v := 1) hx hb dL_fits_288 (by decide) ?_
          refine lv_icmp_le (tgt := 294) hx hb dL_fits_289 (by decide) (fun c_1387 => ?_) (fun c_1387 => ?_)
          · have hw := hw.1 c_1387
            exact hJ_294 _ _ _ _ _ _ _ _ _ _ _ hw hW hS (lv_sub hl [1, 2, 3, 4, 5, 6, 7, 8, 9] rfl)
          · have hw := hw.2 c_1387
            refine lv_iconst (v := 0) hx hb dL_fits_292 (by decide) ?_
            exact hret _ dL_fits_293 _ _ _ _ _ _ _ (by omega) (by omega) (Or.inl rfl) hw (hW.sub hsub) hS
  have hJ_248 : ∀ (i_1388 : Int32) (i_1389 : Int32) (i_1390 : Int32) (i_1391 : Int32) (i_1392 : Int32) (i_1393 : Int32) (i_1394 : Int32) (i_1395 : Int32) (X_1396 : ES)  (H : Heap) (locs : List Loc) (ls : Array Slot), wpj_L_fits_248 o lo ar_11 K Kx_18 (wpl_L_fits_18 o lo ar_11 K Kx_18 n_18) i_1388 i_1389 i_1390 i_1391 i_1392 i_1393 i_1394 i_1395 X_1396 → Wd g lay_11 X_1396 H → va_S (Ab g) H0 H locs → lv_has ls 12 [(0, .ref o), (1, .int i_1388), (2, .int i_1389), (3, .int i_1390), (4, .int i_1391), (5, .ref ar_11), (6, .int i_1392), (7, .int i_1393), (8, .int i_1394), (9, .int i_1395)] → W p l e R s m args below meth c H locs (cells + 1) (slots + 16) Q (F0 m 248 ls []) := by
    intro i_1388 i_1389 i_1390 i_1391 i_1392 i_1393 i_1394 i_1395 X_1396  H locs ls hw hW hS hl
    unfold wpj_L_fits_248 at hw
    refine lv_iconst (v := 1) hx hb dL_fits_248 (by decide) ?_
    refine lv_goto (tgt := 253) hx hb dL_fits_249 (by decide) ?_
    exact hJ_253 _ _ _ _ _ _ _ _ _ _ _ _ _ hw hW hS (lv_sub hl [0, 1, 2, 3, 4, 5, 6, 7, 8, 9] rfl)
  have hJ_102 : ∀ (i_1397 : Int32) (i_1398 : Int32) (i_1399 : Int32) (i_1400 : Int32) (i_1401 : Int32) (i_1402 : Int32) (i_1403 : Int32) (X_1404 : ES) (t_1405 : Int32) (t_1406 : Int32) (H : Heap) (locs : List Loc) (ls : Array Slot), wpj_L_fits_102 o lo ar_11 K Kx_18 (wpl_L_fits_18 o lo ar_11 K Kx_18 n_18) i_1397 i_1398 i_1399 i_1400 i_1401 i_1402 i_1403 X_1404 t_1405 t_1406 → Wd g lay_11 X_1404 H → va_S (Ab g) H0 H locs → lv_has ls 12 [(0, .ref o), (1, .int i_1397), (2, .int i_1398), (3, .int i_1399), (4, .int i_1400), (5, .ref ar_11), (6, .int i_1401), (7, .int i_1402), (8, .int i_1403)] → W p l e R s m args below meth c H locs (cells + 1) (slots + 16) Q (F0 m 102 ls [.int t_1406, .int t_1405]) := by
    intro i_1397 i_1398 i_1399 i_1400 i_1401 i_1402 i_1403 X_1404 t_1405 t_1406 H locs ls hw hW hS hl
    unfold wpj_L_fits_102 at hw
    refine lv_icmp_eq (tgt := 107) hx hb dL_fits_102 (by decide) (fun c_1423 => ?_) (fun c_1423 => ?_)
    · have hw := hw.1 c_1423
      refine lv_iload hx hb dL_fits_107 (lv_at hl 8 rfl) ?_
      refine lv_if_lt (tgt := 294) hx hb dL_fits_109 (by decide) (fun c_1424 => ?_) (fun c_1424 => ?_)
      · have hw := hw.1 c_1424
        exact hJ_294 _ _ _ _ _ _ _ _ _ _ _ hw hW hS (lv_sub hl [0, 1, 2, 3, 4, 5, 6, 7, 8] rfl)
      · have hw := hw.2 c_1424
        refine lv_aload hx hb dL_fits_112 (lv_at hl 5 rfl) ?_
        refine lv_iload hx hb dL_fits_114 (lv_at hl 8 rfl) ?_
        refine lv_dup2_11 hx hb dL_fits_116 rfl rfl ?_
        obtain ⟨hin, hw⟩ := hw
        refine w_iald hx hb hK hW hlar11 rfl hin dL_fits_117 ?_
        refine lv_iconst (v := 1) hx hb dL_fits_118 (by decide) ?_
        refine lv_iadd hx hb dL_fits_119 ?_
        obtain ⟨hin, hw⟩ := hw
        obtain ⟨X_1425, eX_1425⟩ : ∃ z : ES, z = va_up X_1404 ar_11 (upd (X_1404 ar_11) i_1403.toNatClampNeg ((X_1404 ar_11 i_1403.toNatClampNeg) + 1)) := ⟨_, rfl⟩
        have hw := hw X_1425 eX_1425
        refine w_iast (E1 := X_1425) hx hb hK hA hW hS hlar11 rfl hin dL_fits_120 eX_1425.symm (fun H locs hW hS => ?_)
        refine lv_aload_n hx hb dL_fits_121 rfl (lv_at hl 0 rfl) ?_
        refine lv_iload hx hb dL_fits_122 (lv_at hl 8 rfl) ?_
        refine lv_iconst (v := 0) hx hb dL_fits_124 (by decide) ?_
        refine w_cvi (As := [.int i_1403, .int 0]) (rest := []) hx hb hml hown hts hK hW hS hl.1 (c_X4_line hA HR hw) (k_L_18 hts ⟨Nat.le_trans (by decide) hRf, Nat.le_trans (by decide) hRl⟩) (w_recv hK hW HR.1 rfl rfl rfl) rfl rfl (Nat.le_of_ble_eq_true rfl) dL_fits_125 ⟨by omega, by omega⟩ (fun r_1426 Ez H locs hw2 hW hS => ?_)
        obtain ⟨ez, hw⟩ := hw2
        rw [ez] at hW
        refine lv_istore (lv' := [(9, .int r_1426), (0, .ref o), (1, .int i_1397), (2, .int i_1398), (3, .int i_1399), (4, .int i_1400), (5, .ref ar_11), (6, .int i_1401), (7, .int i_1402), (8, .int i_1403)]) hx hb dL_fits_128 hl (by decide) rfl (fun ls hl => ?_)
        refine lv_iload hx hb dL_fits_130 (lv_at hl 8 rfl) ?_
        refine lv_iconst (v := 1) hx hb dL_fits_132 (by decide) ?_
        refine lv_icmp_ne (tgt := 150) hx hb dL_fits_133 (by decide) (fun c_1427 => ?_) (fun c_1427 => ?_)
        · have hw := hw.2 c_1427
          refine lv_iload hx hb dL_fits_150 (lv_at hl 8 rfl) ?_
          refine lv_iconst (v := 2) hx hb dL_fits_152 (by decide) ?_
          refine lv_icmp_ne (tgt := 170) hx hb dL_fits_153 (by decide) (fun c_1428 => ?_) (fun c_1428 => ?_)
          · have hw := hw.2 c_1428
            refine lv_iload hx hb dL_fits_170 (lv_at hl 8 rfl) ?_
            refine lv_bipush (v := 7) hx hb dL_fits_172 (by decide) ?_
            refine lv_icmp_ge (tgt := 191) hx hb dL_fits_174 (by decide) (fun c_1429 => ?_) (fun c_1429 => ?_)
            · have hw := hw.1 c_1429
              refine lv_iload hx hb dL_fits_191 (lv_at hl 8 rfl) ?_
              refine lv_bipush (v := 7) hx hb dL_fits_193 (by decide) ?_
              refine lv_icmp_ne (tgt := 212) hx hb dL_fits_195 (by decide) (fun c_1430 => ?_) (fun c_1430 => ?_)
              · have hw := hw.2 c_1430
                refine lv_iload hx hb dL_fits_212 (lv_at hl 8 rfl) ?_
                refine lv_bipush (v := 8) hx hb dL_fits_214 (by decide) ?_
                refine lv_icmp_ne (tgt := 234) hx hb dL_fits_216 (by decide) (fun c_1431 => ?_) (fun c_1431 => ?_)
                · have hw := hw.2 c_1431
                  refine lv_iload hx hb dL_fits_234 (lv_at hl 0 rfl) ?_
                  refine lv_bipush (v := 8) hx hb dL_fits_236 (by decide) ?_
                  refine lv_icmp_eq (tgt := 248) hx hb dL_fits_238 (by decide) (fun c_1432 => ?_) (fun c_1432 => ?_)
                  · have hw := hw.1 c_1432
                    exact hJ_248 _ _ _ _ _ _ _ _ _ _ _ _ hw hW hS (lv_sub hl [1, 2, 3, 4, 5, 6, 7, 8, 9, 0] rfl)
                  · have hw := hw.2 c_1432
                    refine lv_iload hx hb dL_fits_241 (lv_at hl 0 rfl) ?_
                    refine lv_bipush (v := 9) hx hb dL_fits_243 (by decide) ?_
                    refine lv_icmp_ne (tgt := 252) hx hb dL_fits_245 (by decide) (fun c_1433 => ?_) (fun c_1433 => ?_)
                    · have hw := hw.2 c_1433
                      refine lv_iconst (v := 0) hx hb dL_fits_252 (by decide) ?_
                      exact hJ_253 _ _ _ _ _ _ _ _ _ _ _ _ _ hw hW hS (lv_sub hl [1, 2, 3, 4, 5, 6, 7, 8, 9, 0] rfl)
                    · have hw := hw.1 c_1433
                      exact hJ_248 _ _ _ _ _ _ _ _ _ _ _ _ hw hW hS (lv_sub hl [1, 2, 3, 4, 5, 6, 7, 8, 9, 0] rfl)
                · have hw := hw.1 c_1431
                  refine lv_iload hx hb dL_fits_219 (lv_at hl 0 rfl) ?_
                  refine lv_bipush (v := 6) hx hb dL_fits_221 (by decide) ?_
                  refine lv_icmp_ne (tgt := 230) hx hb dL_fits_223 (by decide) (fun c_1434 => ?_) (fun c_1434 => ?_)
                  · have hw := hw.2 c_1434
                    refine lv_iconst (v := 0) hx hb dL_fits_230 (by decide) ?_
                    refine lv_goto (tgt := 253) hx hb dL_fits_231 (by decide) ?_
                    exact hJ_253 _ _ _ _ _ _ _ _ _ _ _ _ _ hw hW hS (lv_sub hl [1, 2, 3, 4, 5, 6, 7, 8, 9, 0] rfl)
                  · have hw := hw.1 c_1434
                    refine lv_iconst (v := 1) hx hb dL_fits_226 (by decide) ?_
                    refine lv_goto (tgt := 253) hx hb dL_fits_227 (by decide) ?_
                    exact hJ_253 _ _ _ _ _ _ _ _ _ _ _ _ _ hw hW hS (lv_sub hl [1, 2, 3, 4, 5, 6, 7, 8, 9, 0] rfl)
              · have hw := hw.1 c_1430
                refine lv_iload hx hb dL_fits_198 (lv_at hl 0 rfl) ?_
                refine lv_iconst (v := 4) hx hb dL_fits_200 (by decide) ?_
                refine lv_icmp_ne (tgt := 208) hx hb dL_fits_201 (by decide) (fun c_1435 => ?_) (fun c_1435 => ?_)
                · have hw := hw.2 c_1435
                  refine lv_iconst (v := 0) hx hb dL_fits_208 (by decide) ?_
                  refine lv_goto (tgt := 253) hx hb dL_fits_209 (by decide) ?_
                  exact hJ_253 _ _ _ _ _ _ _ _ _ _ _ _ _ hw hW hS (lv_sub hl [1, 2, 3, 4, 5, 6, 7, 8, 9, 0] rfl)
                · have hw := hw.1 c_1435
                  refine lv_iconst (v := 1) hx hb dL_fits_204 (by decide) ?_
                  refine lv_goto (tgt := 253) hx hb dL_fits_205 (by decide) ?_
                  exact hJ_253 _ _ _ _ _ _ _ _ _ _ _ _ _ hw hW hS (lv_sub hl [1, 2, 3, 4, 5, 6, 7, 8, 9, 0] rfl)
            · have hw := hw.2 c_1429
              refine lv_iload hx hb dL_fits_177 (lv_at hl 0 rfl) ?_
              refine lv_iconst (v := 3) hx hb dL_fits_179 (by decide) ?_
              refine lv_icmp_ne (tgt := 187) hx hb dL_fits_180 (by decide) (fun c_1436 => ?_) (fun c_1436 => ?_)
              · have hw := hw.2 c_1436
                refine lv_iconst (v := 0) hx hb dL_fits_187 (by decide) ?_
                refine lv_goto (tgt := 253) hx hb dL_fits_188 (by decide) ?_
                exact hJ_253 _ _ _ _ _ _ _ _ _ _ _ _ _ hw hW hS (lv_sub hl [1, 2, 3, 4, 5, 6, 7, 8, 9, 0] rfl)
              · have hw := hw.1 c_1436
                refine lv_iconst (v := 1) hx hb dL_fits_183 (by decide) ?_
                refine lv_goto (tgt := 253) hx hb dL_fits_184 (by decide) ?_
                exact hJ_253 _ _ _ _ _ _ _ _ _ _ _ _ _ hw hW hS (lv_sub hl [1, 2, 3, 4, 5, 6, 7, 8, 9, 0] rfl)
          · have hw := hw.1 c_1428
            refine lv_iload hx hb dL_fits_156 (lv_at hl 0 rfl) ?_
            refine lv_iconst (v := 2) hx hb dL_fits_158 (by decide) ?_
            refine lv_icmp_ne (tgt := 166) hx hb dL_fits_159 (by decide) (fun c_1437 => ?_) (fun c_1437 => ?_)
            · have hw := hw.2 c_1437
              refine lv_iconst (v := 0) hx hb dL_fits_166 (by decide) ?_
              refine lv_goto (tgt := 253) hx hb dL_fits_167 (by decide) ?_
              exact hJ_253 _ _ _ _ _ _ _ _ _ _ _ _ _ hw hW hS (lv_sub hl [1, 2, 3, 4, 5, 6, 7, 8, 9, 0] rfl)
            · have hw := hw.1 c_1437
              refine lv_iconst (v := 1) hx hb dL_fits_162 (by decide) ?_
              refine lv_goto (tgt := 253) hx hb dL_fits_163 (by decide) ?_
              exact hJ_253 _ _ _ _ _ _ _ _ _ _ _ _ _ hw hW hS (lv_sub hl [1, 2, 3, 4, 5, 6, 7, 8, 9, 0] rfl)
        · have hw := hw.1 c_1427
          refine lv_iload hx hb dL_fits_136 (lv_at hl 0 rfl) ?_
          refine lv_iconst (v := 1) hx hb dL_fits_138 (by decide) ?_
          refine lv_icmp_ne (tgt := 146) hx hb dL_fits_139 (by decide) (fun c_1438 => ?_) (fun c_1438 => ?_)
          · have hw := hw.2 c_1438
            refine lv_iconst (v := 0) hx hb dL_fits_146 (by decide) ?_
            refine lv_goto (tgt := 253) hx hb dL_fits_147 (by decide) ?_
            exact hJ_253 _ _ _ _ _ _ _ _ _ _ _ _ _ hw hW hS (lv_sub hl [1, 2, 3, 4, 5, 6, 7, 8, 9, 0] rfl)
          · have hw := hw.1 c_1438
            refine lv_iconst (v := 1) hx hb dL_fits_142 (by decide) ?_
            refine lv_goto (tgt := 253) hx hb dL_fits_143 (by decide) ?_
            exact hJ_253 _ _ _ _ _ _ _ _ _ _ _ _ _ hw hW hS (lv_sub hl [1, 2, 3, 4, 5, 6, 7, 8, 9, 0] rfl)
    · have hw := hw.2 c_1423
      refine lv_iconst (v := 0) hx hb dL_fits_105 (by decide) ?_
      exact hret _ dL_fits_106 _ _ _ _ _ _ _ (by omega) (by omega) (Or.inl rfl) hw (hW.sub hsub) hS
  have hJ_90 : ∀ (i_1439 : Int32) (i_1440 : Int32) (i_1441 : Int32) (i_1442 : Int32) (i_1443 : Int32) (i_1444 : Int32) (i_1445 : Int32) (X_1446 : ES) (t_1447 : Int32) (H : Heap) (locs : List Loc) (ls : Array Slot), wpj_L_fits_90 o lo ar_11 K Kx_18 (wpl_L_fits_18 o lo ar_11 K Kx_18 n_18) i_1439 i_1440 i_1441 i_1442 i_1443 i_1444 i_1445 X_1446 t_1447 → Wd g lay_11 X_1446 H → va_S (Ab g) H0 H locs → lv_has ls 12 [(0, .ref o), (1, .int i_1439), (2, .int i_1440), (3, .int i_1441), (4, .int i_1442), (5, .ref ar_11), (6, .int i_1443), (7, .int i_1444), (8, .int i_1445)] → W p l e R s m args below meth c H locs (cells + 1) (slots + 16) Q (F0 m 90 ls [.int t_1447]) := by
    intro i_1439 i_1440 i_1441 i_1442 i_1443 i_1444 i_1445 X_1446 t_1447 H locs ls hw hW hS hl
    unfold wpj_L_fits_90 at hw
    refine lv_iload hx hb dL_fits_90 (lv_at hl 8 rfl) ?_
    refine lv_bipush (v := (-6)) hx hb dL_fits_92 (by decide) ?_
    refine lv_icmp_ne (tgt := 101) hx hb dL_fits_94 (by decide) (fun c_1449 => ?_) (fun c_1449 => ?_)
    · have hw := hw.2 c_1449
      refine lv_iconst (v := 0) hx hb dL_fits_101 (by decide) ?_
      exact hJ_102 _ _ _ _ _ _ _ _ _ _ _ _ _ hw hW hS (lv_sub hl [0, 1, 2, 3, 4, 5, 6, 7, 8] rfl)
    · have hw := hw.1 c_1449
      refine lv_iconst (v := 1) hx hb dL_fits_97 (by decide) ?_
      refine lv_goto (tgt := 102) hx hb dL_fits_98 (by decide) ?_
      exact hJ_102 _ _ _ _ _ _ _ _ _ _ _ _ _ hw hW hS (lv_sub hl [0, 1, 2, 3, 4, 5, 6, 7, 8] rfl)
  have hJ_78 : ∀ (i_1450 : Int32) (i_1451 : Int32) (i_1452 : Int32) (i_1453 : Int32) (i_1454 : Int32) (i_1455 : Int32) (i_1456 : Int32) (X_1457 : ES) (t_1458 : Int32) (t_1459 : Int32) (H : Heap) (locs : List Loc) (ls : Array Slot), wpj_L_fits_78 o lo ar_11 K Kx_18 (wpl_L_fits_18 o lo ar_11 K Kx_18 n_18) i_1450 i_1451 i_1452 i_1453 i_1454 i_1455 i_1456 X_1457 t_1458 t_1459 → Wd g lay_11 X_1457 H → va_S (Ab g) H0 H locs → lv_has ls 12 [(0, .ref o), (1, .int i_1450), (2, .int i_1451), (3, .int i_1452), (4, .int i_1453), (5, .ref ar_11), (6, .int i_1454), (7, .int i_1455), (8, .int i_1456)] → W p l e R s m args below meth c H locs (cells + 1) (slots + 16) Q (F0 m 78 ls [.int t_1459, .int t_1458]) := by
    intro i_1450 i_1451 i_1452 i_1453 i_1454 i_1455 i_1456 X_1457 t_1458 t_1459 H locs ls hw hW hS hl
    unfold wpj_L_fits_78 at hw
    refine lv_iadd hx hb dL_fits_78 ?_
    refine lv_topi (fun v_1462 ev_1462 => ?_)
    have hw := hw v_1462 ev_1462
    refine lv_istore_n (lv' := [(2, .int v_1462), (0, .ref o), (1, .int i_1450), (3, .int i_1452), (4, .int i_1453), (5, .ref ar_11), (6, .int i_1454), (7, .int i_1455), (8, .int i_1456)]) hx hb dL_fits_79 rfl hl (by decide) rfl (fun ls hl => ?_)
    refine lv_iload hx hb dL_fits_80 (lv_at hl 7 rfl) ?_
    refine lv_if_ne (tgt := 89) hx hb dL_fits_82 (by decide) (fun c_1463 => ?_) (fun c_1463 => ?_)
    · have hw := hw.2 c_1463
      refine lv_iconst (v := 0) hx hb dL_fits_89 (by decide) ?_
      exact hJ_90 _ _ _ _ _ _ _ _ _ _ _ _ hw hW hS (lv_sub hl [1, 2, 0, 3, 4, 5, 6, 7, 8] rfl)
    · have hw := hw.1 c_1463
      refine lv_iconst (v := 1) hx hb dL_fits_85 (by decide) ?_
      refine lv_goto (tgt := 90) hx hb dL_fits_86 (by decide) ?_
      exact hJ_90 _ _ _ _ _ _ _ _ _ _ _ _ hw hW hS (lv_sub hl [1, 2, 0, 3, 4, 5, 6, 7, 8] rfl)
  have hJ_77 : ∀ (i_1464 : Int32) (i_1465 : Int32) (i_1466 : Int32) (i_1467 : Int32) (i_1468 : Int32) (i_1469 : Int32) (i_1470 : Int32) (X_1471 : ES) (t_1472 : Int32) (H : Heap) (locs : List Loc) (ls : Array Slot), wpj_L_fits_77 o lo ar_11 K Kx_18 (wpl_L_fits_18 o lo ar_11 K Kx_18 n_18) i_1464 i_1465 i_1466 i_1467 i_1468 i_1469 i_1470 X_1471 t_1472 → Wd g lay_11 X_1471 H → va_S (Ab g) H0 H locs → lv_has ls 12 [(0, .ref o), (1, .int i_1464), (2, .int i_1465), (3, .int i_1466), (4, .int i_1467), (5, .ref ar_11), (6, .int i_1468), (7, .int i_1469), (8, .int i_1470)] → W p l e R s m args below meth c H locs (cells + 1) (slots + 16) Q (F0 m 77 ls [.int t_1472]) := by
    intro i_1464 i_1465 i_1466 i_1467 i_1468 i_1469 i_1470 X_1471 t_1472 H locs ls hw hW hS hl
    unfold wpj_L_fits_77 at hw
    refine lv_iconst (v := 0) hx hb dL_fits_77 (by decide) ?_
    exact hJ_78 _ _ _ _ _ _ _ _ _ _ _ _ _ hw hW hS (lv_sub hl [0, 1, 2, 3, 4, 5, 6, 7, 8] rfl)
  have hJ_57 : ∀ (i_1473 : Int32) (i_1474 : Int32) (i_1475 : Int32) (i_1476 : Int32) (i_1477 : Int32) (i_1478 : Int32) (i_1479 : Int32) (X_1480 : ES) (t_1481 : Int32) (t_1482 : Int32) (H : Heap) (locs : List Loc) (ls : Array Slot), wpj_L_fits_57 o lo ar_11 K Kx_18 (wpl_L_fits_18 o lo ar_11 K Kx_18 n_18) i_1473 i_1474 i_1475 i_1476 i_1477 i_1478 i_1479 X_1480 t_1481 t_1482 → Wd g lay_11 X_1480 H → va_S (Ab g) H0 H locs → lv_has ls 12 [(0, .ref o), (1, .int i_1473), (2, .int i_1474), (3, .int i_1475), (4, .int i_1476), (5, .ref ar_11), (6, .int i_1477), (7, .int i_1478), (8, .int i_1479)] → W p l e R s m args below meth c H locs (cells + 1) (slots + 16) Q (F0 m 57 ls [.int t_1482, .int t_1481]) := by
    intro i_1473 i_1474 i_1475 i_1476 i_1477 i_1478 i_1479 X_1480 t_1481 t_1482 H locs ls hw hW hS hl
    unfold wpj_L_fits_57 at hw
    refine lv_iadd hx hb dL_fits_57 ?_
    refine lv_topi (fun v_1486 ev_1486 => ?_)
    have hw := hw v_1486 ev_1486
    refine lv_istore_n (lv' := [(1, .int v_1486), (0, .ref o), (2, .int i_1474), (3, .int i_1475), (4, .int i_1476), (5, .ref ar_11), (6, .int i_1477), (7, .int i_1478), (8, .int i_1479)]) hx hb dL_fits_58 rfl hl (by decide) rfl (fun ls hl => ?_)
    refine lv_iload_n hx hb dL_fits_59 rfl (lv_at hl 2 rfl) ?_
    refine lv_iload hx hb dL_fits_60 (lv_at hl 7 rfl) ?_
    refine lv_iconst (v := 4) hx hb dL_fits_62 (by decide) ?_
    refine lv_icmp_le (tgt := 77) hx hb dL_fits_63 (by decide) (fun c_1487 => ?_) (fun c_1487 => ?_)
    · have hw := hw.1 c_1487
      exact hJ_77 _ _ _ _ _ _ _ _ _ _ _ _ hw hW hS (lv_sub hl [1, 0, 2, 3, 4, 5, 6, 7, 8] rfl)
    · have hw := hw.2 c_1487
      refine lv_iload hx hb dL_fits_66 (lv_at hl 7 rfl) ?_
      refine lv_bipush (v := 9) hx hb dL_fits_68 (by decide) ?_
      refine lv_icmp_ge (tgt := 77) hx hb dL_fits_70 (by decide) (fun c_1488 => ?_) (fun c_1488 => ?_)
      · have hw := hw.1 c_1488
        exact hJ_77 _ _ _ _ _ _ _ _ _ _ _ _ hw hW hS (lv_sub hl [1, 0, 2, 3, 4, 5, 6, 7, 8] rfl)
      · have hw := hw.2 c_1488
        refine lv_iconst (v := 1) hx hb dL_fits_73 (by decide) ?_
        refine lv_goto (tgt := 78) hx hb dL_fits_74 (by decide) ?_
        exact hJ_78 _ _ _ _ _ _ _ _ _ _ _ _ _ hw hW hS (lv_sub hl [1, 0, 2, 3, 4, 5, 6, 7, 8] rfl)
  refine lv_iload hx hb dL_fits_18 (lv_at hl 6 rfl) ?_
  refine lv_aload_n hx hb dL_fits_20 rfl (lv_at hl 0 rfl) ?_
  refine lv_iconst (v := 1) hx hb dL_fits_21 (by decide) ?_
  refine w_cvi (As := [.int 1]) (rest := [.int i_628]) hx hb hml hown hts hK hW hS hl.1 (c_X4_count hA HR hw) (k_L_8 hts ⟨Nat.le_trans (by decide) hRf, Nat.le_trans (by decide) hRl⟩) (w_recv hK hW HR.1 rfl rfl rfl) rfl rfl (Nat.le_of_ble_eq_true rfl) dL_fits_22 ⟨by omega, by omega⟩ (fun r_1489 Ez H locs hw2 hW hS => ?_)
  obtain ⟨ez, hw⟩ := hw2
  rw [ez] at hW
  refine lv_icmp_ge (tgt := 514) hx hb dL_fits_25 (by decide) (fun c_1490 => ?_) (fun c_1490 => ?_)
  · have hw := hw.1 c_1490
    rw [eK_18] at hw
    refine lv_iconst (v := 0) hx hb dL_fits_514 (by decide) ?_
    refine lv_istore (lv' := [(6, .int 0), (0, .ref o), (1, .int i_624), (2, .int i_625), (3, .int i_626), (4, .int i_627), (5, .ref ar_11)]) hx hb dL_fits_515 hl (by decide) rfl (fun ls hl => ?_)
    refine lv_iconst (v := 0) hx hb dL_fits_517 (by decide) ?_
    refine lv_istore (lv' := [(7, .int 0), (6, .int 0), (0, .ref o), (1, .int i_624), (2, .int i_625), (3, .int i_626), (4, .int i_627), (5, .ref ar_11)]) hx hb dL_fits_518 hl (by decide) rfl (fun ls hl => ?_)
    refine lv_iconst (v := 0) hx hb dL_fits_520 (by decide) ?_
    refine lv_istore (lv' := [(8, .int 0), (7, .int 0), (6, .int 0), (0, .ref o), (1, .int i_624), (2, .int i_625), (3, .int i_626), (4, .int i_627), (5, .ref ar_11)]) hx hb dL_fits_521 hl (by decide) rfl (fun ls hl => ?_)
    obtain ⟨n_1529, hw⟩ := hw
    refine w_loop (KT := Int32 → Int32 → Int32 → Int32 → Int32 → Int32 → Int32 → ES → Prop) (σ := Int32 × Int32 × Int32 × Int32 × Int32 × Int32 × Int32 × ES) (Wl := fun Kx_523 n_523 q => wpl_L_fits_523 o lo ar_11 K Kx_523 n_523 q.1 q.2.1 q.2.2.1 q.2.2.2.1 q.2.2.2.2.1 q.2.2.2.2.2.1 q.2.2.2.2.2.2.1 q.2.2.2.2.2.2.2) (Pw := fun q => Wd g lay_11 (q.2.2.2.2.2.2.2)) (lvf := fun q => [(0, .ref o), (1, .int q.1), (2, .int q.2.1), (3, .int q.2.2.1), (4, .int q.2.2.2.1), (5, .ref ar_11), (6, .int q.2.2.2.2.1), (7, .int q.2.2.2.2.2.1), (8, .int q.2.2.2.2.2.2.1)]) (nL := 12) n_1529 (i_624, i_625, i_626, i_627, 0, 0, 0, X_629) hw hW hS (lv_sub hl [3, 4, 5, 6, 7, 8, 2, 1, 0] rfl) (fun _ h => h) (fun Kx_523 eK_523 n_523 q H locs ls hw hW hS hl ih_523 => ?_)
    obtain ⟨i_1521, i_1522, i_1523, i_1524, i_1525, i_1526, i_1527, X_1528⟩ := q
    try dsimp only at hw
    rw [wpl_L_fits_523] at hw
    have hl : lv_has ls 12 [(0, .ref o), (1, .int i_1521), (2, .int i_1522), (3, .int i_1523), (4, .int i_1524), (5, .ref ar_11), (6, .int i_1525), (7, .int i_1526), (8, .int i_1527)] := hl
    have hW : Wd g lay_11 X_1528 H := hW
    have hJ_840 : ∀ (i_1530 : Int32) (i_1531 : Int32) (i_1532 : Int32) (i_1533 : Int32) (i_1534 : Int32) (i_1535 : Int32) (i_1536 : Int32) (i_1537 : Int32) (i_1538 : Int32) (i_1539 : Int32) (X_1540 : ES) (t_1541 : Int32) (t_1542 : Int32) (H : Heap) (locs : List Loc) (ls : Array Slot), wpj_L_fits_840 o lo ar_11 K Kx_523 (wpl_L_fits_523 o lo ar_11 K Kx_523 n_523) i_1530 i_1531 i_1532 i_1533 i_1534 i_1535 i_1536 i_1537 i_1538 i_1539 X_1540 t_1541 t_1542 → Wd g lay_11 X_1540 H → va_S (Ab g) H0 H locs → lv_has ls 12 [(0, .ref o), (1, .int i_1530), (2, .int i_1531), (3, .int i_1532), (4, .int i_1533), (5, .ref ar_11), (6, .int i_1534), (7, .int i_1535), (8, .int i_1536), (9, .int i_1537), (10, .int i_1538), (11, .int i_1539)] → W p l e R s m args below meth c H locs (cells + 1) (slots + 16) Q (F0 m 840 ls [.int t_1542, .int t_1541]) := by
      intro i_1530 i_1531 i_1532 i_1533 i_1534 i_1535 i_1536 i_1537 i_1538 i_1539 X_1540 t_1541 t_1542 H locs ls hw hW hS hl
      unfold wpj_L_fits_840 at hw
      refine lv_iadd hx hb dL_fits_840 ?_
      refine lv_topi (fun v_1545 ev_1545 => ?_)
      have hw := hw v_1545 ev_1545
      refine lv_istore (lv' := [(7, .int v_1545), (0, .ref o), (1, .int i_1530), (2, .int i_1531), (3, .int i_1532), (4, .int i_1533), (5, .ref ar_11), (6, .int i_1534), (8, .int i_1536), (9, .int i_1537), (10, .int i_1538), (11, .int i_1539)]) hx hb dL_fits_841 hl (by decide) rfl (fun ls hl => ?_)
      obtain ⟨v_1546, ev_1546⟩ : ∃ z : Int32, z = i_1536 + 1 := ⟨_, rfl⟩
      have hw := hw v_1546 ev_1546
      refine lv_iinc (v := v_1546) (lv' := [(8, .int v_1546), (7, .int v_1545), (0, .ref o), (1, .int i_1530), (2, .int i_1531), (3, .int i_1532), (4, .int i_1533), (5, .ref ar_11), (6, .int i_1534), (9, .int i_1537), (10, .int i_1538), (11, .int i_1539)]) hx hb dL_fits_843 hl (k := 8) rfl (by rw [ev_1546]; rfl) (by decide) rfl (fun ls hl => ?_)
      refine lv_goto (tgt := 523) hx hb dL_fits_846 (by decide) ?_
      exact ih_523 (i_1530, i_1531, i_1532, i_1533, i_1534, v_1545, v_1546, X_1540) _ _ _ hw hW hS (lv_sub hl [2, 3, 4, 5, 6, 7, 8, 1, 0] rfl)
    have hJ_814 : ∀ (i_1547 : Int32) (i_1548 : Int32) (i_1549 : Int32) (i_1550 : Int32) (i_1551 : Int32) (i_1552 : Int32) (i_1553 : Int32) (i_1554 : Int32) (i_1555 : Int32) (i_1556 : Int32) (X_1557 : ES) (t_1558 : Int32) (t_1559 : Int32) (H : Heap) (locs : List Loc) (ls : Array Slot), wpj_L_fits_814 o lo ar_11 K Kx_523 (wpl_L_fits_523 o lo ar_11 K Kx_523 n_523) i_1547 i_1548 i_1549 i_1550 i_1551 i_1552 i_1553 i_1554 i_1555 i_1556 X_1557 t_1558 t_1559 → Wd g lay_11 X_1557 H → va_S (Ab g) H0 H locs → lv_has ls 12 [(0, .ref o), (1, .int i_1547), (2, .int i_1548), (3, .int i_1549), (4, .int i_1550), (5, .ref ar_11), (6, .int i_1551), (7, .int i_1552), (8, .int i_1553), (9, .int i_1554), (10, .int i_1555), (11, .int i_1556)] → W p l e R s m args below meth c H locs (cells + 1) (slots + 16) Q (F0 m 814 ls [.int t_1559, .int t_1558]) := by
      intro i_1547 i_1548 i_1549 i_1550 i_1551 i_1552 i_1553 i_1554 i_1555 i_1556 X_1557 t_1558 t_1559 H locs ls hw hW hS hl
      unfold wpj_L_fits_814 at hw
      refine lv_icmp_eq (tgt := 819) hx hb dL_fits_814 (by decide) (fun c_1563 => ?_) (fun c_1563 => ?_)
      · have hw := hw.1 c_1563
        refine lv_iload hx hb dL_fits_819 (lv_at hl 7 rfl) ?_
        refine lv_iload hx hb dL_fits_821 (lv_at hl 11 rfl) ?_
        refine lv_if_eq (tgt := 839) hx hb dL_fits_823 (by decide) (fun c_1564 => ?_) (fun c_1564 => ?_)
        · have hw := hw.1 c_1564
          refine lv_iconst (v := 0) hx hb dL_fits_839 (by decide) ?_
          exact hJ_840 _ _ _ _ _ _ _ _ _ _ _ _ _ _ _ _ hw hW hS (lv_sub hl [0, 1, 2, 3, 4, 5, 6, 7, 8, 9, 10, 11] rfl)
        · have hw := hw.2 c_1564
          refine lv_iconst (v := 1) hx hb dL_fits_826 (by decide) ?_
          refine lv_aload_n hx hb dL_fits_827 rfl (lv_at hl 0 rfl) ?_
          refine lv_iload hx hb dL_fits_828 (lv_at hl 8 rfl) ?_
          refine lv_bipush (v := 7) hx hb dL_fits_830 (by decide) ?_
          refine w_cvi (As := [.int i_1553, .int 7]) (rest := [.int 1, .int i_1552]) hx hb hml hown hts hK hW hS hl.1 (c_X4_line hA HR hw) (k_L_18 hts ⟨Nat.le_trans (by decide) hRf, Nat.le_trans (by decide) hRl⟩) (w_recv hK hW HR.1 rfl rfl rfl) rfl rfl (Nat.le_of_ble_eq_true rfl) dL_fits_832 ⟨by omega, by omega⟩ (fun r_1565 Ez H locs hw2 hW hS => ?_)
          obtain ⟨ez, hw⟩ := hw2
          rw [ez] at hW
          refine lv_ishl hx hb dL_fits_835 ?_
          refine lv_goto (tgt := 840) hx hb dL_fits_836 (by decide) ?_
          exact hJ_840 _ _ _ _ _ _ _ _ _ _ _ _ _ _ _ _ hw hW hS (lv_sub hl [0, 1, 2, 3, 4, 5, 6, 7, 8, 9, 10, 11] rfl)
      · have hw := hw.2 c_1563
        refine lv_iconst (v := 0) hx hb dL_fits_817 (by decide) ?_
        exact hret _ dL_fits_818 _ _ _ _ _ _ _ (by omega) (by omega) (Or.inl rfl) hw (hW.sub hsub) hS
    have hJ_794 : ∀ (i_1566 : Int32) (i_1567 : Int32) (i_1568 : Int32) (i_1569 : Int32) (i_1570 : Int32) (i_1571 : Int32) (i_1572 : Int32) (i_1573 : Int32) (i_1574 : Int32) (X_1575 : ES) (t_1576 : Int32) (H : Heap) (locs : List Loc) (ls : Array Slot), wpj_L_fits_794 o lo ar_11 K Kx_523 (wpl_L_fits_523 o lo ar_11 K Kx_523 n_523) i_1566 i_1567 i_1568 i_1569 i_1570 i_1571 i_1572 i_1573 i_1574 X_1575 t_1576 → Wd g lay_11 X_1575 H → va_S (Ab g) H0 H locs → lv_has ls 12 [(0, .ref o), (1, .int i_1566), (2, .int i_1567), (3, .int i_1568), (4, .int i_1569), (5, .ref ar_11), (6, .int i_1570), (7, .int i_1571), (8, .int i_1572), (9, .int i_1573), (10, .int i_1574)] → W p l e R s m args below meth c H locs (cells + 1) (slots + 16) Q (F0 m 794 ls [.int t_1576]) := by
      intro i_1566 i_1567 i_1568 i_1569 i_1570 i_1571 i_1572 i_1573 i_1574 X_1575 t_1576 H locs ls hw hW hS hl
      unfold wpj_L_fits_794 at hw
      refine lv_istore (lv' := [(11, .int t_1576), (0, .ref o), (1, .int i_1566), (2, .int i_1567), (3, .int i_1568), (4, .int i_1569), (5, .ref ar_11), (6, .int i_1570), (7, .int i_1571), (8, .int i_1572), (9, .int i_1573), (10, .int i_1574)]) hx hb dL_fits_794 hl (by decide) rfl (fun ls hl => ?_)
      refine lv_iload hx hb dL_fits_796 (lv_at hl 0 rfl) ?_
      refine lv_aload_n hx hb dL_fits_798 rfl (lv_at hl 1 rfl) ?_
      refine lv_iload hx hb dL_fits_799 (lv_at hl 9 rfl) ?_
      refine lv_bipush (v := 7) hx hb dL_fits_801 (by decide) ?_
      refine w_cvi (As := [.int i_1572, .int 7]) (rest := [.int t_1576]) hx hb hml hown hts hK hW hS hl.1 (c_X4_line hA HR hw) (k_L_18 hts ⟨Nat.le_trans (by decide) hRf, Nat.le_trans (by decide) hRl⟩) (w_recv hK hW HR.1 rfl rfl rfl) rfl rfl (Nat.le_of_ble_eq_true rfl) dL_fits_803 ⟨by omega, by omega⟩ (fun r_1579 Ez H locs hw2 hW hS => ?_)
      obtain ⟨ez, hw⟩ := hw2
      rw [ez] at hW
      refine lv_if_lt (tgt := 813) hx hb dL_fits_806 (by decide) (fun c_1580 => ?_) (fun c_1580 => ?_)
      · have hw := hw.1 c_1580
        refine lv_iconst (v := 0) hx hb dL_fits_813 (by decide) ?_
        exact hJ_814 _ _ _ _ _ _ _ _ _ _ _ _ _ _ _ _ hw hW hS (lv_sub hl [1, 2, 3, 4, 5, 6, 7, 8, 9, 10, 11, 0] rfl)
      · have hw := hw.2 c_1580
        refine lv_iconst (v := 1) hx hb dL_fits_809 (by decide) ?_
        refine lv_goto (tgt := 814) hx hb dL_fits_810 (by decide) ?_
        exact hJ_814 _ _ _ _ _ _ _ _ _ _ _ _ _ _ _ _ hw hW hS (lv_sub hl [1, 2, 3, 4, 5, 6, 7, 8, 9, 10, 11, 0] rfl)
    have hJ_793 : ∀ (i_1581 : Int32) (i_1582 : Int32) (i_1583 : Int32) (i_1584 : Int32) (i_1585 : Int32) (i_1586 : Int32) (i_1587 : Int32) (i_1588 : Int32) (i_1589 : Int32) (X_1590 : ES)  (H : Heap) (locs : List Loc) (ls : Array Slot), wpj_L_fits_793 o lo ar_11 K Kx_523 (wpl_L_fits_523 o lo ar_11 K Kx_523 n_523) i_1581 i_1582 i_1583 i_1584 i_1585 i_1586 i_1587 i_1588 i_1589 X_1590 → Wd g lay_11 X_1590 H → va_S (Ab g) H0 H locs → lv_has ls 12 [(0, .ref o), (1, .int i_1581), (2, .int i_1582), (3, .int i_1583), (4, .int i_1584), (5, .ref ar_11), (6, .int i_1585), (7, .int i_1586), (8, .int i_1587), (9, .int i_1588), (10, .int i_1589)] → W p l e R s m args below meth c H locs (cells + 1) (slots + 16) Q (F0 m 793 ls []) := by
      intro i_1581 i_1582 i_1583 i_1584 i_1585 i_1586 i_1587 i_1588 i_1589 X_1590  H locs ls hw hW hS hl
      unfold wpj_L_fits_793 at hw
      refine lv_iconst (v := 0) hx hb dL_fits_793 (by decide) ?_
      exact hJ_794 _ _ _ _ _ _ _ _ _ _ _ _ _ _ hw hW hS (lv_sub hl [0, 1, 2, 3, 4, 5, 6, 7, 8, 9, 10] rfl)
    have hJ_770 : ∀ (i_1591 : Int32) (i_1592 : Int32) (i_1593 : Int32) (i_1594 : Int32) (i_1595 : Int32) (i_1596 : Int32) (i_1597 : Int32) (i_1598 : Int32) (i_1599 : Int32) (X_1600 : ES) (t_1601 : Int32) (t_1602 : Int32) (H : Heap) (locs : List Loc) (ls : Array Slot), wpj_L_fits_770 o lo ar_11 K Kx_523 (wpl_L_fits_523 o lo ar_11 K Kx_523 n_523) i_1591 i_1592 i_1593 i_1594 i_1595 i_1596 i_1597 i_1598 i_1599 X_1600 t_1601 t_1602 → Wd g lay_11 X_1600 H → va_S (Ab g) H0 H locs → lv_has ls 12 [(0, .ref o), (1, .int i_1591), (2, .int i_1592), (3, .int i_1593), (4, .int i_1594), (5, .ref ar_11), (6, .int i_1595), (7, .int i_1596), (8, .int i_1597), (9, .int i_1598), (10, .int i_1599)] → W p l e R s m args below meth c H locs (cells + 1) (slots + 16) Q (F0 m 770 ls [.int t_1602, .int t_1601]) := by
      intro i_1591 i_1592 i_1593 i_1594 i_1595 i_1596 i_1597 i_1598 i_1599 X_1600 t_1601 t_1602 H locs ls hw hW hS hl
      unfold wpj_L_fits_770 at hw
      refine lv_icmp_ne (tgt := 775) hx hb dL_fits_770 (by decide) (fun c_1606 => ?_) (fun c_1606 => ?_)
      · have hw := hw.2 c_1606
        refine lv_iload hx hb dL_fits_775 (lv_at hl 9 rfl) ?_
        refine lv_iconst (v := 1) hx hb dL_fits_777 (by decide) ?_
        refine lv_icmp_ne (tgt := 793) hx hb dL_fits_778 (by decide) (fun c_1607 => ?_) (fun c_1607 => ?_)
        · have hw := hw.2 c_1607
          exact hJ_793 _ _ _ _ _ _ _ _ _ _ _ _ _ hw hW hS (lv_sub hl [0, 1, 2, 3, 4, 5, 6, 7, 8, 9, 10] rfl)
        · have hw := hw.1 c_1607
          refine lv_aload hx hb dL_fits_781 (lv_at hl 5 rfl) ?_
          refine lv_iload hx hb dL_fits_783 (lv_at hl 8 rfl) ?_
          obtain ⟨hin, hw⟩ := hw
          refine w_iald hx hb hK hW hlar11 rfl hin dL_fits_785 ?_
          refine lv_if_ne (tgt := 793) hx hb dL_fits_786 (by decide) (fun c_1608 => ?_) (fun c_1608 => ?_)
          · have hw := hw.2 c_1608
            exact hJ_793 _ _ _ _ _ _ _ _ _ _ _ _ _ hw hW hS (lv_sub hl [0, 1, 2, 3, 4, 5, 6, 7, 8, 9, 10] rfl)
          · have hw := hw.1 c_1608
            refine lv_iconst (v := 1) hx hb dL_fits_789 (by decide) ?_
            refine lv_goto (tgt := 794) hx hb dL_fits_790 (by decide) ?_
            exact hJ_794 _ _ _ _ _ _ _ _ _ _ _ _ _ _ hw hW hS (lv_sub hl [0, 1, 2, 3, 4, 5, 6, 7, 8, 9, 10] rfl)
      · have hw := hw.1 c_1606
        refine lv_iconst (v := 0) hx hb dL_fits_773 (by decide) ?_
        exact hret _ dL_fits_774 _ _ _ _ _ _ _ (by omega) (by omega) (Or.inl rfl) hw (hW.sub hsub) hS
    have hJ_753 : ∀ (i_1609 : Int32) (i_1610 : Int32) (i_1611 : Int32) (i_1612 : Int32) (i_1613 : Int32) (i_1614 : Int32) (i_1615 : Int32) (i_1616 : Int32) (i_1617 : Int32) (X_1618 : ES) (t_1619 : Int32) (H : Heap) (locs : List Loc) (ls : Array Slot), wpj_L_fits_753 o lo ar_11 K Kx_523 (wpl_L_fits_523 o lo ar_11 K Kx_523 n_523) i_1609 i_1610 i_1611 i_1612 i_1613 i_1614 i_1615 i_1616 i_1617 X_1618 t_1619 → Wd g lay_11 X_1618 H → va_S (Ab g) H0 H locs → lv_has ls 12 [(0, .ref o), (1, .int i_1609), (2, .int i_1610), (3, .int i_1611), (4, .int i_1612), (5, .ref ar_11), (6, .int i_1613), (7, .int i_1614), (8, .int i_1615), (9, .int i_1616), (10, .int i_1617)] → W p l e R s m args below meth c H locs (cells + 1) (slots + 16) Q (F0 m 753 ls [.int t_1619]) := by
      intro i_1609 i_1610 i_1611 i_1612 i_1613 i_1614 i_1615 i_1616 i_1617 X_1618 t_1619 H locs ls hw hW hS hl
      unfold wpj_L_fits_753 at hw
      refine lv_aload_n hx hb dL_fits_753 rfl (lv_at hl 0 rfl) ?_
      refine lv_iload hx hb dL_fits_754 (lv_at hl 8 rfl) ?_
      refine lv_iconst (v := 2) hx hb dL_fits_756 (by decide) ?_
      refine w_cvi (As := [.int i_1615, .int 2]) (rest := [.int t_1619]) hx hb hml hown hts hK hW hS hl.1 (c_X4_trace hA HR hw) (k_L_24 hts ⟨Nat.le_trans (by decide) hRf, Nat.le_trans (by decide) hRl⟩) (w_recv hK hW HR.1 rfl rfl rfl) rfl rfl (Nat.le_of_ble_eq_true rfl) dL_fits_757 ⟨by omega, by omega⟩ (fun r_1622 Ez H locs hw2 hW hS => ?_)
      obtain ⟨ez, hw⟩ := hw2
      rw [ez] at hW
      refine lv_bipush (v := (-6)) hx hb dL_fits_760 (by decide) ?_
      refine lv_icmp_ne (tgt := 769) hx hb dL_fits_762 (by decide) (fun c_1623 => ?_) (fun c_1623 => ?_)
      · have hw := hw.2 c_1623
        refine lv_iconst (v := 0) hx hb dL_fits_769 (by decide) ?_
        exact hJ_770 _ _ _ _ _ _ _ _ _ _ _ _ _ _ _ hw hW hS (lv_sub hl [0, 1, 2, 3, 4, 5, 6, 7, 8, 9, 10] rfl)
      · have hw := hw.1 c_1623
        refine lv_iconst (v := 1) hx hb dL_fits_765 (by decide) ?_
        refine lv_goto (tgt := 770) hx hb dL_fits_766 (by decide) ?_
        exact hJ_770 _ _ _ _ _ _ _ _ _ _ _ _ _ _ _ hw hW hS (lv_sub hl [0, 1, 2, 3, 4, 5, 6, 7, 8, 9, 10] rfl)
    have hJ_748 : ∀ (i_1624 : Int32) (i_1625 : Int32) (i_1626 : Int32) (i_1627 : Int32) (i_1628 : Int32) (i_1629 : Int32) (i_1630 : Int32) (i_1631 : Int32) (i_1632 : Int32) (X_1633 : ES)  (H : Heap) (locs : List Loc) (ls : Array Slot), wpj_L_fits_748 o lo ar_11 K Kx_523 (wpl_L_fits_523 o lo ar_11 K Kx_523 n_523) i_1624 i_1625 i_1626 i_1627 i_1628 i_1629 i_1630 i_1631 i_1632 X_1633 → Wd g lay_11 X_1633 H → va_S (Ab g) H0 H locs → lv_has ls 12 [(0, .ref o), (1, .int i_1624), (2, .int i_1625), (3, .int i_1626), (4, .int i_1627), (5, .ref ar_11), (6, .int i_1628), (7, .int i_1629), (8, .int i_1630), (9, .int i_1631), (10, .int i_1632)] → W p l e R s m args below meth c H locs (cells + 1) (slots + 16) Q (F0 m 748 ls []) := by
      intro i_1624 i_1625 i_1626 i_1627 i_1628 i_1629 i_1630 i_1631 i_1632 X_1633  H locs ls hw hW hS hl
      unfold wpj_L_fits_748 at hw
      refine lv_iconst (v := 1) hx hb dL_fits_748 (by decide) ?_
      refine lv_goto (tgt := 753) hx hb dL_fits_749 (by decide) ?_
      exact hJ_753 _ _ _ _ _ _ _ _ _ _ _ _ _ _ hw hW hS (lv_sub hl [0, 1, 2, 3, 4, 5, 6, 7, 8, 9, 10] rfl)
    have hJ_735 : ∀ (i_1634 : Int32) (i_1635 : Int32) (i_1636 : Int32) (i_1637 : Int32) (i_1638 : Int32) (i_1639 : Int32) (i_1640 : Int32) (i_1641 : Int32) (i_1642 : Int32) (X_1643 : ES)  (H : Heap) (locs : List Loc) (ls : Array Slot), wpj_L_fits_735 o lo ar_11 K Kx_523 (wpl_L_fits_523 o lo ar_11 K Kx_523 n_523) i_1634 i_1635 i_1636 i_1637 i_1638 i_1639 i_1640 i_1641 i_1642 X_1643 → Wd g lay_11 X_1643 H → va_S (Ab g) H0 H locs → lv_has ls 12 [(0, .ref o), (1, .int i_1634), (2, .int i_1635), (3, .int i_1636), (4, .int i_1637), (5, .ref ar_11), (6, .int i_1638), (7, .int i_1639), (8, .int i_1640), (9, .int i_1641), (10, .int i_1642)] → W p l e R s m args below meth c H locs (cells + 1) (slots + 16) Q (F0 m 735 ls []) := by
      intro i_1634 i_1635 i_1636 i_1637 i_1638 i_1639 i_1640 i_1641 i_1642 X_1643  H locs ls hw hW hS hl
      unfold wpj_L_fits_735 at hw
      refine lv_iload hx hb dL_fits_735 (lv_at hl 9 rfl) ?_
      refine lv_iconst (v := 5) hx hb dL_fits_737 (by decide) ?_
      refine lv_icmp_eq (tgt := 748) hx hb dL_fits_738 (by decide) (fun c_1646 => ?_) (fun c_1646 => ?_)
      · have hw := hw.1 c_1646
        exact hJ_748 _ _ _ _ _ _ _ _ _ _ _ _ _ hw hW hS (lv_sub hl [0, 1, 2, 3, 4, 5, 6, 7, 8, 9, 10] rfl)
      · have hw := hw.2 c_1646
        refine lv_iload hx hb dL_fits_741 (lv_at hl 9 rfl) ?_
        refine lv_bipush (v := 7) hx hb dL_fits_743 (by decide) ?_
        refine lv_icmp_ne (tgt := 752) hx hb dL_fits_745 (by decide) (fun c_1647 => ?_) (fun c_1647 => ?_)
        · have hw := hw.2 c_1647
          refine lv_iconst (v := 0) hx hb dL_fits_752 (by decide) ?_
          exact hJ_753 _ _ _ _ _ _ _ _ _ _ _ _ _ _ hw hW hS (lv_sub hl [0, 1, 2, 3, 4, 5, 6, 7, 8, 9, 10] rfl)
        · have hw := hw.1 c_1647
          exact hJ_748 _ _ _ _ _ _ _ _ _ _ _ _ _ hw hW hS (lv_sub hl [0, 1, 2, 3, 4, 5, 6, 7, 8, 9, 10] rfl)
    have hJ_716 : ∀ (i_1648 : Int32) (i_1649 : Int32) (i_1650 : Int32) (i_1651 : Int32) (i_1652 : Int32) (i_1653 : Int32) (i_1654 : Int32) (i_1655 : Int32) (i_1656 : Int32) (X_1657 : ES)  (H : Heap) (locs : List Loc) (ls : Array Slot), wpj_L_fits_716 o lo ar_11 K Kx_523 (wpl_L_fits_523 o lo ar_11 K Kx_523 n_523) i_1648 i_1649 i_1650 i_1651 i_1652 i_1653 i_1654 i_1655 i_1656 X_1657 → Wd g lay_11 X_1657 H → va_S (Ab g) H0 H locs → lv_has ls 12 [(0, .ref o), (1, .int i_1648), (2, .int i_1649), (3, .int i_1650), (4, .int i_1651), (5, .ref ar_11), (6, .int i_1652), (7, .int i_1653), (8, .int i_1654), (9, .int i_1655), (10, .int i_1656)] → W p l e R s m args below meth c H locs (cells + 1) (slots + 16) Q (F0 m 716 ls []) := by
      intro i_1648 i_1649 i_1650 i_1651 i_1652 i_1653 i_1654 i_1655 i_1656 X_1657  H locs ls hw hW hS hl
      unfold wpj_L_fits_716 at hw
      refine lv_iload hx hb dL_fits_716 (lv_at hl 9 rfl) ?_
      refine lv_bipush (v := 9) hx hb dL_fits_718 (by decide) ?_
      refine lv_icmp_le (tgt := 735) hx hb dL_fits_720 (by decide) (fun c_1661 => ?_) (fun c_1661 => ?_)
      · have hw := hw.1 c_1661
        exact hJ_735 _ _ _ _ _ _ _ _ _ _ _ _ _ hw hW hS (lv_sub hl [0, 1, 2, 3, 4, 5, 6, 7, 8, 9, 10] rfl)
      · have hw := hw.2 c_1661
        refine lv_aload_n hx hb dL_fits_723 rfl (lv_at hl 0 rfl) ?_
        refine lv_iload hx hb dL_fits_724 (lv_at hl 8 rfl) ?_
        refine lv_iconst (v := 2) hx hb dL_fits_726 (by decide) ?_
        refine w_cvi (As := [.int i_1654, .int 2]) (rest := []) hx hb hml hown hts hK hW hS hl.1 (c_X4_line hA HR hw) (k_L_18 hts ⟨Nat.le_trans (by decide) hRf, Nat.le_trans (by decide) hRl⟩) (w_recv hK hW HR.1 rfl rfl rfl) rfl rfl (Nat.le_of_ble_eq_true rfl) dL_fits_727 ⟨by omega, by omega⟩ (fun r_1662 Ez H locs hw2 hW hS => ?_)
        obtain ⟨ez, hw⟩ := hw2
        rw [ez] at hW
        refine lv_bipush (v := (-6)) hx hb dL_fits_730 (by decide) ?_
        refine lv_icmp_ne (tgt := 773) hx hb dL_fits_732 (by decide) (fun c_1663 => ?_) (fun c_1663 => ?_)
        · have hw := hw.2 c_1663
          refine lv_iconst (v := 0) hx hb dL_fits_773 (by decide) ?_
          exact hret _ dL_fits_774 _ _ _ _ _ _ _ (by omega) (by omega) (Or.inl rfl) hw (hW.sub hsub) hS
        · have hw := hw.1 c_1663
          exact hJ_735 _ _ _ _ _ _ _ _ _ _ _ _ _ hw hW hS (lv_sub hl [0, 1, 2, 3, 4, 5, 6, 7, 8, 9, 10] rfl)
    have hJ_675 : ∀ (i_1664 : Int32) (i_1665 : Int32) (i_1666 : Int32) (i_1667 : Int32) (i_1668 : Int32) (i_1669 : Int32) (i_1670 : Int32) (i_1671 : Int32) (i_1672 : Int32) (X_1673 : ES) (t_1674 : Int32) (t_1675 : Int32) (H : Heap) (locs : List Loc) (ls : Array Slot), wpj_L_fits_675 o lo ar_11 K Kx_523 (wpl_L_fits_523 o lo ar_11 K Kx_523 n_523) i_1664 i_1665 i_1666 i_1667 i_1668 i_1669 i_1670 i_1671 i_1672 X_1673 t_1674 t_1675 → Wd g lay_11 X_1673 H → va_S (Ab g) H0 H locs → lv_has ls 12 [(0, .ref o), (1, .int i_1664), (2, .int i_1665), (3, .int i_1666), (4, .int i_1667), (5, .ref ar_11), (6, .int i_1668), (7, .int i_1669), (8, .int i_1670), (9, .int i_1671), (10, .int i_1672)] → W p l e R s m args below meth c H locs (cells + 1) (slots + 16) Q (F0 m 675 ls [.int t_1675, .int t_1674]) := by
      intro i_1664 i_1665 i_1666 i_1667 i_1668 i_1669 i_1670 i_1671 i_1672 X_1673 t_1674 t_1675 H locs ls hw hW hS hl
      unfold wpj_L_fits_675 at hw
      refine lv_icmp_ne (tgt := 773) hx hb dL_fits_675 (by decide) (fun c_1684 => ?_) (fun c_1684 => ?_)
      · have hw := hw.2 c_1684
        refine lv_iconst (v := 0) hx hb dL_fits_773 (by decide) ?_
        exact hret _ dL_fits_774 _ _ _ _ _ _ _ (by omega) (by omega) (Or.inl rfl) hw (hW.sub hsub) hS
      · have hw := hw.1 c_1684
        refine lv_iload hx hb dL_fits_678 (lv_at hl 9 rfl) ?_
        refine lv_if_ne (tgt := 716) hx hb dL_fits_680 (by decide) (fun c_1685 => ?_) (fun c_1685 => ?_)
        · have hw := hw.2 c_1685
          exact hJ_716 _ _ _ _ _ _ _ _ _ _ _ _ _ hw hW hS (lv_sub hl [0, 1, 2, 3, 4, 5, 6, 7, 8, 9, 10] rfl)
        · have hw := hw.1 c_1685
          refine lv_aload_n hx hb dL_fits_683 rfl (lv_at hl 0 rfl) ?_
          refine lv_iload hx hb dL_fits_684 (lv_at hl 8 rfl) ?_
          refine lv_iconst (v := 1) hx hb dL_fits_686 (by decide) ?_
          refine w_cvi (As := [.int i_1670, .int 1]) (rest := []) hx hb hml hown hts hK hW hS hl.1 (c_X4_line hA HR hw) (k_L_18 hts ⟨Nat.le_trans (by decide) hRf, Nat.le_trans (by decide) hRl⟩) (w_recv hK hW HR.1 rfl rfl rfl) rfl rfl (Nat.le_of_ble_eq_true rfl) dL_fits_687 ⟨by omega, by omega⟩ (fun r_1686 Ez H locs hw2 hW hS => ?_)
          obtain ⟨ez, hw⟩ := hw2
          rw [ez] at hW
          refine lv_iconst (v := 1) hx hb dL_fits_690 (by decide) ?_
          refine lv_icmp_eq (tgt := 773) hx hb dL_fits_691 (by decide) (fun c_1687 => ?_) (fun c_1687 => ?_)
          · have hw := hw.1 c_1687
            refine lv_iconst (v := 0) hx hb dL_fits_773 (by decide) ?_
            exact hret _ dL_fits_774 _ _ _ _ _ _ _ (by omega) (by omega) (Or.inl rfl) hw (hW.sub hsub) hS
          · have hw := hw.2 c_1687
            refine lv_aload_n hx hb dL_fits_694 rfl (lv_at hl 0 rfl) ?_
            refine lv_iload hx hb dL_fits_695 (lv_at hl 8 rfl) ?_
            refine lv_iconst (v := 4) hx hb dL_fits_697 (by decide) ?_
            refine w_cvi (As := [.int i_1670, .int 4]) (rest := []) hx hb hml hown hts hK hW hS hl.1 (c_X4_line hA HR hw) (k_L_18 hts ⟨Nat.le_trans (by decide) hRf, Nat.le_trans (by decide) hRl⟩) (w_recv hK hW HR.1 rfl rfl rfl) rfl rfl (Nat.le_of_ble_eq_true rfl) dL_fits_698 ⟨by omega, by omega⟩ (fun r_1688 Ez H locs hw2 hW hS => ?_)
            obtain ⟨ez, hw⟩ := hw2
            rw [ez] at hW
            refine lv_if_gt (tgt := 773) hx hb dL_fits_701 (by decide) (fun c_1689 => ?_) (fun c_1689 => ?_)
            · have hw := hw.1 c_1689
              refine lv_iconst (v := 0) hx hb dL_fits_773 (by decide) ?_
              exact hret _ dL_fits_774 _ _ _ _ _ _ _ (by omega) (by omega) (Or.inl rfl) hw (hW.sub hsub) hS
            · have hw := hw.2 c_1689
              refine lv_aload_n hx hb dL_fits_704 rfl (lv_at hl 0 rfl) ?_
              refine lv_iload hx hb dL_fits_705 (lv_at hl 8 rfl) ?_
              refine lv_iconst (v := 2) hx hb dL_fits_707 (by decide) ?_
              refine w_cvi (As := [.int i_1670, .int 2]) (rest := []) hx hb hml hown hts hK hW hS hl.1 (c_X4_line hA HR hw) (k_L_18 hts ⟨Nat.le_trans (by decide) hRf, Nat.le_trans (by decide) hRl⟩) (w_recv hK hW HR.1 rfl rfl rfl) rfl rfl (Nat.le_of_ble_eq_true rfl) dL_fits_708 ⟨by omega, by omega⟩ (fun r_1690 Ez H locs hw2 hW hS => ?_)
              obtain ⟨ez, hw⟩ := hw2
              rw [ez] at hW
              refine lv_bipush (v := (-6)) hx hb dL_fits_711 (by decide) ?_
              refine lv_icmp_ne (tgt := 773) hx hb dL_fits_713 (by decide) (fun c_1691 => ?_) (fun c_1691 => ?_)
              · have hw := hw.2 c_1691
                refine lv_iconst (v := 0) hx hb dL_fits_773 (by decide) ?_
                exact hret _ dL_fits_774 _ _ _ _ _ _ _ (by omega) (by omega) (Or.inl rfl) hw (hW.sub hsub) hS
              · have hw := hw.1 c_1691
                exact hJ_716 _ _ _ _ _ _ _ _ _ _ _ _ _ hw hW hS (lv_sub hl [0, 1, 2, 3, 4, 5, 6, 7, 8, 9, 10] rfl)
    have hJ_674 : ∀ (i_1692 : Int32) (i_1693 : Int32) (i_1694 : Int32) (i_1695 : Int32) (i_1696 : Int32) (i_1697 : Int32) (i_1698 : Int32) (i_1699 : Int32) (i_1700 : Int32) (X_1701 : ES) (t_1702 : Int32) (H : Heap) (locs : List Loc) (ls : Array Slot), wpj_L_fits_674 o lo ar_11 K Kx_523 (wpl_L_fits_523 o lo ar_11 K Kx_523 n_523) i_1692 i_1693 i_1694 i_1695 i_1696 i_1697 i_1698 i_1699 i_1700 X_1701 t_1702 → Wd g lay_11 X_1701 H → va_S (Ab g) H0 H locs → lv_has ls 12 [(0, .ref o), (1, .int i_1692), (2, .int i_1693), (3, .int i_1694), (4, .int i_1695), (5, .ref ar_11), (6, .int i_1696), (7, .int i_1697), (8, .int i_1698), (9, .int i_1699), (10, .int i_1700)] → W p l e R s m args below meth c H locs (cells + 1) (slots + 16) Q (F0 m 674 ls [.int t_1702]) := by
      intro i_1692 i_1693 i_1694 i_1695 i_1696 i_1697 i_1698 i_1699 i_1700 X_1701 t_1702 H locs ls hw hW hS hl
      unfold wpj_L_fits_674 at hw
      refine lv_iconst (v := 0) hx hb dL_fits_674 (by decide) ?_
      exact hJ_675 _ _ _ _ _ _ _ _ _ _ _ _ _ _ _ hw hW hS (lv_sub hl [0, 1, 2, 3, 4, 5, 6, 7, 8, 9, 10] rfl)
    have hJ_651 : ∀ (i_1703 : Int32) (i_1704 : Int32) (i_1705 : Int32) (i_1706 : Int32) (i_1707 : Int32) (i_1708 : Int32) (i_1709 : Int32) (i_1710 : Int32) (X_1711 : ES) (t_1712 : Int32) (H : Heap) (locs : List Loc) (ls : Array Slot), wpj_L_fits_651 o lo ar_11 K Kx_523 (wpl_L_fits_523 o lo ar_11 K Kx_523 n_523) i_1703 i_1704 i_1705 i_1706 i_1707 i_1708 i_1709 i_1710 X_1711 t_1712 → Wd g lay_11 X_1711 H → va_S (Ab g) H0 H locs → lv_has ls 12 [(0, .ref o), (1, .int i_1703), (2, .int i_1704), (3, .int i_1705), (4, .int i_1706), (5, .ref ar_11), (6, .int i_1707), (7, .int i_1708), (8, .int i_1709), (9, .int i_1710)] → W p l e R s m args below meth c H locs (cells + 1) (slots + 16) Q (F0 m 651 ls [.int t_1712]) := by
      intro i_1703 i_1704 i_1705 i_1706 i_1707 i_1708 i_1709 i_1710 X_1711 t_1712 H locs ls hw hW hS hl
      unfold wpj_L_fits_651 at hw
      refine lv_istore (lv' := [(10, .int t_1712), (0, .ref o), (1, .int i_1703), (2, .int i_1704), (3, .int i_1705), (4, .int i_1706), (5, .ref ar_11), (6, .int i_1707), (7, .int i_1708), (8, .int i_1709), (9, .int i_1710)]) hx hb dL_fits_651 hl (by decide) rfl (fun ls hl => ?_)
      refine lv_iload hx hb dL_fits_653 (lv_at hl 0 rfl) ?_
      refine lv_aload hx hb dL_fits_655 (lv_at hl 6 rfl) ?_
      refine lv_iload hx hb dL_fits_657 (lv_at hl 9 rfl) ?_
      obtain ⟨hin, hw⟩ := hw
      refine w_iald hx hb hK hW hlar11 rfl hin dL_fits_659 ?_
      refine lv_iconst (v := 1) hx hb dL_fits_660 (by decide) ?_
      refine lv_icmp_ne (tgt := 674) hx hb dL_fits_661 (by decide) (fun c_1715 => ?_) (fun c_1715 => ?_)
      · have hw := hw.2 c_1715
        exact hJ_674 _ _ _ _ _ _ _ _ _ _ _ _ _ _ hw hW hS (lv_sub hl [1, 2, 3, 4, 5, 6, 7, 8, 9, 10, 0] rfl)
      · have hw := hw.1 c_1715
        refine lv_iload hx hb dL_fits_664 (lv_at hl 10 rfl) ?_
        refine lv_iconst (v := 1) hx hb dL_fits_666 (by decide) ?_
        refine lv_icmp_eq (tgt := 674) hx hb dL_fits_667 (by decide) (fun c_1716 => ?_) (fun c_1716 => ?_)
        · have hw := hw.1 c_1716
          exact hJ_674 _ _ _ _ _ _ _ _ _ _ _ _ _ _ hw hW hS (lv_sub hl [1, 2, 3, 4, 5, 6, 7, 8, 9, 10, 0] rfl)
        · have hw := hw.2 c_1716
          refine lv_iconst (v := 1) hx hb dL_fits_670 (by decide) ?_
          refine lv_goto (tgt := 675) hx hb dL_fits_671 (by decide) ?_
          exact hJ_675 _ _ _ _ _ _ _ _ _ _ _ _ _ _ _ hw hW hS (lv_sub hl [1, 2, 3, 4, 5, 6, 7, 8, 9, 10, 0] rfl)
    have hJ_646 : ∀ (i_1717 : Int32) (i_1718 : Int32) (i_1719 : Int32) (i_1720 : Int32) (i_1721 : Int32) (i_1722 : Int32) (i_1723 : Int32) (i_1724 : Int32) (X_1725 : ES)  (H : Heap) (locs : List Loc) (ls : Array Slot), wpj_L_fits_646 o lo ar_11 K Kx_523 (wpl_L_fits_523 o lo ar_11 K Kx_523 n_523) i_1717 i_1718 i_1719 i_1720 i_1721 i_1722 i_1723 i_1724 X_1725 → Wd g lay_11 X_1725 H → va_S (Ab g) H0 H locs → lv_has ls 12 [(0, .ref o), (1, .int i_1717), (2, .int i_1718), (3, .int i_1719), (4, .int i_1720), (5, .ref ar_11), (6, .int i_1721), (7, .int i_1722), (8, .int i_1723), (9, .int i_1724)] → W p l e R s m args below meth c H locs (cells + 1) (slots + 16) Q (F0 m 646 ls []) := by
      intro i_1717 i_1718 i_1719 i_1720 i_1721 i_1722 i_1723 i_1724 X_1725  H locs ls hw hW hS hl
      unfold wpj_L_fits_646 at hw
      refine lv_iconst (v := 1) hx hb dL_fits_646 (by decide) ?_
      refine lv_goto (tgt := 651) hx hb dL_fits_647 (by decide) ?_
      exact hJ_651 _ _ _ _ _ _ _ _ _ _ _ _ _ hw hW hS (lv_sub hl [0, 1, 2, 3, 4, 5, 6, 7, 8, 9] rfl)
    have hJ_604 : ∀ (i_1726 : Int32) (i_1727 : Int32) (i_1728 : Int32) (i_1729 : Int32) (i_1730 : Int32) (i_1731 : Int32) (i_1732 : Int32) (i_1733 : Int32) (X_1734 : ES) (t_1735 : Int32) (t_1736 : Int32) (H : Heap) (locs : List Loc) (ls : Array Slot), wpj_L_fits_604 o lo ar_11 K Kx_523 (wpl_L_fits_523 o lo ar_11 K Kx_523 n_523) i_1726 i_1727 i_1728 i_1729 i_1730 i_1731 i_1732 i_1733 X_1734 t_1735 t_1736 → Wd g lay_11 X_1734 H → va_S (Ab g) H0 H locs → lv_has ls 12 [(0, .ref o), (1, .int i_1726), (2, .int i_1727), (3, .int i_1728), (4, .int i_1729), (5, .ref ar_11), (6, .int i_1730), (7, .int i_1731), (8, .int i_1732), (9, .int i_1733)] → W p l e R s m args below meth c H locs (cells + 1) (slots + 16) Q (F0 m 604 ls [.int t_1736, .int t_1735]) := by
      intro i_1726 i_1727 i_1728 i_1729 i_1730 i_1731 i_1732 i_1733 X_1734 t_1735 t_1736 H locs ls hw hW hS hl
      unfold wpj_L_fits_604 at hw
      refine lv_isub hx hb dL_fits_604 ?_
      refine lv_topi (fun v_1744 ev_1744 => ?_)
      have hw := hw v_1744 ev_1744
      refine lv_istore (lv' := [(6, .int v_1744), (0, .ref o), (1, .int i_1726), (2, .int i_1727), (3, .int i_1728), (4, .int i_1729), (5, .ref ar_11), (7, .int i_1731), (8, .int i_1732), (9, .int i_1733)]) hx hb dL_fits_605 hl (by decide) rfl (fun ls hl => ?_)
      refine lv_iload hx hb dL_fits_607 (lv_at hl 9 rfl) ?_
      refine lv_iconst (v := 2) hx hb dL_fits_609 (by decide) ?_
      refine lv_icmp_eq (tgt := 646) hx hb dL_fits_610 (by decide) (fun c_1745 => ?_) (fun c_1745 => ?_)
      · have hw := hw.1 c_1745
        exact hJ_646 _ _ _ _ _ _ _ _ _ _ _ _ hw hW hS (lv_sub hl [1, 2, 3, 4, 5, 6, 0, 7, 8, 9] rfl)
      · have hw := hw.2 c_1745
        refine lv_iload hx hb dL_fits_613 (lv_at hl 9 rfl) ?_
        refine lv_iconst (v := 3) hx hb dL_fits_615 (by decide) ?_
        refine lv_icmp_eq (tgt := 646) hx hb dL_fits_616 (by decide) (fun c_1746 => ?_) (fun c_1746 => ?_)
        · have hw := hw.1 c_1746
          exact hJ_646 _ _ _ _ _ _ _ _ _ _ _ _ hw hW hS (lv_sub hl [1, 2, 3, 4, 5, 6, 0, 7, 8, 9] rfl)
        · have hw := hw.2 c_1746
          refine lv_iload hx hb dL_fits_619 (lv_at hl 9 rfl) ?_
          refine lv_iconst (v := 4) hx hb dL_fits_621 (by decide) ?_
          refine lv_icmp_eq (tgt := 646) hx hb dL_fits_622 (by decide) (fun c_1747 => ?_) (fun c_1747 => ?_)
          · have hw := hw.1 c_1747
            exact hJ_646 _ _ _ _ _ _ _ _ _ _ _ _ hw hW hS (lv_sub hl [1, 2, 3, 4, 5, 6, 0, 7, 8, 9] rfl)
          · have hw := hw.2 c_1747
            refine lv_iload hx hb dL_fits_625 (lv_at hl 9 rfl) ?_
            refine lv_bipush (v := 6) hx hb dL_fits_627 (by decide) ?_
            refine lv_icmp_eq (tgt := 646) hx hb dL_fits_629 (by decide) (fun c_1748 => ?_) (fun c_1748 => ?_)
            · have hw := hw.1 c_1748
              exact hJ_646 _ _ _ _ _ _ _ _ _ _ _ _ hw hW hS (lv_sub hl [1, 2, 3, 4, 5, 6, 0, 7, 8, 9] rfl)
            · have hw := hw.2 c_1748
              refine lv_iload hx hb dL_fits_632 (lv_at hl 9 rfl) ?_
              refine lv_bipush (v := 8) hx hb dL_fits_634 (by decide) ?_
              refine lv_icmp_eq (tgt := 646) hx hb dL_fits_636 (by decide) (fun c_1749 => ?_) (fun c_1749 => ?_)
              · have hw := hw.1 c_1749
                exact hJ_646 _ _ _ _ _ _ _ _ _ _ _ _ hw hW hS (lv_sub hl [1, 2, 3, 4, 5, 6, 0, 7, 8, 9] rfl)
              · have hw := hw.2 c_1749
                refine lv_iload hx hb dL_fits_639 (lv_at hl 9 rfl) ?_
                refine lv_bipush (v := 9) hx hb dL_fits_641 (by decide) ?_
                refine lv_icmp_ne (tgt := 650) hx hb dL_fits_643 (by decide) (fun c_1750 => ?_) (fun c_1750 => ?_)
                · have hw := hw.2 c_1750
                  refine lv_iconst (v := 0) hx hb dL_fits_650 (by decide) ?_
                  exact hJ_651 _ _ _ _ _ _ _ _ _ _ _ _ _ hw hW hS (lv_sub hl [1, 2, 3, 4, 5, 6, 0, 7, 8, 9] rfl)
                · have hw := hw.1 c_1750
                  exact hJ_646 _ _ _ _ _ _ _ _ _ _ _ _ hw hW hS (lv_sub hl [1, 2, 3, 4, 5, 6, 0, 7, 8, 9] rfl)
    have hJ_599 : ∀ (i_1751 : Int32) (i_1752 : Int32) (i_1753 : Int32) (i_1754 : Int32) (i_1755 : Int32) (i_1756 : Int32) (i_1757 : Int32) (i_1758 : Int32) (X_1759 : ES) (t_1760 : Int32) (H : Heap) (locs : List Loc) (ls : Array Slot), wpj_L_fits_599 o lo ar_11 K Kx_523 (wpl_L_fits_523 o lo ar_11 K Kx_523 n_523) i_1751 i_1752 i_1753 i_1754 i_1755 i_1756 i_1757 i_1758 X_1759 t_1760 → Wd g lay_11 X_1759 H → va_S (Ab g) H0 H locs → lv_has ls 12 [(0, .ref o), (1, .int i_1751), (2, .int i_1752), (3, .int i_1753), (4, .int i_1754), (5, .ref ar_11), (6, .int i_1755), (7, .int i_1756), (8, .int i_1757), (9, .int i_1758)] → W p l e R s m args below meth c H locs (cells + 1) (slots + 16) Q (F0 m 599 ls [.int t_1760]) := by
      intro i_1751 i_1752 i_1753 i_1754 i_1755 i_1756 i_1757 i_1758 X_1759 t_1760 H locs ls hw hW hS hl
      unfold wpj_L_fits_599 at hw
      refine lv_iconst (v := 1) hx hb dL_fits_599 (by decide) ?_
      refine lv_goto (tgt := 604) hx hb dL_fits_600 (by decide) ?_
      exact hJ_604 _ _ _ _ _ _ _ _ _ _ _ _ _ _ hw hW hS (lv_sub hl [0, 1, 2, 3, 4, 5, 6, 7, 8, 9] rfl)
    have hJ_581 : ∀ (i_1761 : Int32) (i_1762 : Int32) (i_1763 : Int32) (i_1764 : Int32) (i_1765 : Int32) (i_1766 : Int32) (i_1767 : Int32) (i_1768 : Int32) (X_1769 : ES) (t_1770 : Int32) (t_1771 : Int32) (H : Heap) (locs : List Loc) (ls : Array Slot), wpj_L_fits_581 o lo ar_11 K Kx_523 (wpl_L_fits_523 o lo ar_11 K Kx_523 n_523) i_1761 i_1762 i_1763 i_1764 i_1765 i_1766 i_1767 i_1768 X_1769 t_1770 t_1771 → Wd g lay_11 X_1769 H → va_S (Ab g) H0 H locs → lv_has ls 12 [(0, .ref o), (1, .int i_1761), (2, .int i_1762), (3, .int i_1763), (4, .int i_1764), (5, .ref ar_11), (6, .int i_1765), (7, .int i_1766), (8, .int i_1767), (9, .int i_1768)] → W p l e R s m args below meth c H locs (cells + 1) (slots + 16) Q (F0 m 581 ls [.int t_1771, .int t_1770]) := by
      intro i_1761 i_1762 i_1763 i_1764 i_1765 i_1766 i_1767 i_1768 X_1769 t_1770 t_1771 H locs ls hw hW hS hl
      unfold wpj_L_fits_581 at hw
      refine lv_iadd hx hb dL_fits_581 ?_
      refine lv_topi (fun v_1775 ev_1775 => ?_)
      have hw := hw v_1775 ev_1775
      refine lv_istore (lv' := [(6, .int v_1775), (0, .ref o), (1, .int i_1761), (2, .int i_1762), (3, .int i_1763), (4, .int i_1764), (5, .ref ar_11), (7, .int i_1766), (8, .int i_1767), (9, .int i_1768)]) hx hb dL_fits_582 hl (by decide) rfl (fun ls hl => ?_)
      refine lv_iload hx hb dL_fits_584 (lv_at hl 0 rfl) ?_
      refine lv_iload hx hb dL_fits_586 (lv_at hl 9 rfl) ?_
      refine lv_iconst (v := 4) hx hb dL_fits_588 (by decide) ?_
      refine lv_icmp_eq (tgt := 599) hx hb dL_fits_589 (by decide) (fun c_1776 => ?_) (fun c_1776 => ?_)
      · have hw := hw.1 c_1776
        exact hJ_599 _ _ _ _ _ _ _ _ _ _ _ _ _ hw hW hS (lv_sub hl [1, 2, 3, 4, 5, 6, 0, 7, 8, 9] rfl)
      · have hw := hw.2 c_1776
        refine lv_iload hx hb dL_fits_592 (lv_at hl 9 rfl) ?_
        refine lv_bipush (v := 6) hx hb dL_fits_594 (by decide) ?_
        refine lv_icmp_ne (tgt := 603) hx hb dL_fits_596 (by decide) (fun c_1777 => ?_) (fun c_1777 => ?_)
        · have hw := hw.2 c_1777
          refine lv_iconst (v := 0) hx hb dL_fits_603 (by decide) ?_
          exact hJ_604 _ _ _ _ _ _ _ _ _ _ _ _ _ _ hw hW hS (lv_sub hl [1, 2, 3, 4, 5, 6, 0, 7, 8, 9] rfl)
        · have hw := hw.1 c_1777
          exact hJ_599 _ _ _ _ _ _ _ _ _ _ _ _ _ hw hW hS (lv_sub hl [1, 2, 3, 4, 5, 6, 0, 7, 8, 9] rfl)
    have hJ_576 : ∀ (i_1778 : Int32) (i_1779 : Int32) (i_1780 : Int32) (i_1781 : Int32) (i_1782 : Int32) (i_1783 : Int32) (i_1784 : Int32) (i_1785 : Int32) (X_1786 : ES) (t_1787 : Int32) (H : Heap) (locs : List Loc) (ls : Array Slot), wpj_L_fits_576 o lo ar_11 K Kx_523 (wpl_L_fits_523 o lo ar_11 K Kx_523 n_523) i_1778 i_1779 i_1780 i_1781 i_1782 i_1783 i_1784 i_1785 X_1786 t_1787 → Wd g lay_11 X_1786 H → va_S (Ab g) H0 H locs → lv_has ls 12 [(0, .ref o), (1, .int i_1778), (2, .int i_1779), (3, .int i_1780), (4, .int i_1781), (5, .ref ar_11), (6, .int i_1782), (7, .int i_1783), (8, .int i_1784), (9, .int i_1785)] → W p l e R s m args below meth c H locs (cells + 1) (slots + 16) Q (F0 m 576 ls [.int t_1787]) := by
      intro i_1778 i_1779 i_1780 i_1781 i_1782 i_1783 i_1784 i_1785 X_1786 t_1787 H locs ls hw hW hS hl
      unfold wpj_L_fits_576 at hw
      refine lv_iconst (v := 1) hx hb dL_fits_576 (by decide) ?_
      refine lv_goto (tgt := 581) hx hb dL_fits_577 (by decide) ?_
      exact hJ_581 _ _ _ _ _ _ _ _ _ _ _ _ _ _ hw hW hS (lv_sub hl [0, 1, 2, 3, 4, 5, 6, 7, 8, 9] rfl)
    refine lv_iload hx hb dL_fits_523 (lv_at hl 8 rfl) ?_
    refine lv_bipush (v := 16) hx hb dL_fits_525 (by decide) ?_
    refine lv_icmp_ge (tgt := 849) hx hb dL_fits_527 (by decide) (fun c_1788 => ?_) (fun c_1788 => ?_)
    · have hw := hw.1 c_1788
      rw [eK_523] at hw
      refine lv_iload hx hb dL_fits_849 (lv_at hl 6 rfl) ?_
      refine lv_if_ne (tgt := 970) hx hb dL_fits_851 (by decide) (fun c_1789 => ?_) (fun c_1789 => ?_)
      · have hw := hw.2 c_1789
        refine lv_iconst (v := 0) hx hb dL_fits_970 (by decide) ?_
        exact hret _ dL_fits_971 _ _ _ _ _ _ _ (by omega) (by omega) (Or.inl rfl) hw (hW.sub hsub) hS
      · have hw := hw.1 c_1789
        refine lv_iload hx hb dL_fits_854 (lv_at hl 7 rfl) ?_
        refine lv_iload hx hb dL_fits_856 (lv_at hl 7 rfl) ?_
        refine lv_iconst (v := 1) hx hb dL_fits_858 (by decide) ?_
        refine lv_iadd hx hb dL_fits_859 ?_
        refine lv_iand hx hb dL_fits_860 ?_
        refine lv_if_ne (tgt := 970) hx hb dL_fits_861 (by decide) (fun c_1790 => ?_) (fun c_1790 => ?_)
        · have hw := hw.2 c_1790
          refine lv_iconst (v := 0) hx hb dL_fits_970 (by decide) ?_
          exact hret _ dL_fits_971 _ _ _ _ _ _ _ (by omega) (by omega) (Or.inl rfl) hw (hW.sub hsub) hS
        · have hw := hw.1 c_1790
          refine lv_aload_n hx hb dL_fits_864 rfl (lv_at hl 0 rfl) ?_
          refine lv_iconst (v := 3) hx hb dL_fits_865 (by decide) ?_
          refine w_cvi (As := [.int 3]) (rest := []) hx hb hml hown hts hK hW hS hl.1 (c_X4_count hA HR hw) (k_L_8 hts ⟨Nat.le_trans (by decide) hRf, Nat.le_trans (by decide) hRl⟩) (w_recv hK hW HR.1 rfl rfl rfl) rfl rfl (Nat.le_of_ble_eq_true rfl) dL_fits_866 ⟨by omega, by omega⟩ (fun r_1791 Ez H locs hw2 hW hS => ?_)
          obtain ⟨ez, hw⟩ := hw2
          rw [ez] at hW
          refine lv_iload_n hx hb dL_fits_869 rfl (lv_at hl 1 rfl) ?_
          refine lv_icmp_ne (tgt := 970) hx hb dL_fits_870 (by decide) (fun c_1792 => ?_) (fun c_1792 => ?_)
          · have hw := hw.2 c_1792
            refine lv_iconst (v := 0) hx hb dL_fits_970 (by decide) ?_
            exact hret _ dL_fits_971 _ _ _ _ _ _ _ (by omega) (by omega) (Or.inl rfl) hw (hW.sub hsub) hS
          · have hw := hw.1 c_1792
            refine lv_aload_n hx hb dL_fits_873 rfl (lv_at hl 0 rfl) ?_
            refine lv_iconst (v := 4) hx hb dL_fits_874 (by decide) ?_
            refine w_cvi (As := [.int 4]) (rest := []) hx hb hml hown hts hK hW hS hl.1 (c_X4_count hA HR hw) (k_L_8 hts ⟨Nat.le_trans (by decide) hRf, Nat.le_trans (by decide) hRl⟩) (w_recv hK hW HR.1 rfl rfl rfl) rfl rfl (Nat.le_of_ble_eq_true rfl) dL_fits_875 ⟨by omega, by omega⟩ (fun r_1793 Ez H locs hw2 hW hS => ?_)
            obtain ⟨ez, hw⟩ := hw2
            rw [ez] at hW
            refine lv_iconst (v := 4) hx hb dL_fits_878 (by decide) ?_
            refine lv_aload_n hx hb dL_fits_879 rfl (lv_at hl 0 rfl) ?_
            refine lv_iconst (v := 2) hx hb dL_fits_880 (by decide) ?_
            refine w_cvi (As := [.int 2]) (rest := [.int 4, .int r_1793]) hx hb hml hown hts hK hW hS hl.1 (c_X4_count hA HR hw) (k_L_8 hts ⟨Nat.le_trans (by decide) hRf, Nat.le_trans (by decide) hRl⟩) (w_recv hK hW HR.1 rfl rfl rfl) rfl rfl (Nat.le_of_ble_eq_true rfl) dL_fits_881 ⟨by omega, by omega⟩ (fun r_1794 Ez H locs hw2 hW hS => ?_)
            obtain ⟨ez, hw⟩ := hw2
            rw [ez] at hW
            refine lv_imul hx hb dL_fits_884 ?_
            refine lv_iload_n hx hb dL_fits_885 rfl (lv_at hl 2 rfl) ?_
            refine lv_isub hx hb dL_fits_886 ?_
            refine lv_icmp_ne (tgt := 970) hx hb dL_fits_887 (by decide) (fun c_1795 => ?_) (fun c_1795 => ?_)
            · have hw := hw.2 c_1795
              refine lv_iconst (v := 0) hx hb dL_fits_970 (by decide) ?_
              exact hret _ dL_fits_971 _ _ _ _ _ _ _ (by omega) (by omega) (Or.inl rfl) hw (hW.sub hsub) hS
            · have hw := hw.1 c_1795
              refine lv_aload_n hx hb dL_fits_890 rfl (lv_at hl 0 rfl) ?_
              refine lv_iconst (v := 5) hx hb dL_fits_891 (by decide) ?_
              refine w_cvi (As := [.int 5]) (rest := []) hx hb hml hown hts hK hW hS hl.1 (c_X4_count hA HR hw) (k_L_8 hts ⟨Nat.le_trans (by decide) hRf, Nat.le_trans (by decide) hRl⟩) (w_recv hK hW HR.1 rfl rfl rfl) rfl rfl (Nat.le_of_ble_eq_true rfl) dL_fits_892 ⟨by omega, by omega⟩ (fun r_1796 Ez H locs hw2 hW hS => ?_)
              obtain ⟨ez, hw⟩ := hw2
              rw [ez] at hW
              refine lv_iload hx hb dL_fits_895 (lv_at hl 4 rfl) ?_
              refine lv_icmp_ne (tgt := 970) hx hb dL_fits_897 (by decide) (fun c_1797 => ?_) (fun c_1797 => ?_)
              · have hw := hw.2 c_1797
                refine lv_iconst (v := 0) hx hb dL_fits_970 (by decide) ?_
                exact hret _ dL_fits_971 _ _ _ _ _ _ _ (by omega) (by omega) (Or.inl rfl) hw (hW.sub hsub) hS
              · have hw := hw.1 c_1797
                refine lv_aload_n hx hb dL_fits_900 rfl (lv_at hl 0 rfl) ?_
                refine lv_bipush (v := 13) hx hb dL_fits_901 (by decide) ?_
                refine w_cvi (As := [.int 13]) (rest := []) hx hb hml hown hts hK hW hS hl.1 (c_X4_count hA HR hw) (k_L_8 hts ⟨Nat.le_trans (by decide) hRf, Nat.le_trans (by decide) hRl⟩) (w_recv hK hW HR.1 rfl rfl rfl) rfl rfl (Nat.le_of_ble_eq_true rfl) dL_fits_903 ⟨by omega, by omega⟩ (fun r_1798 Ez H locs hw2 hW hS => ?_)
                obtain ⟨ez, hw⟩ := hw2
                rw [ez] at hW
                refine lv_iload_n hx hb dL_fits_906 rfl (lv_at hl 3 rfl) ?_
                refine lv_icmp_ne (tgt := 970) hx hb dL_fits_907 (by decide) (fun c_1799 => ?_) (fun c_1799 => ?_)
                · have hw := hw.2 c_1799
                  refine lv_iconst (v := 0) hx hb dL_fits_970 (by decide) ?_
                  exact hret _ dL_fits_971 _ _ _ _ _ _ _ (by omega) (by omega) (Or.inl rfl) hw (hW.sub hsub) hS
                · have hw := hw.1 c_1799
                  refine lv_aload_n hx hb dL_fits_910 rfl (lv_at hl 0 rfl) ?_
                  refine lv_bipush (v := 7) hx hb dL_fits_911 (by decide) ?_
                  refine w_cvi (As := [.int 7]) (rest := []) hx hb hml hown hts hK hW hS hl.1 (c_X4_count hA HR hw) (k_L_8 hts ⟨Nat.le_trans (by decide) hRf, Nat.le_trans (by decide) hRl⟩) (w_recv hK hW HR.1 rfl rfl rfl) rfl rfl (Nat.le_of_ble_eq_true rfl) dL_fits_913 ⟨by omega, by omega⟩ (fun r_1800 Ez H locs hw2 hW hS => ?_)
                  obtain ⟨ez, hw⟩ := hw2
                  rw [ez] at hW
                  refine lv_aload_n hx hb dL_fits_916 rfl (lv_at hl 0 rfl) ?_
                  refine lv_bipush (v := 6) hx hb dL_fits_917 (by decide) ?_
                  refine w_cvi (As := [.int 6]) (rest := [.int r_1800]) hx hb hml hown hts hK hW hS hl.1 (c_X4_count hA HR hw) (k_L_8 hts ⟨Nat.le_trans (by decide) hRf, Nat.le_trans (by decide) hRl⟩) (w_recv hK hW HR.1 rfl rfl rfl) rfl rfl (Nat.le_of_ble_eq_true rfl) dL_fits_919 ⟨by omega, by omega⟩ (fun r_1801 Ez H locs hw2 hW hS => ?_)
                  obtain ⟨ez, hw⟩ := hw2
                  rw [ez] at hW
                  refine lv_icmp_gt (tgt := 970) hx hb dL_fits_922 (by decide) (fun c_1802 => ?_) (fun c_1802 => ?_)
                  · have hw := hw.1 c_1802
                    refine lv_iconst (v := 0) hx hb dL_fits_970 (by decide) ?_
                    exact hret _ dL_fits_971 _ _ _ _ _ _ _ (by omega) (by omega) (Or.inl rfl) hw (hW.sub hsub) hS
                  · have hw := hw.2 c_1802
                    refine lv_aload_n hx hb dL_fits_925 rfl (lv_at hl 0 rfl) ?_
                    refine lv_bipush (v := 8) hx hb dL_fits_926 (by decide) ?_
                    refine w_cvi (As := [.int 8]) (rest := []) hx hb hml hown hts hK hW hS hl.1 (c_X4_count hA HR hw) (k_L_8 hts ⟨Nat.le_trans (by decide) hRf, Nat.le_trans (by decide) hRl⟩) (w_recv hK hW HR.1 rfl rfl rfl) rfl rfl (Nat.le_of_ble_eq_true rfl) dL_fits_928 ⟨by omega, by omega⟩ (fun r_1803 Ez H locs hw2 hW hS => ?_)
                    obtain ⟨ez, hw⟩ := hw2
                    rw [ez] at hW
                    refine lv_aload_n hx hb dL_fits_931 rfl (lv_at hl 0 rfl) ?_
                    refine lv_bipush (v := 7) hx hb dL_fits_932 (by decide) ?_
                    refine w_cvi (As := [.int 7]) (rest := [.int r_1803]) hx hb hml hown hts hK hW hS hl.1 (c_X4_count hA HR hw) (k_L_8 hts ⟨Nat.le_trans (by decide) hRf, Nat.le_trans (by decide) hRl⟩) (w_recv hK hW HR.1 rfl rfl rfl) rfl rfl (Nat.le_of_ble_eq_true rfl) dL_fits_934 ⟨by omega, by omega⟩ (fun r_1804 Ez H locs hw2 hW hS => ?_)
                    obtain ⟨ez, hw⟩ := hw2
                    rw [ez] at hW
                    refine lv_icmp_gt (tgt := 970) hx hb dL_fits_937 (by decide) (fun c_1805 => ?_) (fun c_1805 => ?_)
                    · have hw := hw.1 c_1805
                      refine lv_iconst (v := 0) hx hb dL_fits_970 (by decide) ?_
                      exact hret _ dL_fits_971 _ _ _ _ _ _ _ (by omega) (by omega) (Or.inl rfl) hw (hW.sub hsub) hS
                    · have hw := hw.2 c_1805
                      refine lv_aload_n hx hb dL_fits_940 rfl (lv_at hl 0 rfl) ?_
                      refine lv_bipush (v := 9) hx hb dL_fits_941 (by decide) ?_
                      refine w_cvi (As := [.int 9]) (rest := []) hx hb hml hown hts hK hW hS hl.1 (c_X4_count hA HR hw) (k_L_8 hts ⟨Nat.le_trans (by decide) hRf, Nat.le_trans (by decide) hRl⟩) (w_recv hK hW HR.1 rfl rfl rfl) rfl rfl (Nat.le_of_ble_eq_true rfl) dL_fits_943 ⟨by omega, by omega⟩ (fun r_1806 Ez H locs hw2 hW hS => ?_)
                      obtain ⟨ez, hw⟩ := hw2
                      rw [ez] at hW
                      refine lv_aload_n hx hb dL_fits_946 rfl (lv_at hl 0 rfl) ?_
                      refine lv_bipush (v := 8) hx hb dL_fits_947 (by decide) ?_
                      refine w_cvi (As := [.int 8]) (rest := [.int r_1806]) hx hb hml hown hts hK hW hS hl.1 (c_X4_count hA HR hw) (k_L_8 hts ⟨Nat.le_trans (by decide) hRf, Nat.le_trans (by decide) hRl⟩) (w_recv hK hW HR.1 rfl rfl rfl) rfl rfl (Nat.le_of_ble_eq_true rfl) dL_fits_949 ⟨by omega, by omega⟩ (fun r_1807 Ez H locs hw2 hW hS => ?_)
                      obtain ⟨ez, hw⟩ := hw2
                      rw [ez] at hW
                      refine lv_icmp_gt (tgt := 970) hx hb dL_fits_952 (by decide) (fun c_1808 => ?_) (fun c_1808 => ?_)
                      · have hw := hw.1 c_1808
                        refine lv_iconst (v := 0) hx hb dL_fits_970 (by decide) ?_
                        exact hret _ dL_fits_971 _ _ _ _ _ _ _ (by omega) (by omega) (Or.inl rfl) hw (hW.sub hsub) hS
                      · have hw := hw.2 c_1808
                        refine lv_iload hx hb dL_fits_955 (lv_at hl 4 rfl) ?_
                        refine lv_aload_n hx hb dL_fits_957 rfl (lv_at hl 0 rfl) ?_
                        refine lv_bipush (v := 9) hx hb dL_fits_958 (by decide) ?_
                        refine w_cvi (As := [.int 9]) (rest := [.int i_1524]) hx hb hml hown hts hK hW hS hl.1 (c_X4_count hA HR hw) (k_L_8 hts ⟨Nat.le_trans (by decide) hRf, Nat.le_trans (by decide) hRl⟩) (w_recv hK hW HR.1 rfl rfl rfl) rfl rfl (Nat.le_of_ble_eq_true rfl) dL_fits_960 ⟨by omega, by omega⟩ (fun r_1809 Ez H locs hw2 hW hS => ?_)
                        obtain ⟨ez, hw⟩ := hw2
                        rw [ez] at hW
                        refine lv_icmp_lt (tgt := 970) hx hb dL_fits_963 (by decide) (fun c_1810 => ?_) (fun c_1810 => ?_)
                        · have hw := hw.1 c_1810
                          refine lv_iconst (v := 0) hx hb dL_fits_970 (by decide) ?_
                          exact hret _ dL_fits_971 _ _ _ _ _ _ _ (by omega) (by omega) (Or.inl rfl) hw (hW.sub hsub) hS
                        · have hw := hw.2 c_1810
                          refine lv_iconst (v := 1) hx hb dL_fits_966 (by decide) ?_
                          refine lv_goto (tgt := 971) hx hb dL_fits_967 (by decide) ?_
                          exact hret _ dL_fits_971 _ _ _ _ _ _ _ (by omega) (by omega) (Or.inr rfl) hw (hW.sub hsub) hS
    · have hw := hw.2 c_1788
      refine lv_aload_n hx hb dL_fits_530 rfl (lv_at hl 0 rfl) ?_
      refine lv_iload hx hb dL_fits_531 (lv_at hl 8 rfl) ?_
      refine lv_iconst (v := 0) hx hb dL_fits_533 (by decide) ?_
      refine w_cvi (As := [.int i_1527, .int 0]) (rest := []) hx hb hml hown hts hK hW hS hl.1 (c_X4_line hA HR hw) (k_L_18 hts ⟨Nat.le_trans (by decide) hRf, Nat.le_trans (by decide) hRl⟩) (w_recv hK hW HR.1 rfl rfl rfl) rfl rfl (Nat.le_of_ble_eq_true rfl) dL_fits_534 ⟨by omega, by omega⟩ (fun r_1811 Ez H locs hw2 hW hS => ?_)
      obtain ⟨ez, hw⟩ := hw2
      rw [ez] at hW
      refine lv_istore (lv' := [(9, .int r_1811), (0, .ref o), (1, .int i_1521), (2, .int i_1522), (3, .int i_1523), (4, .int i_1524), (5, .ref ar_11), (6, .int i_1525), (7, .int i_1526), (8, .int i_1527)]) hx hb dL_fits_537 hl (by decide) rfl (fun ls hl => ?_)
      refine lv_iload_n hx hb dL_fits_539 rfl (lv_at hl 4 rfl) ?_
      refine lv_aload_n hx hb dL_fits_540 rfl (lv_at hl 1 rfl) ?_
      refine lv_iload hx hb dL_fits_541 (lv_at hl 9 rfl) ?_
      refine lv_iconst (v := 1) hx hb dL_fits_543 (by decide) ?_
      refine w_cvi (As := [.int i_1527, .int 1]) (rest := [.int i_1523]) hx hb hml hown hts hK hW hS hl.1 (c_X4_line hA HR hw) (k_L_18 hts ⟨Nat.le_trans (by decide) hRf, Nat.le_trans (by decide) hRl⟩) (w_recv hK hW HR.1 rfl rfl rfl) rfl rfl (Nat.le_of_ble_eq_true rfl) dL_fits_544 ⟨by omega, by omega⟩ (fun r_1812 Ez H locs hw2 hW hS => ?_)
      obtain ⟨ez, hw⟩ := hw2
      rw [ez] at hW
      refine lv_iadd hx hb dL_fits_547 ?_
      refine lv_topi (fun v_1813 ev_1813 => ?_)
      have hw := hw v_1813 ev_1813
      refine lv_istore_n (lv' := [(3, .int v_1813), (9, .int r_1811), (0, .ref o), (1, .int i_1521), (2, .int i_1522), (4, .int i_1524), (5, .ref ar_11), (6, .int i_1525), (7, .int i_1526), (8, .int i_1527)]) hx hb dL_fits_548 rfl hl (by decide) rfl (fun ls hl => ?_)
      refine lv_iload hx hb dL_fits_549 (lv_at hl 5 rfl) ?_
      refine lv_aload_n hx hb dL_fits_551 rfl (lv_at hl 2 rfl) ?_
      refine lv_iload hx hb dL_fits_552 (lv_at hl 9 rfl) ?_
      refine lv_iconst (v := 5) hx hb dL_fits_554 (by decide) ?_
      refine w_cvi (As := [.int i_1527, .int 5]) (rest := [.int i_1524]) hx hb hml hown hts hK hW hS hl.1 (c_X4_line hA HR hw) (k_L_18 hts ⟨Nat.le_trans (by decide) hRf, Nat.le_trans (by decide) hRl⟩) (w_recv hK hW HR.1 rfl rfl rfl) rfl rfl (Nat.le_of_ble_eq_true rfl) dL_fits_555 ⟨by omega, by omega⟩ (fun r_1814 Ez H locs hw2 hW hS => ?_)
      obtain ⟨ez, hw⟩ := hw2
      rw [ez] at hW
      refine lv_iadd hx hb dL_fits_558 ?_
      refine lv_topi (fun v_1815 ev_1815 => ?_)
      have hw := hw v_1815 ev_1815
      refine lv_istore (lv' := [(4, .int v_1815), (3, .int v_1813), (9, .int r_1811), (0, .ref o), (1, .int i_1521), (2, .int i_1522), (5, .ref ar_11), (6, .int i_1525), (7, .int i_1526), (8, .int i_1527)]) hx hb dL_fits_559 hl (by decide) rfl (fun ls hl => ?_)
      refine lv_iload hx hb dL_fits_561 (lv_at hl 7 rfl) ?_
      refine lv_iload hx hb dL_fits_563 (lv_at hl 2 rfl) ?_
      refine lv_iconst (v := 5) hx hb dL_fits_565 (by decide) ?_
      refine lv_icmp_eq (tgt := 576) hx hb dL_fits_566 (by decide) (fun c_1816 => ?_) (fun c_1816 => ?_)
      · have hw := hw.1 c_1816
        exact hJ_576 _ _ _ _ _ _ _ _ _ _ _ _ _ hw hW hS (lv_sub hl [3, 4, 5, 1, 0, 6, 7, 8, 9, 2] rfl)
      · have hw := hw.2 c_1816
        refine lv_iload hx hb dL_fits_569 (lv_at hl 2 rfl) ?_
        refine lv_bipush (v := 7) hx hb dL_fits_571 (by decide) ?_
        refine lv_icmp_ne (tgt := 580) hx hb dL_fits_573 (by decide) (fun c_1817 => ?_) (fun c_1817 => ?_)
        · have hw := hw.2 c_1817
          refine lv_iconst (v := 0) hx hb dL_fits_580 (by decide) ?_
          exact hJ_581 _ _ _ _ _ _ _ _ _ _ _ _ _ _ hw hW hS (lv_sub hl [3, 4, 5, 1, 0, 6, 7, 8, 9, 2] rfl)
        · have hw := hw.1 c_1817
          exact hJ_576 _ _ _ _ _ _ _ _ _ _ _ _ _ hw hW hS (lv_sub hl [3, 4, 5, 1, 0, 6, 7, 8, 9, 2] rfl)
  · have hw := hw.2 c_1490
    refine lv_aload_n hx hb dL_fits_28 rfl (lv_at hl 0 rfl) ?_
    refine lv_iload hx hb dL_fits_29 (lv_at hl 6 rfl) ?_
    refine lv_iconst (v := 0) hx hb dL_fits_31 (by decide) ?_
    refine w_cvi (As := [.int i_628, .int 0]) (rest := []) hx hb hml hown hts hK hW hS hl.1 (c_X4_finder hA HR hw) (k_L_14 hts ⟨Nat.le_trans (by decide) hRf, Nat.le_trans (by decide) hRl⟩) (w_recv hK hW HR.1 rfl rfl rfl) rfl rfl (Nat.le_of_ble_eq_true rfl) dL_fits_32 ⟨by omega, by omega⟩ (fun r_1818 Ez H locs hw2 hW hS => ?_)
    obtain ⟨ez, hw⟩ := hw2
    rw [ez] at hW
    refine lv_istore (lv' := [(7, .int r_1818), (0, .ref o), (1, .int i_624), (2, .int i_625), (3, .int i_626), (4, .int i_627), (5, .ref ar_11), (6, .int i_628)]) hx hb dL_fits_35 hl (by decide) rfl (fun ls hl => ?_)
    refine lv_aload_n hx hb dL_fits_37 rfl (lv_at hl 1 rfl) ?_
    refine lv_iload hx hb dL_fits_38 (lv_at hl 7 rfl) ?_
    refine lv_iconst (v := 2) hx hb dL_fits_40 (by decide) ?_
    refine w_cvi (As := [.int i_628, .int 2]) (rest := []) hx hb hml hown hts hK hW hS hl.1 (c_X4_finder hA HR hw) (k_L_14 hts ⟨Nat.le_trans (by decide) hRf, Nat.le_trans (by decide) hRl⟩) (w_recv hK hW HR.1 rfl rfl rfl) rfl rfl (Nat.le_of_ble_eq_true rfl) dL_fits_41 ⟨by omega, by omega⟩ (fun r_1819 Ez H locs hw2 hW hS => ?_)
    obtain ⟨ez, hw⟩ := hw2
    rw [ez] at hW
    refine lv_istore (lv' := [(8, .int r_1819), (7, .int r_1818), (0, .ref o), (1, .int i_624), (2, .int i_625), (3, .int i_626), (4, .int i_627), (5, .ref ar_11), (6, .int i_628)]) hx hb dL_fits_44 hl (by decide) rfl (fun ls hl => ?_)
    refine lv_iload_n hx hb dL_fits_46 rfl (lv_at hl 3 rfl) ?_
    refine lv_iload hx hb dL_fits_47 (lv_at hl 1 rfl) ?_
    refine lv_if_ne (tgt := 56) hx hb dL_fits_49 (by decide) (fun c_1820 => ?_) (fun c_1820 => ?_)
    · have hw := hw.2 c_1820
      refine lv_iconst (v := 0) hx hb dL_fits_56 (by decide) ?_
      exact hJ_57 _ _ _ _ _ _ _ _ _ _ _ _ _ hw hW hS (lv_sub hl [2, 3, 4, 5, 6, 7, 8, 1, 0] rfl)
    · have hw := hw.1 c_1820
      refine lv_iconst (v := 1) hx hb dL_fits_52 (by decide) ?_
      refine lv_goto (tgt := 57) hx hb dL_fits_53 (by decide) ?_
      exact hJ_57 _ _ _ _ _ _ _ _ _ _ _ _ _ hw hW hS (lv_sub hl [2, 3, 4, 5, 6, 7, 8, 1, 0] rfl)
set_option maxHeartbeats 8000000 in
theorem c_L_fits {l : Launch} {g : GG} {lay : LY} {o lo : Nat} {sv : Nat → Option Nat} {flo : CS → va_E} {E0 : ES} {K : Int32 → ES → Prop} (hA : okL g lay) (HR : RL4 g lay o sv) (hlo : lay lo = some flo) (hw : wp_L_fits o lo E0 K) : Met l yL_fits wsL_fits rmL_fits (va_Pc [.ref o] (fun U => KK g U ∧ Wd g lay E0 U.heap)) (va_Qi (fun r E1 => K r E1) (fun E' t => Wd g lay E' t.heap) (Ab g)) 1 16 (Ab g) := by
  refine Met.ofW (cc := cL_fits) (maxL := 12) (ret := (some .boolean)) (by decide) rfl ?_
  intro p e s m args below meth c s₁ B hml hv
  obtain ⟨rfl, hK, hW⟩ := hv
  have hr := B.returns
  have hlocks := B.notSynchronized
  have hl := lv_entry [.ref o] (n := 12) (Nat.le_of_ble_eq_true rfl)
  rw [lg_entry_eq]
  generalize (lg_sl [.ref o] ++ List.replicate (12 - (lg_sl [.ref o]).length) Slot.unset).toArray = ls at hl ⊢
  exact t_L_fits (cells := 0) (slots := 0) (H0 := s.heap) B.exec B.bytes hml (findClass_of_methodNamed B.named) (gd_of (atoms_spec (ws := wsL_fits) B.pre)) hK hA HR hlo (by decide) (by decide) (by decide) (by decide) (fun pc dg v X H locs ls cl sl h1 h2 hz hk hW hS => (w_zretA B.exec B.bytes hr hlocks hW hS hz hk dg).widen (by omega) (by omega)) hW va_S.rf hl hw
