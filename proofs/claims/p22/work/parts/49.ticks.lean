set_option maxHeartbeats 8000000 in
set_option maxRecDepth 100000 in
theorem t_L_ticks {p : Program} {l : Launch} {e : Env} {R : Room} {s : State} {m : MethodId} {args : Array Value} {below : List Frame} {meth : Method} {c : Code} {H : Heap} {locs : List Loc} {cells slots : Nat} {Q : State → Prop} {ls : Array Slot} {g : GG} {lay : LY} {H0 : Heap} {o lo : Nat} {sv : Nat → Option Nat} {flo : CS → va_E} {E0 : ES} {K : Int32 → ES → Prop} {p1 : Int32} (hx : p.tables.exec = Jvm.exec) (hb : c.code = cL_ticks) (hml : c.maxLocals = 11) (hown : s.vm.findClass RL = some m.cls) (hts : ∀ w ∈ lw_gd, w.before args s = true) (hK : KK g s) (hA : okL g lay) (HR : RL4 g lay o sv) (hlo : lay lo = some flo) (hRf : 6 ≤ R.frames) (hRl : 135 ≤ R.locals) (hRc : cells + 10 ≤ R.cells) (hRs : slots + 148 ≤ R.slots) (hret : ∀ (pc : Nat) (_ : decode cL_ticks pc = .ok (.ireturn, 1)) (v : Int32) (X : ES) (H : Heap) (locs : List Loc) (ls : Array Slot) (cl sl : Nat), cl ≤ cells + 10 → sl ≤ slots + 148 → (v = 0 ∨ v = 1) → K v X → Wd g lay X H → va_S (Ab g) H0 H locs → W p l e R s m args below meth c H locs cl sl Q (F0 m pc ls [.int v])) (hW : Wd g lay E0 H) (hS : va_S (Ab g) H0 H locs) (hl : lv_has ls 11 [(0, .ref o), (1, .int p1)]) (hw : wp_L_ticks o lo E0 p1 K) : W p l e R s m args below meth c H locs cells slots Q (F0 m 0 ls []) := by
  have hsub : ∀ z f, lay z = some f → lay z = some f := fun _ _ h => h
  unfold wp_L_ticks at hw
  refine lv_iconst (v := 4) hx hb dL_ticks_0 (by decide) ?_
  refine w_newi2 (lo := lo) (N := 4) hx hb hts hK hW hA HR hlo hS wd_arrI (by decide) (by decide) (by decide) (by omega) (by omega) dL_ticks_1 (fun ar_1 lay_1 H hlt hA HR hlar1 hsu hW hS => ?_)
  have hlo : lay_1 ar_1 = some (arI g 4) := hlar1
  have hsub : ∀ z f, lay z = some f → lay_1 z = some f := hsu
  obtain ⟨X_2, eX_2⟩ : ∃ z : ES, z = va_up E0 ar_1 (fun _ => 0) := ⟨_, rfl⟩
  have hw := hw ar_1 hlt X_2 eX_2
  rw [← eX_2] at hW
  refine lv_astore_n (lv' := [(2, .ref ar_1), (0, .ref o), (1, .int p1)]) hx hb dL_ticks_3 rfl hl (by decide) rfl (fun ls hl => ?_)
  refine lv_bipush (v := 16) hx hb dL_ticks_4 (by decide) ?_
  refine w_newi2 (lo := ar_1) (N := 16) hx hb hts hK hW hA HR hlo hS wd_arrI (by decide) (by decide) (by decide) (by omega) (by omega) dL_ticks_6 (fun ar_6 lay_6 H hlt hA HR hlar6 hsu hW hS => ?_)
  have hlo : lay_6 ar_6 = some (arI g 16) := hlar6
  have hlar1 : lay_6 ar_1 = some (arI g 4) := hsu _ _ hlar1
  have hsub : ∀ z f, lay z = some f → lay_6 z = some f := fun z f hz => hsu z f (hsub z f hz)
  obtain ⟨X_4, eX_4⟩ : ∃ z : ES, z = va_up X_2 ar_6 (fun _ => 0) := ⟨_, rfl⟩
  have hw := hw ar_6 hlt X_4 eX_4
  rw [← eX_4] at hW
  refine lv_astore_n (lv' := [(3, .ref ar_6), (2, .ref ar_1), (0, .ref o), (1, .int p1)]) hx hb dL_ticks_8 rfl hl (by decide) rfl (fun ls hl => ?_)
  refine lv_iconst (v := 0) hx hb dL_ticks_9 (by decide) ?_
  refine lv_istore (lv' := [(4, .int 0), (3, .ref ar_6), (2, .ref ar_1), (0, .ref o), (1, .int p1)]) hx hb dL_ticks_10 hl (by decide) rfl (fun ls hl => ?_)
  obtain ⟨n_1609, hnb, hw⟩ := hw
  obtain ⟨CB_12, eCB⟩ : ∃ z : Nat, z = cells + 1 + 1 + 8 := ⟨_, rfl⟩
  obtain ⟨SB_12, eSB⟩ : ∃ z : Nat, z = slots + 4 + 16 + 128 := ⟨_, rfl⟩
  refine w_loopG (KT := Int32 → Int32 → ES → Prop) (σ := Int32 × Int32 × ES) (Wl := fun Kx_12 n_12 q => wpl_L_ticks_12 o lo ar_1 ar_6 K Kx_12 n_12 q.1 q.2.1 q.2.2) (Pw := fun q => Wd g lay_6 (q.2.2)) (lvf := fun q => [(0, .ref o), (1, .int q.1), (2, .ref ar_1), (3, .ref ar_6), (4, .int q.2.1)]) (nL := 11) (dc := 1) (ds := 16) (CB := CB_12) (SB := SB_12) n_1609 (p1, 0, X_4) (by omega) (by omega) hw hW hS (lv_sub hl [3, 4, 2, 1, 0] rfl) (fun _ h => h) (fun Kx_12 eK_12 n_12 q H locs ls cl sl hcg hsg hw hW hS hl ih_12 => ?_)
  obtain ⟨i_8, i_9, X_10⟩ := q
  try dsimp only at hw
  rw [wpl_L_ticks_12] at hw
  have hl : lv_has ls 11 [(0, .ref o), (1, .int i_8), (2, .ref ar_1), (3, .ref ar_6), (4, .int i_9)] := hl
  have hW : Wd g lay_6 X_10 H := hW
  have hJ_274 : ∀ (i_1610 : Int32) (i_1611 : Int32) (i_1612 : Int32) (i_1613 : Int32) (i_1614 : Int32) (i_1615 : Int32) (i_1616 : Int32) (X_1617 : ES)  (cl sl : Nat) (H : Heap) (locs : List Loc) (ls : Array Slot), wpj_L_ticks_274 o lo ar_1 ar_6 K Kx_12 (wpl_L_ticks_12 o lo ar_1 ar_6 K Kx_12 n_12) i_1610 i_1611 i_1612 i_1613 i_1614 i_1615 i_1616 X_1617 → Wd g lay_6 X_1617 H → va_S (Ab g) H0 H locs → lv_has ls 11 [(0, .ref o), (1, .int i_1610), (2, .ref ar_1), (3, .ref ar_6), (4, .int i_1611), (5, .int i_1612), (6, .int i_1613), (7, .int i_1614), (8, .int i_1615), (9, .int i_1616)] → cl + (n_12 + 1) * 1 ≤ CB_12 + 1 → sl + (n_12 + 1) * 16 ≤ SB_12 + 16 → W p l e R s m args below meth c H locs cl sl Q (F0 m 274 ls []) := by
    intro i_1610 i_1611 i_1612 i_1613 i_1614 i_1615 i_1616 X_1617  cl sl H locs ls hw hW hS hl hcg hsg
    unfold wpj_L_ticks_274 at hw
    refine lv_iconst (v := 0) hx hb dL_ticks_274 (by decide) ?_
    refine lv_istore (lv' := [(9, .int 0), (0, .ref o), (1, .int i_1610), (2, .ref ar_1), (3, .ref ar_6), (4, .int i_1611), (5, .int i_1612), (6, .int i_1613), (7, .int i_1614), (8, .int i_1615)]) hx hb dL_ticks_275 hl (by decide) rfl (fun ls hl => ?_)
    obtain ⟨n_1671, hw⟩ := hw
    refine w_loop (KT := Int32 → Int32 → Int32 → Int32 → Int32 → Int32 → Int32 → ES → Prop) (σ := Int32 × Int32 × Int32 × Int32 × Int32 × Int32 × Int32 × ES) (Wl := fun Kx_277 n_277 q => wpl_L_ticks_277 o lo ar_1 ar_6 K Kx_277 n_277 q.1 q.2.1 q.2.2.1 q.2.2.2.1 q.2.2.2.2.1 q.2.2.2.2.2.1 q.2.2.2.2.2.2.1 q.2.2.2.2.2.2.2) (Pw := fun q => Wd g lay_6 (q.2.2.2.2.2.2.2)) (lvf := fun q => [(0, .ref o), (1, .int q.1), (2, .ref ar_1), (3, .ref ar_6), (4, .int q.2.1), (5, .int q.2.2.1), (6, .int q.2.2.2.1), (7, .int q.2.2.2.2.1), (8, .int q.2.2.2.2.2.1), (9, .int q.2.2.2.2.2.2.1)]) (nL := 11) n_1671 (i_1610, i_1611, i_1612, i_1613, i_1614, i_1615, 0, X_1617) hw hW hS (lv_sub hl [1, 2, 3, 4, 5, 6, 7, 8, 9, 0] rfl) (fun _ h => h) (fun Kx_277 eK_277 n_277 q H locs ls hw hW hS hl ih_277 => ?_)
    obtain ⟨i_1663, i_1664, i_1665, i_1666, i_1667, i_1668, i_1669, X_1670⟩ := q
    try dsimp only at hw
    rw [wpl_L_ticks_277] at hw
    have hl : lv_has ls 11 [(0, .ref o), (1, .int i_1663), (2, .ref ar_1), (3, .ref ar_6), (4, .int i_1664), (5, .int i_1665), (6, .int i_1666), (7, .int i_1667), (8, .int i_1668), (9, .int i_1669)] := hl
    have hW : Wd g lay_6 X_1670 H := hW
    have hJ_328 : ∀ (i_1672 : Int32) (i_1673 : Int32) (i_1674 : Int32) (i_1675 : Int32) (i_1676 : Int32) (i_1677 : Int32) (i_1678 : Int32) (X_1679 : ES)  (H : Heap) (locs : List Loc) (ls : Array Slot), wpj_L_ticks_328 o lo ar_1 ar_6 K Kx_277 (wpl_L_ticks_277 o lo ar_1 ar_6 K Kx_277 n_277) i_1672 i_1673 i_1674 i_1675 i_1676 i_1677 i_1678 X_1679 → Wd g lay_6 X_1679 H → va_S (Ab g) H0 H locs → lv_has ls 11 [(0, .ref o), (1, .int i_1672), (2, .ref ar_1), (3, .ref ar_6), (4, .int i_1673), (5, .int i_1674), (6, .int i_1675), (7, .int i_1676), (8, .int i_1677), (9, .int i_1678)] → W p l e R s m args below meth c H locs cl sl Q (F0 m 328 ls []) := by
      intro i_1672 i_1673 i_1674 i_1675 i_1676 i_1677 i_1678 X_1679  H locs ls hw hW hS hl
      unfold wpj_L_ticks_328 at hw
      obtain ⟨v_1681, ev_1681⟩ : ∃ z : Int32, z = i_1678 + 1 := ⟨_, rfl⟩
      have hw := hw v_1681 ev_1681
      refine lv_iinc (v := v_1681) (lv' := [(9, .int v_1681), (0, .ref o), (1, .int i_1672), (2, .ref ar_1), (3, .ref ar_6), (4, .int i_1673), (5, .int i_1674), (6, .int i_1675), (7, .int i_1676), (8, .int i_1677)]) hx hb dL_ticks_328 hl (k := 9) rfl (by rw [ev_1681]; rfl) (by decide) rfl (fun ls hl => ?_)
      refine lv_goto (tgt := 277) hx hb dL_ticks_331 (by decide) ?_
      exact ih_277 (i_1672, i_1673, i_1674, i_1675, i_1676, i_1677, v_1681, X_1679) _ _ _ hw hW hS (lv_sub hl [1, 2, 3, 4, 5, 6, 7, 8, 9, 0] rfl)
    refine lv_iload hx hb dL_ticks_277 (lv_at hl 9 rfl) ?_
    refine lv_bipush (v := 16) hx hb dL_ticks_279 (by decide) ?_
    refine lv_icmp_ge (tgt := 334) hx hb dL_ticks_281 (by decide) (fun c_1682 => ?_) (fun c_1682 => ?_)
    · have hw := hw.1 c_1682
      rw [eK_277] at hw
      obtain ⟨v_1683, ev_1683⟩ : ∃ z : Int32, z = i_1664 + 1 := ⟨_, rfl⟩
      have hw := hw v_1683 ev_1683
      refine lv_iinc (v := v_1683) (lv' := [(4, .int v_1683), (0, .ref o), (1, .int i_1663), (2, .ref ar_1), (3, .ref ar_6), (5, .int i_1665), (6, .int i_1666), (7, .int i_1667), (8, .int i_1668), (9, .int i_1669)]) hx hb dL_ticks_334 hl (k := 4) rfl (by rw [ev_1683]; rfl) (by decide) rfl (fun ls hl => ?_)
      refine lv_goto (tgt := 12) hx hb dL_ticks_337 (by decide) ?_
      exact ih_12 (i_1663, v_1683, X_1670) _ _ _ _ _ (by omega) (by omega) hw hW hS (lv_sub hl [1, 2, 3, 4, 0] rfl)
    · have hw := hw.2 c_1682
      refine lv_aload_n hx hb dL_ticks_284 rfl (lv_at hl 0 rfl) ?_
      refine lv_iload hx hb dL_ticks_285 (lv_at hl 9 rfl) ?_
      refine lv_iconst (v := 5) hx hb dL_ticks_287 (by decide) ?_
      refine w_cvi (As := [.int i_1669, .int 5]) (rest := []) hx hb hml hown hts hK hW hS hl.1 (c_X4_line hA HR hw) (k_L_18 hts ⟨Nat.le_trans (by decide) hRf, Nat.le_trans (by decide) hRl⟩) (w_recv hK hW HR.1 rfl rfl rfl) rfl rfl (Nat.le_of_ble_eq_true rfl) dL_ticks_288 ⟨by omega, by omega⟩ (fun r_1684 Ez H locs hw2 hW hS => ?_)
      obtain ⟨ez, hw⟩ := hw2
      rw [ez] at hW
      refine lv_aload_n hx hb dL_ticks_291 rfl (lv_at hl 3 rfl) ?_
      refine lv_iload hx hb dL_ticks_292 (lv_at hl 9 rfl) ?_
      obtain ⟨hin, hw⟩ := hw
      refine w_iald hx hb hK hW hlar6 rfl hin dL_ticks_294 ?_
      refine lv_icmp_eq (tgt := 328) hx hb dL_ticks_295 (by decide) (fun c_1685 => ?_) (fun c_1685 => ?_)
      · have hw := hw.1 c_1685
        exact hJ_328 _ _ _ _ _ _ _ _ _ _ _ hw hW hS (lv_sub hl [0, 1, 2, 3, 4, 5, 6, 7, 8, 9] rfl)
      · have hw := hw.2 c_1685
        refine lv_aload_n hx hb dL_ticks_298 rfl (lv_at hl 0 rfl) ?_
        refine lv_iload hx hb dL_ticks_299 (lv_at hl 9 rfl) ?_
        refine lv_iconst (v := 5) hx hb dL_ticks_301 (by decide) ?_
        refine w_cvi (As := [.int i_1669, .int 5]) (rest := []) hx hb hml hown hts hK hW hS hl.1 (c_X4_line hA HR hw) (k_L_18 hts ⟨Nat.le_trans (by decide) hRf, Nat.le_trans (by decide) hRl⟩) (w_recv hK hW HR.1 rfl rfl rfl) rfl rfl (Nat.le_of_ble_eq_true rfl) dL_ticks_302 ⟨by omega, by omega⟩ (fun r_1686 Ez H locs hw2 hW hS => ?_)
        obtain ⟨ez, hw⟩ := hw2
        rw [ez] at hW
        refine lv_aload_n hx hb dL_ticks_305 rfl (lv_at hl 3 rfl) ?_
        refine lv_iload hx hb dL_ticks_306 (lv_at hl 9 rfl) ?_
        obtain ⟨hin, hw⟩ := hw
        refine w_iald hx hb hK hW hlar6 rfl hin dL_ticks_308 ?_
        refine lv_iconst (v := 1) hx hb dL_ticks_309 (by decide) ?_
        refine lv_iadd hx hb dL_ticks_310 ?_
        refine lv_icmp_ne (tgt := 326) hx hb dL_ticks_311 (by decide) (fun c_1687 => ?_) (fun c_1687 => ?_)
        · have hw := hw.2 c_1687
          refine lv_iconst (v := 0) hx hb dL_ticks_326 (by decide) ?_
          exact hret _ dL_ticks_327 _ _ _ _ _ _ _ (by omega) (by omega) (Or.inl rfl) hw (hW.sub hsub) hS
        · have hw := hw.1 c_1687
          refine lv_aload_n hx hb dL_ticks_314 rfl (lv_at hl 0 rfl) ?_
          refine lv_iload hx hb dL_ticks_315 (lv_at hl 9 rfl) ?_
          refine lv_iconst (v := 0) hx hb dL_ticks_317 (by decide) ?_
          refine w_cvi (As := [.int i_1669, .int 0]) (rest := []) hx hb hml hown hts hK hW hS hl.1 (c_X4_line hA HR hw) (k_L_18 hts ⟨Nat.le_trans (by decide) hRf, Nat.le_trans (by decide) hRl⟩) (w_recv hK hW HR.1 rfl rfl rfl) rfl rfl (Nat.le_of_ble_eq_true rfl) dL_ticks_318 ⟨by omega, by omega⟩ (fun r_1688 Ez H locs hw2 hW hS => ?_)
          obtain ⟨ez, hw⟩ := hw2
          rw [ez] at hW
          refine lv_bipush (v := 6) hx hb dL_ticks_321 (by decide) ?_
          refine lv_icmp_eq (tgt := 328) hx hb dL_ticks_323 (by decide) (fun c_1689 => ?_) (fun c_1689 => ?_)
          · have hw := hw.1 c_1689
            exact hJ_328 _ _ _ _ _ _ _ _ _ _ _ hw hW hS (lv_sub hl [0, 1, 2, 3, 4, 5, 6, 7, 8, 9] rfl)
          · have hw := hw.2 c_1689
            refine lv_iconst (v := 0) hx hb dL_ticks_326 (by decide) ?_
            exact hret _ dL_ticks_327 _ _ _ _ _ _ _ (by omega) (by omega) (Or.inl rfl) hw (hW.sub hsub) hS
  refine lv_iload hx hb dL_ticks_12 (lv_at hl 4 rfl) ?_
  refine lv_iload_n hx hb dL_ticks_14 rfl (lv_at hl 1 rfl) ?_
  refine lv_icmp_ge (tgt := 340) hx hb dL_ticks_15 (by decide) (fun c_1690 => ?_) (fun c_1690 => ?_)
  · have hw := hw.1 c_1690
    rw [eK_12] at hw
    refine lv_iconst (v := 1) hx hb dL_ticks_340 (by decide) ?_
    exact hret _ dL_ticks_341 _ _ _ _ _ _ _ (by omega) (by omega) (Or.inr rfl) hw (hW.sub hsub) hS
  · have hw := hw.2 c_1690
    refine lv_iconst (v := 0) hx hb dL_ticks_18 (by decide) ?_
    refine lv_istore (lv' := [(5, .int 0), (0, .ref o), (1, .int i_8), (2, .ref ar_1), (3, .ref ar_6), (4, .int i_9)]) hx hb dL_ticks_19 hl (by decide) rfl (fun ls hl => ?_)
    obtain ⟨n_2080, hw⟩ := hw
    refine w_loop (KT := Int32 → Int32 → Int32 → ES → Prop) (σ := Int32 × Int32 × Int32 × ES) (Wl := fun Kx_21 n_21 q => wpl_L_ticks_21 o lo ar_1 ar_6 K Kx_21 n_21 q.1 q.2.1 q.2.2.1 q.2.2.2) (Pw := fun q => Wd g lay_6 (q.2.2.2)) (lvf := fun q => [(0, .ref o), (1, .int q.1), (2, .ref ar_1), (3, .ref ar_6), (4, .int q.2.1), (5, .int q.2.2.1)]) (nL := 11) n_2080 (i_8, i_9, 0, X_10) hw hW hS (lv_sub hl [1, 2, 3, 4, 5, 0] rfl) (fun _ h => h) (fun Kx_21 eK_21 n_21 q H locs ls hw hW hS hl ih_21 => ?_)
    obtain ⟨i_2076, i_2077, i_2078, X_2079⟩ := q
    try dsimp only at hw
    rw [wpl_L_ticks_21] at hw
    have hl : lv_has ls 11 [(0, .ref o), (1, .int i_2076), (2, .ref ar_1), (3, .ref ar_6), (4, .int i_2077), (5, .int i_2078)] := hl
    have hW : Wd g lay_6 X_2079 H := hW
    refine lv_iload hx hb dL_ticks_21 (lv_at hl 5 rfl) ?_
    refine lv_aload_n hx hb dL_ticks_23 rfl (lv_at hl 0 rfl) ?_
    refine lv_iconst (v := 1) hx hb dL_ticks_24 (by decide) ?_
    refine w_cvi (As := [.int 1]) (rest := [.int i_2078]) hx hb hml hown hts hK hW hS hl.1 (c_X4_count hA HR hw) (k_L_8 hts ⟨Nat.le_trans (by decide) hRf, Nat.le_trans (by decide) hRl⟩) (w_recv hK hW HR.1 rfl rfl rfl) rfl rfl (Nat.le_of_ble_eq_true rfl) dL_ticks_25 ⟨by omega, by omega⟩ (fun r_2081 Ez H locs hw2 hW hS => ?_)
    obtain ⟨ez, hw⟩ := hw2
    rw [ez] at hW
    refine lv_icmp_ge (tgt := 59) hx hb dL_ticks_28 (by decide) (fun c_2082 => ?_) (fun c_2082 => ?_)
    · have hw := hw.1 c_2082
      rw [eK_21] at hw
      refine lv_iconst (v := 0) hx hb dL_ticks_59 (by decide) ?_
      refine lv_istore (lv' := [(5, .int 0), (0, .ref o), (1, .int i_2076), (2, .ref ar_1), (3, .ref ar_6), (4, .int i_2077)]) hx hb dL_ticks_60 hl (by decide) rfl (fun ls hl => ?_)
      obtain ⟨n_2275, hw⟩ := hw
      refine w_loop (KT := Int32 → Int32 → Int32 → ES → Prop) (σ := Int32 × Int32 × Int32 × ES) (Wl := fun Kx_62 n_62 q => wpl_L_ticks_62 o lo ar_1 ar_6 K Kx_62 n_62 q.1 q.2.1 q.2.2.1 q.2.2.2) (Pw := fun q => Wd g lay_6 (q.2.2.2)) (lvf := fun q => [(0, .ref o), (1, .int q.1), (2, .ref ar_1), (3, .ref ar_6), (4, .int q.2.1), (5, .int q.2.2.1)]) (nL := 11) n_2275 (i_2076, i_2077, 0, X_2079) hw hW hS (lv_sub hl [1, 2, 3, 4, 5, 0] rfl) (fun _ h => h) (fun Kx_62 eK_62 n_62 q H locs ls hw hW hS hl ih_62 => ?_)
      obtain ⟨i_2271, i_2272, i_2273, X_2274⟩ := q
      try dsimp only at hw
      rw [wpl_L_ticks_62] at hw
      have hl : lv_has ls 11 [(0, .ref o), (1, .int i_2271), (2, .ref ar_1), (3, .ref ar_6), (4, .int i_2272), (5, .int i_2273)] := hl
      have hW : Wd g lay_6 X_2274 H := hW
      refine lv_iload hx hb dL_ticks_62 (lv_at hl 5 rfl) ?_
      refine lv_bipush (v := 16) hx hb dL_ticks_64 (by decide) ?_
      refine lv_icmp_ge (tgt := 86) hx hb dL_ticks_66 (by decide) (fun c_2276 => ?_) (fun c_2276 => ?_)
      · have hw := hw.1 c_2276
        rw [eK_62] at hw
        refine lv_aload_n hx hb dL_ticks_86 rfl (lv_at hl 0 rfl) ?_
        refine lv_iconst (v := 3) hx hb dL_ticks_87 (by decide) ?_
        refine w_cvi (As := [.int 3]) (rest := []) hx hb hml hown hts hK hW hS hl.1 (c_X4_count hA HR hw) (k_L_8 hts ⟨Nat.le_trans (by decide) hRf, Nat.le_trans (by decide) hRl⟩) (w_recv hK hW HR.1 rfl rfl rfl) rfl rfl (Nat.le_of_ble_eq_true rfl) dL_ticks_88 ⟨by omega, by omega⟩ (fun r_2277 Ez H locs hw2 hW hS => ?_)
        obtain ⟨ez, hw⟩ := hw2
        rw [ez] at hW
        refine lv_istore (lv' := [(5, .int r_2277), (0, .ref o), (1, .int i_2271), (2, .ref ar_1), (3, .ref ar_6), (4, .int i_2272)]) hx hb dL_ticks_91 hl (by decide) rfl (fun ls hl => ?_)
        refine lv_bipush (v := (-6)) hx hb dL_ticks_93 (by decide) ?_
        refine lv_istore (lv' := [(6, .int ((-6))), (5, .int r_2277), (0, .ref o), (1, .int i_2271), (2, .ref ar_1), (3, .ref ar_6), (4, .int i_2272)]) hx hb dL_ticks_95 hl (by decide) rfl (fun ls hl => ?_)
        refine lv_iconst (v := 0) hx hb dL_ticks_97 (by decide) ?_
        refine lv_istore (lv' := [(7, .int 0), (6, .int ((-6))), (5, .int r_2277), (0, .ref o), (1, .int i_2271), (2, .ref ar_1), (3, .ref ar_6), (4, .int i_2272)]) hx hb dL_ticks_98 hl (by decide) rfl (fun ls hl => ?_)
        obtain ⟨n_2369, hw⟩ := hw
        refine w_loop (KT := Int32 → Int32 → Int32 → Int32 → Int32 → ES → Prop) (σ := Int32 × Int32 × Int32 × Int32 × Int32 × ES) (Wl := fun Kx_100 n_100 q => wpl_L_ticks_100 o lo ar_1 ar_6 K Kx_100 n_100 q.1 q.2.1 q.2.2.1 q.2.2.2.1 q.2.2.2.2.1 q.2.2.2.2.2) (Pw := fun q => Wd g lay_6 (q.2.2.2.2.2)) (lvf := fun q => [(0, .ref o), (1, .int q.1), (2, .ref ar_1), (3, .ref ar_6), (4, .int q.2.1), (5, .int q.2.2.1), (6, .int q.2.2.2.1), (7, .int q.2.2.2.2.1)]) (nL := 11) n_2369 (i_2271, i_2272, r_2277, (-6), 0, X_2274) hw hW hS (lv_sub hl [3, 4, 5, 6, 7, 2, 1, 0] rfl) (fun _ h => h) (fun Kx_100 eK_100 n_100 q H locs ls hw hW hS hl ih_100 => ?_)
        obtain ⟨i_2363, i_2364, i_2365, i_2366, i_2367, X_2368⟩ := q
        try dsimp only at hw
        rw [wpl_L_ticks_100] at hw
        have hl : lv_has ls 11 [(0, .ref o), (1, .int i_2363), (2, .ref ar_1), (3, .ref ar_6), (4, .int i_2364), (5, .int i_2365), (6, .int i_2366), (7, .int i_2367)] := hl
        have hW : Wd g lay_6 X_2368 H := hW
        have hJ_125 : ∀ (i_2370 : Int32) (i_2371 : Int32) (i_2372 : Int32) (i_2373 : Int32) (i_2374 : Int32) (X_2375 : ES) (t_2376 : Int32) (H : Heap) (locs : List Loc) (ls : Array Slot), wpj_L_ticks_125 o lo ar_1 ar_6 K Kx_100 (wpl_L_ticks_100 o lo ar_1 ar_6 K Kx_100 n_100) i_2370 i_2371 i_2372 i_2373 i_2374 X_2375 t_2376 → Wd g lay_6 X_2375 H → va_S (Ab g) H0 H locs → lv_has ls 11 [(0, .ref o), (1, .int i_2370), (2, .ref ar_1), (3, .ref ar_6), (4, .int i_2371), (5, .int i_2372), (6, .int i_2373), (7, .int i_2374)] → W p l e R s m args below meth c H locs cl sl Q (F0 m 125 ls [.int t_2376]) := by
          intro i_2370 i_2371 i_2372 i_2373 i_2374 X_2375 t_2376 H locs ls hw hW hS hl
          unfold wpj_L_ticks_125 at hw
          refine lv_istore (lv' := [(6, .int t_2376), (0, .ref o), (1, .int i_2370), (2, .ref ar_1), (3, .ref ar_6), (4, .int i_2371), (5, .int i_2372), (7, .int i_2374)]) hx hb dL_ticks_125 hl (by decide) rfl (fun ls hl => ?_)
          obtain ⟨v_2378, ev_2378⟩ : ∃ z : Int32, z = i_2374 + 1 := ⟨_, rfl⟩
          have hw := hw v_2378 ev_2378
          refine lv_iinc (v := v_2378) (lv' := [(7, .int v_2378), (6, .int t_2376), (0, .ref o), (1, .int i_2370), (2, .ref ar_1), (3, .ref ar_6), (4, .int i_2371), (5, .int i_2372)]) hx hb dL_ticks_127 hl (k := 7) rfl (by rw [ev_2378]; rfl) (by decide) rfl (fun ls hl => ?_)
          refine lv_goto (tgt := 100) hx hb dL_ticks_130 (by decide) ?_
          exact ih_100 (i_2370, i_2371, i_2372, t_2376, v_2378, X_2375) _ _ _ hw hW hS (lv_sub hl [2, 3, 4, 5, 6, 7, 1, 0] rfl)
        refine lv_iload hx hb dL_ticks_100 (lv_at hl 7 rfl) ?_
        refine lv_bipush (v := 16) hx hb dL_ticks_102 (by decide) ?_
        refine lv_icmp_ge (tgt := 133) hx hb dL_ticks_104 (by decide) (fun c_2379 => ?_) (fun c_2379 => ?_)
        · have hw := hw.1 c_2379
          rw [eK_100] at hw
          refine lv_aload_n hx hb dL_ticks_133 rfl (lv_at hl 0 rfl) ?_
          refine lv_iconst (v := 0) hx hb dL_ticks_134 (by decide) ?_
          refine w_cvi (As := [.int 0]) (rest := []) hx hb hml hown hts hK hW hS hl.1 (c_X4_count hA HR hw) (k_L_8 hts ⟨Nat.le_trans (by decide) hRf, Nat.le_trans (by decide) hRl⟩) (w_recv hK hW HR.1 rfl rfl rfl) rfl rfl (Nat.le_of_ble_eq_true rfl) dL_ticks_135 ⟨by omega, by omega⟩ (fun r_2380 Ez H locs hw2 hW hS => ?_)
          obtain ⟨ez, hw⟩ := hw2
          rw [ez] at hW
          refine lv_istore (lv' := [(7, .int r_2380), (0, .ref o), (1, .int i_2363), (2, .ref ar_1), (3, .ref ar_6), (4, .int i_2364), (5, .int i_2365), (6, .int i_2366)]) hx hb dL_ticks_138 hl (by decide) rfl (fun ls hl => ?_)
          refine lv_aload_n hx hb dL_ticks_140 rfl (lv_at hl 1 rfl) ?_
          refine lv_iconst (v := 1) hx hb dL_ticks_141 (by decide) ?_
          refine w_cvi (As := [.int 1]) (rest := []) hx hb hml hown hts hK hW hS hl.1 (c_X4_tick hA HR hw) (k_L_33 hts ⟨Nat.le_trans (by decide) hRf, Nat.le_trans (by decide) hRl⟩) (w_recv hK hW HR.1 rfl rfl rfl) rfl rfl (Nat.le_of_ble_eq_true rfl) dL_ticks_142 ⟨by omega, by omega⟩ (fun r_2381 X_2382 H locs hw hW hS => ?_)
          refine lv_iload hx hb dL_ticks_145 (lv_at hl 0 rfl) ?_
          refine lv_iconst (v := 1) hx hb dL_ticks_147 (by decide) ?_
          refine lv_iadd hx hb dL_ticks_148 ?_
          refine lv_icmp_ne (tgt := 159) hx hb dL_ticks_149 (by decide) (fun c_2383 => ?_) (fun c_2383 => ?_)
          · have hw := hw.2 c_2383
            refine lv_iconst (v := 0) hx hb dL_ticks_159 (by decide) ?_
            exact hret _ dL_ticks_160 _ _ _ _ _ _ _ (by omega) (by omega) (Or.inl rfl) hw (hW.sub hsub) hS
          · have hw := hw.1 c_2383
            refine lv_aload_n hx hb dL_ticks_152 rfl (lv_at hl 1 rfl) ?_
            refine w_csiA (As := [.ref o]) (rest := []) hx hb hml hown hts hK hW hS hl.1 (c_L_fits hA HR hlo hw) (k_L_36 hts ⟨Nat.le_trans (by decide) hRf, Nat.le_trans (by decide) hRl⟩) rfl rfl (Nat.le_of_ble_eq_true rfl) dL_ticks_153 ⟨by omega, by omega⟩ (fun r_2384 X_2385 H locs hw hW hS => ?_)
            refine lv_if_ne (tgt := 161) hx hb dL_ticks_156 (by decide) (fun c_2386 => ?_) (fun c_2386 => ?_)
            · have hw := hw.2 c_2386
              refine lv_iconst (v := 0) hx hb dL_ticks_161 (by decide) ?_
              refine lv_istore (lv' := [(8, .int 0), (7, .int r_2380), (0, .ref o), (1, .int i_2363), (2, .ref ar_1), (3, .ref ar_6), (4, .int i_2364), (5, .int i_2365), (6, .int i_2366)]) hx hb dL_ticks_162 hl (by decide) rfl (fun ls hl => ?_)
              refine lv_iconst (v := 0) hx hb dL_ticks_164 (by decide) ?_
              refine lv_istore (lv' := [(9, .int 0), (8, .int 0), (7, .int r_2380), (0, .ref o), (1, .int i_2363), (2, .ref ar_1), (3, .ref ar_6), (4, .int i_2364), (5, .int i_2365), (6, .int i_2366)]) hx hb dL_ticks_165 hl (by decide) rfl (fun ls hl => ?_)
              obtain ⟨n_2406, hw⟩ := hw
              refine w_loop (KT := Int32 → Int32 → Int32 → Int32 → Int32 → Int32 → Int32 → ES → Prop) (σ := Int32 × Int32 × Int32 × Int32 × Int32 × Int32 × Int32 × ES) (Wl := fun Kx_167 n_167 q => wpl_L_ticks_167 o lo ar_1 ar_6 K Kx_167 n_167 q.1 q.2.1 q.2.2.1 q.2.2.2.1 q.2.2.2.2.1 q.2.2.2.2.2.1 q.2.2.2.2.2.2.1 q.2.2.2.2.2.2.2) (Pw := fun q => Wd g lay_6 (q.2.2.2.2.2.2.2)) (lvf := fun q => [(0, .ref o), (1, .int q.1), (2, .ref ar_1), (3, .ref ar_6), (4, .int q.2.1), (5, .int q.2.2.1), (6, .int q.2.2.2.1), (7, .int q.2.2.2.2.1), (8, .int q.2.2.2.2.2.1), (9, .int q.2.2.2.2.2.2.1)]) (nL := 11) n_2406 (i_2363, i_2364, i_2365, i_2366, r_2380, 0, 0, X_2385) hw hW hS (lv_sub hl [3, 4, 5, 6, 7, 8, 9, 2, 1, 0] rfl) (fun _ h => h) (fun Kx_167 eK_167 n_167 q H locs ls hw hW hS hl ih_167 => ?_)
              obtain ⟨i_2398, i_2399, i_2400, i_2401, i_2402, i_2403, i_2404, X_2405⟩ := q
              try dsimp only at hw
              rw [wpl_L_ticks_167] at hw
              have hl : lv_has ls 11 [(0, .ref o), (1, .int i_2398), (2, .ref ar_1), (3, .ref ar_6), (4, .int i_2399), (5, .int i_2400), (6, .int i_2401), (7, .int i_2402), (8, .int i_2403), (9, .int i_2404)] := hl
              have hW : Wd g lay_6 X_2405 H := hW
              have hJ_247 : ∀ (i_2407 : Int32) (i_2408 : Int32) (i_2409 : Int32) (i_2410 : Int32) (i_2411 : Int32) (i_2412 : Int32) (i_2413 : Int32) (i_2414 : Int32) (X_2415 : ES) (t_2416 : Int32) (t_2417 : Int32) (H : Heap) (locs : List Loc) (ls : Array Slot), wpj_L_ticks_247 o lo ar_1 ar_6 K Kx_167 (wpl_L_ticks_167 o lo ar_1 ar_6 K Kx_167 n_167) i_2407 i_2408 i_2409 i_2410 i_2411 i_2412 i_2413 i_2414 X_2415 t_2416 t_2417 → Wd g lay_6 X_2415 H → va_S (Ab g) H0 H locs → lv_has ls 11 [(0, .ref o), (1, .int i_2407), (2, .ref ar_1), (3, .ref ar_6), (4, .int i_2408), (5, .int i_2409), (6, .int i_2410), (7, .int i_2411), (8, .int i_2412), (9, .int i_2413), (10, .int i_2414)] → W p l e R s m args below meth c H locs (cl + 1) (sl + 16) Q (F0 m 247 ls [.int t_2417, .int t_2416]) := by
                intro i_2407 i_2408 i_2409 i_2410 i_2411 i_2412 i_2413 i_2414 X_2415 t_2416 t_2417 H locs ls hw hW hS hl
                unfold wpj_L_ticks_247 at hw
                refine lv_iadd hx hb dL_ticks_247 ?_
                refine lv_topi (fun v_2420 ev_2420 => ?_)
                have hw := hw v_2420 ev_2420
                refine lv_istore (lv' := [(8, .int v_2420), (0, .ref o), (1, .int i_2407), (2, .ref ar_1), (3, .ref ar_6), (4, .int i_2408), (5, .int i_2409), (6, .int i_2410), (7, .int i_2411), (9, .int i_2413), (10, .int i_2414)]) hx hb dL_ticks_248 hl (by decide) rfl (fun ls hl => ?_)
                obtain ⟨v_2421, ev_2421⟩ : ∃ z : Int32, z = i_2413 + 1 := ⟨_, rfl⟩
                have hw := hw v_2421 ev_2421
                refine lv_iinc (v := v_2421) (lv' := [(9, .int v_2421), (8, .int v_2420), (0, .ref o), (1, .int i_2407), (2, .ref ar_1), (3, .ref ar_6), (4, .int i_2408), (5, .int i_2409), (6, .int i_2410), (7, .int i_2411), (10, .int i_2414)]) hx hb dL_ticks_250 hl (k := 9) rfl (by rw [ev_2421]; rfl) (by decide) rfl (fun ls hl => ?_)
                refine lv_goto (tgt := 167) hx hb dL_ticks_253 (by decide) ?_
                exact ih_167 (i_2407, i_2408, i_2409, i_2410, i_2411, v_2420, v_2421, X_2415) _ _ _ hw hW hS (lv_sub hl [2, 3, 4, 5, 6, 7, 8, 9, 1, 0] rfl)
              have hJ_246 : ∀ (i_2422 : Int32) (i_2423 : Int32) (i_2424 : Int32) (i_2425 : Int32) (i_2426 : Int32) (i_2427 : Int32) (i_2428 : Int32) (i_2429 : Int32) (X_2430 : ES) (t_2431 : Int32) (H : Heap) (locs : List Loc) (ls : Array Slot), wpj_L_ticks_246 o lo ar_1 ar_6 K Kx_167 (wpl_L_ticks_167 o lo ar_1 ar_6 K Kx_167 n_167) i_2422 i_2423 i_2424 i_2425 i_2426 i_2427 i_2428 i_2429 X_2430 t_2431 → Wd g lay_6 X_2430 H → va_S (Ab g) H0 H locs → lv_has ls 11 [(0, .ref o), (1, .int i_2422), (2, .ref ar_1), (3, .ref ar_6), (4, .int i_2423), (5, .int i_2424), (6, .int i_2425), (7, .int i_2426), (8, .int i_2427), (9, .int i_2428), (10, .int i_2429)] → W p l e R s m args below meth c H locs (cl + 1) (sl + 16) Q (F0 m 246 ls [.int t_2431]) := by
                intro i_2422 i_2423 i_2424 i_2425 i_2426 i_2427 i_2428 i_2429 X_2430 t_2431 H locs ls hw hW hS hl
                unfold wpj_L_ticks_246 at hw
                refine lv_iconst (v := 0) hx hb dL_ticks_246 (by decide) ?_
                exact hJ_247 _ _ _ _ _ _ _ _ _ _ _ _ _ _ hw hW hS (lv_sub hl [0, 1, 2, 3, 4, 5, 6, 7, 8, 9, 10] rfl)
              have hJ_217 : ∀ (i_2432 : Int32) (i_2433 : Int32) (i_2434 : Int32) (i_2435 : Int32) (i_2436 : Int32) (i_2437 : Int32) (i_2438 : Int32) (i_2439 : Int32) (X_2440 : ES)  (H : Heap) (locs : List Loc) (ls : Array Slot), wpj_L_ticks_217 o lo ar_1 ar_6 K Kx_167 (wpl_L_ticks_167 o lo ar_1 ar_6 K Kx_167 n_167) i_2432 i_2433 i_2434 i_2435 i_2436 i_2437 i_2438 i_2439 X_2440 → Wd g lay_6 X_2440 H → va_S (Ab g) H0 H locs → lv_has ls 11 [(0, .ref o), (1, .int i_2432), (2, .ref ar_1), (3, .ref ar_6), (4, .int i_2433), (5, .int i_2434), (6, .int i_2435), (7, .int i_2436), (8, .int i_2437), (9, .int i_2438), (10, .int i_2439)] → W p l e R s m args below meth c H locs (cl + 1) (sl + 16) Q (F0 m 217 ls []) := by
                intro i_2432 i_2433 i_2434 i_2435 i_2436 i_2437 i_2438 i_2439 X_2440  H locs ls hw hW hS hl
                unfold wpj_L_ticks_217 at hw
                refine lv_iload hx hb dL_ticks_217 (lv_at hl 8 rfl) ?_
                refine lv_iload hx hb dL_ticks_219 (lv_at hl 6 rfl) ?_
                refine lv_if_lt (tgt := 246) hx hb dL_ticks_221 (by decide) (fun c_2445 => ?_) (fun c_2445 => ?_)
                · have hw := hw.1 c_2445
                  exact hJ_246 _ _ _ _ _ _ _ _ _ _ _ _ _ hw hW hS (lv_sub hl [0, 1, 2, 3, 4, 5, 6, 7, 8, 9, 10] rfl)
                · have hw := hw.2 c_2445
                  refine lv_iload hx hb dL_ticks_224 (lv_at hl 10 rfl) ?_
                  refine lv_iconst (v := 1) hx hb dL_ticks_226 (by decide) ?_
                  refine lv_icmp_ne (tgt := 246) hx hb dL_ticks_227 (by decide) (fun c_2446 => ?_) (fun c_2446 => ?_)
                  · have hw := hw.2 c_2446
                    exact hJ_246 _ _ _ _ _ _ _ _ _ _ _ _ _ hw hW hS (lv_sub hl [0, 1, 2, 3, 4, 5, 6, 7, 8, 9, 10] rfl)
                  · have hw := hw.1 c_2446
                    refine lv_aload_n hx hb dL_ticks_230 rfl (lv_at hl 0 rfl) ?_
                    refine lv_iload hx hb dL_ticks_231 (lv_at hl 9 rfl) ?_
                    refine lv_iconst (v := 2) hx hb dL_ticks_233 (by decide) ?_
                    refine w_cvi (As := [.int i_2438, .int 2]) (rest := [.int i_2437]) hx hb hml hown hts hK hW hS hl.1 (c_X4_finder hA HR hw) (k_L_14 hts ⟨Nat.le_trans (by decide) hRf, Nat.le_trans (by decide) hRl⟩) (w_recv hK hW HR.1 rfl rfl rfl) rfl rfl (Nat.le_of_ble_eq_true rfl) dL_ticks_234 ⟨by omega, by omega⟩ (fun r_2447 Ez H locs hw2 hW hS => ?_)
                    obtain ⟨ez, hw⟩ := hw2
                    rw [ez] at hW
                    refine lv_iload hx hb dL_ticks_237 (lv_at hl 6 rfl) ?_
                    refine lv_icmp_ne (tgt := 246) hx hb dL_ticks_239 (by decide) (fun c_2448 => ?_) (fun c_2448 => ?_)
                    · have hw := hw.2 c_2448
                      exact hJ_246 _ _ _ _ _ _ _ _ _ _ _ _ _ hw hW hS (lv_sub hl [0, 1, 2, 3, 4, 5, 6, 7, 8, 9, 10] rfl)
                    · have hw := hw.1 c_2448
                      refine lv_iconst (v := 1) hx hb dL_ticks_242 (by decide) ?_
                      refine lv_goto (tgt := 247) hx hb dL_ticks_243 (by decide) ?_
                      exact hJ_247 _ _ _ _ _ _ _ _ _ _ _ _ _ _ hw hW hS (lv_sub hl [0, 1, 2, 3, 4, 5, 6, 7, 8, 9, 10] rfl)
              refine lv_iload hx hb dL_ticks_167 (lv_at hl 9 rfl) ?_
              refine lv_aload_n hx hb dL_ticks_169 rfl (lv_at hl 0 rfl) ?_
              refine lv_iconst (v := 1) hx hb dL_ticks_170 (by decide) ?_
              refine w_cvi (As := [.int 1]) (rest := [.int i_2404]) hx hb hml hown hts hK hW hS hl.1 (c_X4_count hA HR hw) (k_L_8 hts ⟨Nat.le_trans (by decide) hRf, Nat.le_trans (by decide) hRl⟩) (w_recv hK hW HR.1 rfl rfl rfl) rfl rfl (Nat.le_of_ble_eq_true rfl) dL_ticks_171 ⟨by omega, by omega⟩ (fun r_2449 Ez H locs hw2 hW hS => ?_)
              obtain ⟨ez, hw⟩ := hw2
              rw [ez] at hW
              refine lv_icmp_ge (tgt := 256) hx hb dL_ticks_174 (by decide) (fun c_2450 => ?_) (fun c_2450 => ?_)
              · have hw := hw.1 c_2450
                rw [eK_167] at hw
                refine lv_iload hx hb dL_ticks_256 (lv_at hl 6 rfl) ?_
                refine lv_if_lt (tgt := 274) hx hb dL_ticks_258 (by decide) (fun c_2451 => ?_) (fun c_2451 => ?_)
                · have hw := hw.1 c_2451
                  exact hJ_274 _ _ _ _ _ _ _ _ _ _ _ _ _ hw hW hS (lv_sub hl [0, 1, 2, 3, 4, 5, 6, 7, 8, 9] rfl) (by omega) (by omega)
                · have hw := hw.2 c_2451
                  refine lv_iload hx hb dL_ticks_261 (lv_at hl 5 rfl) ?_
                  refine lv_if_le (tgt := 274) hx hb dL_ticks_263 (by decide) (fun c_2452 => ?_) (fun c_2452 => ?_)
                  · have hw := hw.1 c_2452
                    exact hJ_274 _ _ _ _ _ _ _ _ _ _ _ _ _ hw hW hS (lv_sub hl [0, 1, 2, 3, 4, 5, 6, 7, 8, 9] rfl) (by omega) (by omega)
                  · have hw := hw.2 c_2452
                    refine lv_iload hx hb dL_ticks_266 (lv_at hl 8 rfl) ?_
                    refine lv_iconst (v := 1) hx hb dL_ticks_268 (by decide) ?_
                    refine lv_icmp_eq (tgt := 274) hx hb dL_ticks_269 (by decide) (fun c_2453 => ?_) (fun c_2453 => ?_)
                    · have hw := hw.1 c_2453
                      exact hJ_274 _ _ _ _ _ _ _ _ _ _ _ _ _ hw hW hS (lv_sub hl [0, 1, 2, 3, 4, 5, 6, 7, 8, 9] rfl) (by omega) (by omega)
                    · have hw := hw.2 c_2453
                      refine lv_iconst (v := 0) hx hb dL_ticks_272 (by decide) ?_
                      exact hret _ dL_ticks_273 _ _ _ _ _ _ _ (by omega) (by omega) (Or.inl rfl) hw (hW.sub hsub) hS
              · have hw := hw.2 c_2450
                refine lv_aload_n hx hb dL_ticks_177 rfl (lv_at hl 0 rfl) ?_
                refine lv_iload hx hb dL_ticks_178 (lv_at hl 9 rfl) ?_
                refine lv_iconst (v := 0) hx hb dL_ticks_180 (by decide) ?_
                refine w_cvi (As := [.int i_2404, .int 0]) (rest := []) hx hb hml hown hts hK hW hS hl.1 (c_X4_finder hA HR hw) (k_L_14 hts ⟨Nat.le_trans (by decide) hRf, Nat.le_trans (by decide) hRl⟩) (w_recv hK hW HR.1 rfl rfl rfl) rfl rfl (Nat.le_of_ble_eq_true rfl) dL_ticks_181 ⟨by omega, by omega⟩ (fun r_2454 Ez H locs hw2 hW hS => ?_)
                obtain ⟨ez, hw⟩ := hw2
                rw [ez] at hW
                refine lv_istore (lv' := [(10, .int r_2454), (0, .ref o), (1, .int i_2398), (2, .ref ar_1), (3, .ref ar_6), (4, .int i_2399), (5, .int i_2400), (6, .int i_2401), (7, .int i_2402), (8, .int i_2403), (9, .int i_2404)]) hx hb dL_ticks_184 hl (by decide) rfl (fun ls hl => ?_)
                refine lv_aload_n hx hb dL_ticks_186 rfl (lv_at hl 3 rfl) ?_
                refine lv_iload hx hb dL_ticks_187 (lv_at hl 10 rfl) ?_
                obtain ⟨hin, hw⟩ := hw
                refine w_iald hx hb hK hW hlar1 rfl hin dL_ticks_189 ?_
                refine lv_if_lt (tgt := 217) hx hb dL_ticks_190 (by decide) (fun c_2455 => ?_) (fun c_2455 => ?_)
                · have hw := hw.1 c_2455
                  exact hJ_217 _ _ _ _ _ _ _ _ _ _ _ _ hw hW hS (lv_sub hl [1, 2, 3, 4, 5, 6, 7, 8, 9, 10, 0] rfl)
                · have hw := hw.2 c_2455
                  refine lv_iload hx hb dL_ticks_193 (lv_at hl 0 rfl) ?_
                  refine lv_aload_n hx hb dL_ticks_195 rfl (lv_at hl 3 rfl) ?_
                  refine lv_iload hx hb dL_ticks_196 (lv_at hl 10 rfl) ?_
                  obtain ⟨hin, hw⟩ := hw
                  refine w_iald hx hb hK hW hlar1 rfl hin dL_ticks_198 ?_
                  refine lv_icmp_eq (tgt := 217) hx hb dL_ticks_199 (by decide) (fun c_2456 => ?_) (fun c_2456 => ?_)
                  · have hw := hw.1 c_2456
                    exact hJ_217 _ _ _ _ _ _ _ _ _ _ _ _ hw hW hS (lv_sub hl [1, 2, 3, 4, 5, 6, 7, 8, 9, 10, 0] rfl)
                  · have hw := hw.2 c_2456
                    refine lv_aload_n hx hb dL_ticks_202 rfl (lv_at hl 3 rfl) ?_
                    refine lv_iload hx hb dL_ticks_203 (lv_at hl 10 rfl) ?_
                    obtain ⟨hin, hw⟩ := hw
                    refine w_iald hx hb hK hW hlar1 rfl hin dL_ticks_205 ?_
                    refine lv_if_ne (tgt := 215) hx hb dL_ticks_206 (by decide) (fun c_2457 => ?_) (fun c_2457 => ?_)
                    · have hw := hw.2 c_2457
                      refine lv_iconst (v := 0) hx hb dL_ticks_215 (by decide) ?_
                      exact hret _ dL_ticks_216 _ _ _ _ _ _ _ (by omega) (by omega) (Or.inl rfl) hw (hW.sub hsub) hS
                    · have hw := hw.1 c_2457
                      refine lv_iload hx hb dL_ticks_209 (lv_at hl 0 rfl) ?_
                      refine lv_iconst (v := 1) hx hb dL_ticks_211 (by decide) ?_
                      refine lv_icmp_eq (tgt := 217) hx hb dL_ticks_212 (by decide) (fun c_2458 => ?_) (fun c_2458 => ?_)
                      · have hw := hw.1 c_2458
                        exact hJ_217 _ _ _ _ _ _ _ _ _ _ _ _ hw hW hS (lv_sub hl [1, 2, 3, 4, 5, 6, 7, 8, 9, 10, 0] rfl)
                      · have hw := hw.2 c_2458
                        refine lv_iconst (v := 0) hx hb dL_ticks_215 (by decide) ?_
                        exact hret _ dL_ticks_216 _ _ _ _ _ _ _ (by omega) (by omega) (Or.inl rfl) hw (hW.sub hsub) hS
            · have hw := hw.1 c_2386
              refine lv_iconst (v := 0) hx hb dL_ticks_159 (by decide) ?_
              exact hret _ dL_ticks_160 _ _ _ _ _ _ _ (by omega) (by omega) (Or.inl rfl) hw (hW.sub hsub) hS
        · have hw := hw.2 c_2379
          refine lv_aload_n hx hb dL_ticks_107 rfl (lv_at hl 0 rfl) ?_
          refine lv_iload hx hb dL_ticks_108 (lv_at hl 7 rfl) ?_
          refine lv_bipush (v := 7) hx hb dL_ticks_110 (by decide) ?_
          refine w_cvi (As := [.int i_2367, .int 7]) (rest := []) hx hb hml hown hts hK hW hS hl.1 (c_X4_line hA HR hw) (k_L_18 hts ⟨Nat.le_trans (by decide) hRf, Nat.le_trans (by decide) hRl⟩) (w_recv hK hW HR.1 rfl rfl rfl) rfl rfl (Nat.le_of_ble_eq_true rfl) dL_ticks_112 ⟨by omega, by omega⟩ (fun r_2459 Ez H locs hw2 hW hS => ?_)
          obtain ⟨ez, hw⟩ := hw2
          rw [ez] at hW
          refine lv_if_ne (tgt := 123) hx hb dL_ticks_115 (by decide) (fun c_2460 => ?_) (fun c_2460 => ?_)
          · have hw := hw.2 c_2460
            refine lv_iload hx hb dL_ticks_123 (lv_at hl 6 rfl) ?_
            exact hJ_125 _ _ _ _ _ _ _ _ _ _ hw hW hS (lv_sub hl [0, 1, 2, 3, 4, 5, 6, 7] rfl)
          · have hw := hw.1 c_2460
            refine lv_iload hx hb dL_ticks_118 (lv_at hl 7 rfl) ?_
            refine lv_goto (tgt := 125) hx hb dL_ticks_120 (by decide) ?_
            exact hJ_125 _ _ _ _ _ _ _ _ _ _ hw hW hS (lv_sub hl [0, 1, 2, 3, 4, 5, 6, 7] rfl)
      · have hw := hw.2 c_2276
        refine lv_aload_n hx hb dL_ticks_69 rfl (lv_at hl 3 rfl) ?_
        refine lv_iload hx hb dL_ticks_70 (lv_at hl 5 rfl) ?_
        refine lv_aload_n hx hb dL_ticks_72 rfl (lv_at hl 0 rfl) ?_
        refine lv_iload hx hb dL_ticks_73 (lv_at hl 5 rfl) ?_
        refine lv_iconst (v := 5) hx hb dL_ticks_75 (by decide) ?_
        refine w_cvi (As := [.int i_2273, .int 5]) (rest := [.int i_2273, .ref ar_6]) hx hb hml hown hts hK hW hS hl.1 (c_X4_line hA HR hw) (k_L_18 hts ⟨Nat.le_trans (by decide) hRf, Nat.le_trans (by decide) hRl⟩) (w_recv hK hW HR.1 rfl rfl rfl) rfl rfl (Nat.le_of_ble_eq_true rfl) dL_ticks_76 ⟨by omega, by omega⟩ (fun r_2461 Ez H locs hw2 hW hS => ?_)
        obtain ⟨ez, hw⟩ := hw2
        rw [ez] at hW
        obtain ⟨hin, hw⟩ := hw
        obtain ⟨X_2462, eX_2462⟩ : ∃ z : ES, z = va_up X_2274 ar_6 (upd (X_2274 ar_6) i_2273.toNatClampNeg r_2461) := ⟨_, rfl⟩
        have hw := hw X_2462 eX_2462
        refine w_iast (E1 := X_2462) hx hb hK hA hW hS hlar6 rfl hin dL_ticks_79 eX_2462.symm (fun H locs hW hS => ?_)
        obtain ⟨v_2463, ev_2463⟩ : ∃ z : Int32, z = i_2273 + 1 := ⟨_, rfl⟩
        have hw := hw v_2463 ev_2463
        refine lv_iinc (v := v_2463) (lv' := [(5, .int v_2463), (0, .ref o), (1, .int i_2271), (2, .ref ar_1), (3, .ref ar_6), (4, .int i_2272)]) hx hb dL_ticks_80 hl (k := 5) rfl (by rw [ev_2463]; rfl) (by decide) rfl (fun ls hl => ?_)
        refine lv_goto (tgt := 62) hx hb dL_ticks_83 (by decide) ?_
        exact ih_62 (i_2271, i_2272, v_2463, X_2462) _ _ _ hw hW hS (lv_sub hl [1, 2, 3, 4, 5, 0] rfl)
    · have hw := hw.2 c_2082
      refine lv_aload_n hx hb dL_ticks_31 rfl (lv_at hl 2 rfl) ?_
      refine lv_iload hx hb dL_ticks_32 (lv_at hl 5 rfl) ?_
      refine lv_aload_n hx hb dL_ticks_34 rfl (lv_at hl 0 rfl) ?_
      refine lv_iload hx hb dL_ticks_35 (lv_at hl 5 rfl) ?_
      refine w_csiA (As := [.ref o, .int i_2078]) (rest := [.int i_2078, .ref ar_1]) hx hb hml hown hts hK hW hS hl.1 (c_L_next hA HR hlo hw) (k_L_27 hts ⟨Nat.le_trans (by decide) hRf, Nat.le_trans (by decide) hRl⟩) rfl rfl (Nat.le_of_ble_eq_true rfl) dL_ticks_37 ⟨by omega, by omega⟩ (fun r_2464 X_2465 H locs hw hW hS => ?_)
      obtain ⟨hin, hw⟩ := hw
      obtain ⟨X_2466, eX_2466⟩ : ∃ z : ES, z = va_up X_2465 ar_1 (upd (X_2465 ar_1) i_2078.toNatClampNeg r_2464) := ⟨_, rfl⟩
      have hw := hw X_2466 eX_2466
      refine w_iast (E1 := X_2466) hx hb hK hA hW hS hlar1 rfl hin dL_ticks_40 eX_2466.symm (fun H locs hW hS => ?_)
      refine lv_aload_n hx hb dL_ticks_41 rfl (lv_at hl 3 rfl) ?_
      refine lv_iload hx hb dL_ticks_42 (lv_at hl 5 rfl) ?_
      refine lv_aload_n hx hb dL_ticks_44 rfl (lv_at hl 0 rfl) ?_
      refine lv_iload hx hb dL_ticks_45 (lv_at hl 5 rfl) ?_
      refine lv_bipush (v := 6) hx hb dL_ticks_47 (by decide) ?_
      refine w_cvi (As := [.int i_2078, .int 6]) (rest := [.int i_2078, .ref ar_6]) hx hb hml hown hts hK hW hS hl.1 (c_X4_finder hA HR hw) (k_L_14 hts ⟨Nat.le_trans (by decide) hRf, Nat.le_trans (by decide) hRl⟩) (w_recv hK hW HR.1 rfl rfl rfl) rfl rfl (Nat.le_of_ble_eq_true rfl) dL_ticks_49 ⟨by omega, by omega⟩ (fun r_2467 Ez H locs hw2 hW hS => ?_)
      obtain ⟨ez, hw⟩ := hw2
      rw [ez] at hW
      obtain ⟨hin, hw⟩ := hw
      obtain ⟨X_2468, eX_2468⟩ : ∃ z : ES, z = va_up X_2466 ar_6 (upd (X_2466 ar_6) i_2078.toNatClampNeg r_2467) := ⟨_, rfl⟩
      have hw := hw X_2468 eX_2468
      refine w_iast (E1 := X_2468) hx hb hK hA hW hS hlar6 rfl hin dL_ticks_52 eX_2468.symm (fun H locs hW hS => ?_)
      obtain ⟨v_2469, ev_2469⟩ : ∃ z : Int32, z = i_2078 + 1 := ⟨_, rfl⟩
      have hw := hw v_2469 ev_2469
      refine lv_iinc (v := v_2469) (lv' := [(5, .int v_2469), (0, .ref o), (1, .int i_2076), (2, .ref ar_1), (3, .ref ar_6), (4, .int i_2077)]) hx hb dL_ticks_53 hl (k := 5) rfl (by rw [ev_2469]; rfl) (by decide) rfl (fun ls hl => ?_)
      refine lv_goto (tgt := 21) hx hb dL_ticks_56 (by decide) ?_
      exact ih_21 (i_2076, i_2077, v_2469, X_2468) _ _ _ hw hW hS (lv_sub hl [1, 2, 3, 4, 5, 0] rfl)
set_option maxHeartbeats 8000000 in
theorem c_L_ticks {l : Launch} {g : GG} {lay : LY} {o lo : Nat} {sv : Nat → Option Nat} {flo : CS → va_E} {E0 : ES} {K : Int32 → ES → Prop} {p1 : Int32} (hA : okL g lay) (HR : RL4 g lay o sv) (hlo : lay lo = some flo) (hw : wp_L_ticks o lo E0 p1 K) : Met l yL_ticks wsL_ticks rmT (va_Pc [.ref o, .int p1] (fun U => KK g U ∧ Wd g lay E0 U.heap)) (va_Qi (fun r E1 => K r E1) (fun E' t => Wd g lay E' t.heap) (Ab g)) 10 148 (Ab g) := by
  refine Met.ofW (cc := cL_ticks) (maxL := 11) (ret := (some .boolean)) (by decide) rfl ?_
  intro p e s m args below meth c s₁ B hml hv
  obtain ⟨rfl, hK, hW⟩ := hv
  have hr := B.returns
  have hlocks := B.notSynchronized
  have hl := lv_entry [.ref o, .int p1] (n := 11) (Nat.le_of_ble_eq_true rfl)
  rw [lg_entry_eq]
  generalize (lg_sl [.ref o, .int p1] ++ List.replicate (11 - (lg_sl [.ref o, .int p1]).length) Slot.unset).toArray = ls at hl ⊢
  exact t_L_ticks (cells := 0) (slots := 0) (H0 := s.heap) B.exec B.bytes hml (findClass_of_methodNamed B.named) (gd_of (atoms_spec (ws := wsL_ticks) B.pre)) hK hA HR hlo (by decide) (by decide) (by decide) (by decide) (fun pc dg v X H locs ls cl sl h1 h2 hz hk hW hS => (w_zretA B.exec B.bytes hr hlocks hW hS hz hk dg).widen (by omega) (by omega)) hW va_S.rf hl hw
