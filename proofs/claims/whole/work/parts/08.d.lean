set_option maxHeartbeats 4000000 in
set_option maxRecDepth 100000 in
theorem c_X5_placeOf {l : Launch} {g : GG} {lay : LY} {E0 : ES} {o : Nat} {X : ES} {p1 : Int32} {K : Int32 → Prop} (hA : okL g lay) (HB : ML g lay o) (hX : ∀ k, k < 7 → E0 (o + k) = X k) (hw : wp_X5_placeOf X p1 K) : JMi l g lay yX5_placeOf wsX5_placeOf rmX5_placeOf [.ref o, .int p1] E0 (fun r E1 => E1 = E0 ∧ K r) := by
  refine Met.ofW (cc := cX5_placeOf) (maxL := 4) (ret := (some .int)) (by decide) rfl ?_
  intro p e s m args below meth c s₁ B hml hv
  obtain ⟨rfl, hK, hW⟩ := hv
  have hx := B.exec
  have hb := B.bytes
  have hr := B.returns
  have hts := gd_of (atoms_spec (ws := wsX5_placeOf) B.pre)
  have hown : s.vm.findClass RX5 = some m.cls := findClass_of_methodNamed B.named
  have hlocks := B.notSynchronized
  have hS : va_S (Ab g) s.heap s.heap [] := va_S.rf
  have hl := lv_entry [.ref o, .int p1] (n := 4) (Nat.le_of_ble_eq_true rfl)
  rw [lg_entry_eq]
  generalize (lg_sl [.ref o, .int p1] ++ List.replicate (4 - (lg_sl [.ref o, .int p1]).length) Slot.unset).toArray = ls at hl ⊢
  have hl : lv_has ls 4 [(0, .ref o), (1, .int p1)] := hl
  unfold wp_X5_placeOf at hw
  refine lv_aload_n hx hb dX5_placeOf_0 rfl (lv_at hl 0 rfl) ?_
  refine lv_iload_n hx hb dX5_placeOf_1 rfl (lv_at hl 1 rfl) ?_
  refine w_cvi (As := [.int p1]) (rest := []) hx hb hml hown hts hK hW hS hl.1 (c_X5_isQueued hA HB hX  hw) (k_X5_127 hts ⟨Nat.le_of_ble_eq_true rfl, Nat.le_of_ble_eq_true rfl⟩) (w_recv hK hW HB.1 (hX 0 (by decide)) rfl rfl) rfl rfl (Nat.le_of_ble_eq_true rfl) dX5_placeOf_2 ⟨Nat.zero_le _, Nat.zero_le _⟩ (fun r_1 Ez H locs hw2 hW hS => ?_)
  obtain ⟨ez, z_2, hw⟩ := hw2
  rw [ez] at hW
  refine lv_if_ne (tgt := 11) hx hb dX5_placeOf_5 (by decide) (fun c_3 => ?_) (fun c_3 => ?_)
  · have hw := hw.2 c_3
    refine lv_iconst (v := 0) hx hb dX5_placeOf_11 (by decide) ?_
    refine lv_istore_n (lv' := [(2, .int 0), (0, .ref o), (1, .int p1)]) hx hb dX5_placeOf_12 rfl hl (by decide) rfl (fun ls hl => ?_)
    refine lv_iconst (v := 0) hx hb dX5_placeOf_13 (by decide) ?_
    refine lv_istore_n (lv' := [(3, .int 0), (2, .int 0), (0, .ref o), (1, .int p1)]) hx hb dX5_placeOf_14 rfl hl (by decide) rfl (fun ls hl => ?_)
    obtain ⟨n_35, hw⟩ := hw
    refine w_loop (KT := Int32 → Int32 → Prop) (σ := Int32 × Int32) (Wl := fun Kx_15 n_15 q => wpl_X5_placeOf_15 X p1 K Kx_15 n_15 q.1 q.2) (Pw := fun q => Wd g lay (E0)) (lvf := fun q => [(0, .ref o), (1, .int p1), (2, .int q.1), (3, .int q.2)]) (nL := 4) n_35 (0, 0) hw hW hS (lv_sub hl [2, 3, 1, 0] rfl) (fun _ h => h) (fun Kx_15 eK_15 n_15 q H locs ls hw hW hS hl ih_15 => ?_)
    obtain ⟨i_4, i_5⟩ := q
    try dsimp only at hw
    rw [wpl_X5_placeOf_15] at hw
    have hl : lv_has ls 4 [(0, .ref o), (1, .int p1), (2, .int i_4), (3, .int i_5)] := hl
    have hW : Wd g lay (E0) H := hW
    refine lv_iload_n hx hb dX5_placeOf_15 rfl (lv_at hl 3 rfl) ?_
    refine lv_bipush (v := 16) hx hb dX5_placeOf_16 (by decide) ?_
    refine lv_icmp_ge (tgt := 58) hx hb dX5_placeOf_18 (by decide) (fun c_22 => ?_) (fun c_22 => ?_)
    · have hw := hw.1 c_22
      rw [eK_15] at hw
      refine lv_iload_n hx hb dX5_placeOf_58 rfl (lv_at hl 2 rfl) ?_
      exact w_iret hx hb hr hlocks hW hS ⟨rfl, hw⟩ dX5_placeOf_59
    · have hw := hw.2 c_22
      refine lv_iload_n hx hb dX5_placeOf_21 rfl (lv_at hl 2 rfl) ?_
      refine lv_aload_n hx hb dX5_placeOf_22 rfl (lv_at hl 0 rfl) ?_
      refine lv_iload_n hx hb dX5_placeOf_23 rfl (lv_at hl 3 rfl) ?_
      refine w_cvi (As := [.int i_5]) (rest := [.int i_4]) hx hb hml hown hts hK hW hS hl.1 (c_X5_isQueued hA HB hX  hw) (k_X5_127 hts ⟨Nat.le_of_ble_eq_true rfl, Nat.le_of_ble_eq_true rfl⟩) (w_recv hK hW HB.1 (hX 0 (by decide)) rfl rfl) rfl rfl (Nat.le_of_ble_eq_true rfl) dX5_placeOf_24 ⟨Nat.zero_le _, Nat.zero_le _⟩ (fun r_23 Ez H locs hw2 hW hS => ?_)
      obtain ⟨ez, z_24, hw⟩ := hw2
      rw [ez] at hW
      refine lv_if_eq (tgt := 49) hx hb dX5_placeOf_27 (by decide) (fun c_25 => ?_) (fun c_25 => ?_)
      · have hw := hw.1 c_25
        refine lv_iconst (v := 0) hx hb dX5_placeOf_49 (by decide) ?_
        refine lv_iadd hx hb dX5_placeOf_50 ?_
        refine lv_topi (fun v_26 ev_26 => ?_)
        have hw := hw v_26 ev_26
        refine lv_istore_n (lv' := [(2, .int v_26), (0, .ref o), (1, .int p1), (3, .int i_5)]) hx hb dX5_placeOf_51 rfl hl (by decide) rfl (fun ls hl => ?_)
        obtain ⟨v_27, ev_27⟩ : ∃ z : Int32, z = i_5 + 1 := ⟨_, rfl⟩
        have hw := hw v_27 ev_27
        refine lv_iinc (v := v_27) (lv' := [(3, .int v_27), (2, .int v_26), (0, .ref o), (1, .int p1)]) hx hb dX5_placeOf_52 hl (k := 3) rfl (by rw [ev_27]; rfl) (by decide) rfl (fun ls hl => ?_)
        refine lv_goto (tgt := 15) hx hb dX5_placeOf_55 (by decide) ?_
        exact ih_15 (v_26, v_27) _ _ _ hw hW hS (lv_sub hl [2, 3, 1, 0] rfl)
      · have hw := hw.2 c_25
        refine lv_aload_n hx hb dX5_placeOf_30 rfl (lv_at hl 0 rfl) ?_
        refine lv_iload_n hx hb dX5_placeOf_31 rfl (lv_at hl 3 rfl) ?_
        refine lv_iconst (v := 4) hx hb dX5_placeOf_32 (by decide) ?_
        refine w_cvi (As := [.int i_5, .int 4]) (rest := [.int i_4]) hx hb hml hown hts hK hW hS hl.1 (c_X5_of hA HB hX  hw) (k_X5_67 hts ⟨Nat.le_of_ble_eq_true rfl, Nat.le_of_ble_eq_true rfl⟩) (w_recv hK hW HB.1 (hX 0 (by decide)) rfl rfl) rfl rfl (Nat.le_of_ble_eq_true rfl) dX5_placeOf_33 ⟨Nat.zero_le _, Nat.zero_le _⟩ (fun r_28 Ez H locs hw2 hW hS => ?_)
        obtain ⟨ez, hw⟩ := hw2
        rw [ez] at hW
        refine lv_aload_n hx hb dX5_placeOf_36 rfl (lv_at hl 0 rfl) ?_
        refine lv_iload_n hx hb dX5_placeOf_37 rfl (lv_at hl 1 rfl) ?_
        refine lv_iconst (v := 4) hx hb dX5_placeOf_38 (by decide) ?_
        refine w_cvi (As := [.int p1, .int 4]) (rest := [.int r_28, .int i_4]) hx hb hml hown hts hK hW hS hl.1 (c_X5_of hA HB hX  hw) (k_X5_67 hts ⟨Nat.le_of_ble_eq_true rfl, Nat.le_of_ble_eq_true rfl⟩) (w_recv hK hW HB.1 (hX 0 (by decide)) rfl rfl) rfl rfl (Nat.le_of_ble_eq_true rfl) dX5_placeOf_39 ⟨Nat.zero_le _, Nat.zero_le _⟩ (fun r_29 Ez H locs hw2 hW hS => ?_)
        obtain ⟨ez, hw⟩ := hw2
        rw [ez] at hW
        refine lv_icmp_ge (tgt := 49) hx hb dX5_placeOf_42 (by decide) (fun c_30 => ?_) (fun c_30 => ?_)
        · have hw := hw.1 c_30
          refine lv_iconst (v := 0) hx hb dX5_placeOf_49 (by decide) ?_
          refine lv_iadd hx hb dX5_placeOf_50 ?_
          refine lv_topi (fun v_31 ev_31 => ?_)
          have hw := hw v_31 ev_31
          refine lv_istore_n (lv' := [(2, .int v_31), (0, .ref o), (1, .int p1), (3, .int i_5)]) hx hb dX5_placeOf_51 rfl hl (by decide) rfl (fun ls hl => ?_)
          obtain ⟨v_32, ev_32⟩ : ∃ z : Int32, z = i_5 + 1 := ⟨_, rfl⟩
          have hw := hw v_32 ev_32
          refine lv_iinc (v := v_32) (lv' := [(3, .int v_32), (2, .int v_31), (0, .ref o), (1, .int p1)]) hx hb dX5_placeOf_52 hl (k := 3) rfl (by rw [ev_32]; rfl) (by decide) rfl (fun ls hl => ?_)
          refine lv_goto (tgt := 15) hx hb dX5_placeOf_55 (by decide) ?_
          exact ih_15 (v_31, v_32) _ _ _ hw hW hS (lv_sub hl [2, 3, 1, 0] rfl)
        · have hw := hw.2 c_30
          refine lv_iconst (v := 1) hx hb dX5_placeOf_45 (by decide) ?_
          refine lv_goto (tgt := 50) hx hb dX5_placeOf_46 (by decide) ?_
          refine lv_iadd hx hb dX5_placeOf_50 ?_
          refine lv_topi (fun v_33 ev_33 => ?_)
          have hw := hw v_33 ev_33
          refine lv_istore_n (lv' := [(2, .int v_33), (0, .ref o), (1, .int p1), (3, .int i_5)]) hx hb dX5_placeOf_51 rfl hl (by decide) rfl (fun ls hl => ?_)
          obtain ⟨v_34, ev_34⟩ : ∃ z : Int32, z = i_5 + 1 := ⟨_, rfl⟩
          have hw := hw v_34 ev_34
          refine lv_iinc (v := v_34) (lv' := [(3, .int v_34), (2, .int v_33), (0, .ref o), (1, .int p1)]) hx hb dX5_placeOf_52 hl (k := 3) rfl (by rw [ev_34]; rfl) (by decide) rfl (fun ls hl => ?_)
          refine lv_goto (tgt := 15) hx hb dX5_placeOf_55 (by decide) ?_
          exact ih_15 (v_33, v_34) _ _ _ hw hW hS (lv_sub hl [2, 3, 1, 0] rfl)
  · have hw := hw.1 c_3
    refine lv_bipush (v := (-6)) hx hb dX5_placeOf_8 (by decide) ?_
    exact w_iret hx hb hr hlocks hW hS ⟨rfl, hw⟩ dX5_placeOf_10
set_option maxHeartbeats 4000000 in
set_option maxRecDepth 100000 in
theorem c_X5_line {l : Launch} {g : GG} {lay : LY} {E0 : ES} {o : Nat} {X : ES} {p1 : Int32} {p2 : Int32} {K : Int32 → Prop} (hA : okL g lay) (HB : ML g lay o) (hX : ∀ k, k < 7 → E0 (o + k) = X k) (hw : wp_X5_line X p1 p2 K) : JMi l g lay yX5_line wsX5_line rmX5_line [.ref o, .int p1, .int p2] E0 (fun r E1 => E1 = E0 ∧ K r) := by
  refine Met.ofW (cc := cX5_line) (maxL := 3) (ret := (some .int)) (by decide) rfl ?_
  intro p e s m args below meth c s₁ B hml hv
  obtain ⟨rfl, hK, hW⟩ := hv
  have hx := B.exec
  have hb := B.bytes
  have hr := B.returns
  have hts := gd_of (atoms_spec (ws := wsX5_line) B.pre)
  have hown : s.vm.findClass RX5 = some m.cls := findClass_of_methodNamed B.named
  have hlocks := B.notSynchronized
  have hS : va_S (Ab g) s.heap s.heap [] := va_S.rf
  have hl := lv_entry [.ref o, .int p1, .int p2] (n := 3) (Nat.le_of_ble_eq_true rfl)
  rw [lg_entry_eq]
  generalize (lg_sl [.ref o, .int p1, .int p2] ++ List.replicate (3 - (lg_sl [.ref o, .int p1, .int p2]).length) Slot.unset).toArray = ls at hl ⊢
  have hl : lv_has ls 3 [(0, .ref o), (1, .int p1), (2, .int p2)] := hl
  unfold wp_X5_line at hw
  refine lv_iload_n hx hb dX5_line_0 rfl (lv_at hl 1 rfl) ?_
  refine w_csi (As := [.int p1]) (rest := []) hx hb hml hown hts hK hW hS hl.1 (c_X5_isLine hw) (k_X5_64 hts ⟨Nat.le_of_ble_eq_true rfl, Nat.le_of_ble_eq_true rfl⟩) rfl rfl (Nat.le_of_ble_eq_true rfl) dX5_line_1 ⟨Nat.zero_le _, Nat.zero_le _⟩ (fun r_1 Ez H locs hw2 hW hS => ?_)
  obtain ⟨ez, z_2, hw⟩ := hw2
  rw [ez] at hW
  refine lv_if_ne (tgt := 9) hx hb dX5_line_4 (by decide) (fun c_3 => ?_) (fun c_3 => ?_)
  · have hw := hw.2 c_3
    refine lv_iload_n hx hb dX5_line_9 rfl (lv_at hl 2 rfl) ?_
    by_cases c_4 : p2 = 0
    · have hw := hw.1 c_4
      refine lv_tableIn (tgt := 60) hx hb dX5_line_10 (by rw [c_4]; decide) (by rw [c_4]; decide) (by rw [c_4] <;> rfl) (by decide) ?_
      refine lv_aload_n hx hb dX5_line_60 rfl (lv_at hl 0 rfl) ?_
      refine lv_iload_n hx hb dX5_line_61 rfl (lv_at hl 1 rfl) ?_
      refine lv_iconst (v := 0) hx hb dX5_line_62 (by decide) ?_
      refine w_cvi (As := [.int p1, .int 0]) (rest := []) hx hb hml hown hts hK hW hS hl.1 (c_X5_of hA HB hX  hw) (k_X5_67 hts ⟨Nat.le_of_ble_eq_true rfl, Nat.le_of_ble_eq_true rfl⟩) (w_recv hK hW HB.1 (hX 0 (by decide)) rfl rfl) rfl rfl (Nat.le_of_ble_eq_true rfl) dX5_line_63 ⟨Nat.zero_le _, Nat.zero_le _⟩ (fun r_5 Ez H locs hw2 hW hS => ?_)
      obtain ⟨ez, hw⟩ := hw2
      rw [ez] at hW
      exact w_iret hx hb hr hlocks hW hS ⟨rfl, hw⟩ dX5_line_66
    · have hw := hw.2 c_4
      by_cases c_6 : p2 = 1
      · have hw := hw.1 c_6
        refine lv_tableIn (tgt := 67) hx hb dX5_line_10 (by rw [c_6]; decide) (by rw [c_6]; decide) (by rw [c_6] <;> rfl) (by decide) ?_
        refine lv_aload_n hx hb dX5_line_67 rfl (lv_at hl 0 rfl) ?_
        refine lv_iload_n hx hb dX5_line_68 rfl (lv_at hl 1 rfl) ?_
        refine lv_iconst (v := 1) hx hb dX5_line_69 (by decide) ?_
        refine w_cvi (As := [.int p1, .int 1]) (rest := []) hx hb hml hown hts hK hW hS hl.1 (c_X5_of hA HB hX  hw) (k_X5_67 hts ⟨Nat.le_of_ble_eq_true rfl, Nat.le_of_ble_eq_true rfl⟩) (w_recv hK hW HB.1 (hX 0 (by decide)) rfl rfl) rfl rfl (Nat.le_of_ble_eq_true rfl) dX5_line_70 ⟨Nat.zero_le _, Nat.zero_le _⟩ (fun r_7 Ez H locs hw2 hW hS => ?_)
        obtain ⟨ez, hw⟩ := hw2
        rw [ez] at hW
        exact w_iret hx hb hr hlocks hW hS ⟨rfl, hw⟩ dX5_line_73
      · have hw := hw.2 c_6
        by_cases c_8 : p2 = 2
        · have hw := hw.1 c_8
          refine lv_tableIn (tgt := 74) hx hb dX5_line_10 (by rw [c_8]; decide) (by rw [c_8]; decide) (by rw [c_8] <;> rfl) (by decide) ?_
          refine lv_aload_n hx hb dX5_line_74 rfl (lv_at hl 0 rfl) ?_
          refine lv_iload_n hx hb dX5_line_75 rfl (lv_at hl 1 rfl) ?_
          refine w_cvi (As := [.int p1]) (rest := []) hx hb hml hown hts hK hW hS hl.1 (c_X5_pathOf hA HB hX  hw) (k_X5_143 hts ⟨Nat.le_of_ble_eq_true rfl, Nat.le_of_ble_eq_true rfl⟩) (w_recv hK hW HB.1 (hX 0 (by decide)) rfl rfl) rfl rfl (Nat.le_of_ble_eq_true rfl) dX5_line_76 ⟨Nat.zero_le _, Nat.zero_le _⟩ (fun r_9 Ez H locs hw2 hW hS => ?_)
          obtain ⟨ez, hw⟩ := hw2
          rw [ez] at hW
          exact w_iret hx hb hr hlocks hW hS ⟨rfl, hw⟩ dX5_line_79
        · have hw := hw.2 c_8
          by_cases c_10 : p2 = 3
          · have hw := hw.1 c_10
            refine lv_tableIn (tgt := 80) hx hb dX5_line_10 (by rw [c_10]; decide) (by rw [c_10]; decide) (by rw [c_10] <;> rfl) (by decide) ?_
            refine lv_aload_n hx hb dX5_line_80 rfl (lv_at hl 0 rfl) ?_
            refine lv_iload_n hx hb dX5_line_81 rfl (lv_at hl 1 rfl) ?_
            refine w_cvi (As := [.int p1]) (rest := []) hx hb hml hown hts hK hW hS hl.1 (c_X5_otherOf hA HB hX  hw) (k_X5_146 hts ⟨Nat.le_of_ble_eq_true rfl, Nat.le_of_ble_eq_true rfl⟩) (w_recv hK hW HB.1 (hX 0 (by decide)) rfl rfl) rfl rfl (Nat.le_of_ble_eq_true rfl) dX5_line_82 ⟨Nat.zero_le _, Nat.zero_le _⟩ (fun r_11 Ez H locs hw2 hW hS => ?_)
            obtain ⟨ez, hw⟩ := hw2
            rw [ez] at hW
            exact w_iret hx hb hr hlocks hW hS ⟨rfl, hw⟩ dX5_line_85
          · have hw := hw.2 c_10
            by_cases c_12 : p2 = 4
            · have hw := hw.1 c_12
              refine lv_tableIn (tgt := 86) hx hb dX5_line_10 (by rw [c_12]; decide) (by rw [c_12]; decide) (by rw [c_12] <;> rfl) (by decide) ?_
              refine lv_aload_n hx hb dX5_line_86 rfl (lv_at hl 0 rfl) ?_
              refine lv_iload_n hx hb dX5_line_87 rfl (lv_at hl 1 rfl) ?_
              refine lv_bipush (v := 10) hx hb dX5_line_88 (by decide) ?_
              refine w_cvi (As := [.int p1, .int 10]) (rest := []) hx hb hml hown hts hK hW hS hl.1 (c_X5_of hA HB hX  hw) (k_X5_67 hts ⟨Nat.le_of_ble_eq_true rfl, Nat.le_of_ble_eq_true rfl⟩) (w_recv hK hW HB.1 (hX 0 (by decide)) rfl rfl) rfl rfl (Nat.le_of_ble_eq_true rfl) dX5_line_90 ⟨Nat.zero_le _, Nat.zero_le _⟩ (fun r_13 Ez H locs hw2 hW hS => ?_)
              obtain ⟨ez, hw⟩ := hw2
              rw [ez] at hW
              exact w_iret hx hb hr hlocks hW hS ⟨rfl, hw⟩ dX5_line_93
            · have hw := hw.2 c_12
              by_cases c_14 : p2 = 5
              · have hw := hw.1 c_14
                refine lv_tableIn (tgt := 94) hx hb dX5_line_10 (by rw [c_14]; decide) (by rw [c_14]; decide) (by rw [c_14] <;> rfl) (by decide) ?_
                refine lv_aload_n hx hb dX5_line_94 rfl (lv_at hl 0 rfl) ?_
                refine lv_iload_n hx hb dX5_line_95 rfl (lv_at hl 1 rfl) ?_
                refine lv_iconst (v := 2) hx hb dX5_line_96 (by decide) ?_
                refine w_cvi (As := [.int p1, .int 2]) (rest := []) hx hb hml hown hts hK hW hS hl.1 (c_X5_of hA HB hX  hw) (k_X5_67 hts ⟨Nat.le_of_ble_eq_true rfl, Nat.le_of_ble_eq_true rfl⟩) (w_recv hK hW HB.1 (hX 0 (by decide)) rfl rfl) rfl rfl (Nat.le_of_ble_eq_true rfl) dX5_line_97 ⟨Nat.zero_le _, Nat.zero_le _⟩ (fun r_15 Ez H locs hw2 hW hS => ?_)
                obtain ⟨ez, hw⟩ := hw2
                rw [ez] at hW
                exact w_iret hx hb hr hlocks hW hS ⟨rfl, hw⟩ dX5_line_100
              · have hw := hw.2 c_14
                by_cases c_16 : p2 = 6
                · have hw := hw.1 c_16
                  refine lv_tableIn (tgt := 101) hx hb dX5_line_10 (by rw [c_16]; decide) (by rw [c_16]; decide) (by rw [c_16] <;> rfl) (by decide) ?_
                  refine lv_aload_n hx hb dX5_line_101 rfl (lv_at hl 0 rfl) ?_
                  refine lv_iload_n hx hb dX5_line_102 rfl (lv_at hl 1 rfl) ?_
                  refine lv_iconst (v := 3) hx hb dX5_line_103 (by decide) ?_
                  refine w_cvi (As := [.int p1, .int 3]) (rest := []) hx hb hml hown hts hK hW hS hl.1 (c_X5_of hA HB hX  hw) (k_X5_67 hts ⟨Nat.le_of_ble_eq_true rfl, Nat.le_of_ble_eq_true rfl⟩) (w_recv hK hW HB.1 (hX 0 (by decide)) rfl rfl) rfl rfl (Nat.le_of_ble_eq_true rfl) dX5_line_104 ⟨Nat.zero_le _, Nat.zero_le _⟩ (fun r_17 Ez H locs hw2 hW hS => ?_)
                  obtain ⟨ez, hw⟩ := hw2
                  rw [ez] at hW
                  exact w_iret hx hb hr hlocks hW hS ⟨rfl, hw⟩ dX5_line_107
                · have hw := hw.2 c_16
                  by_cases c_18 : p2 = 7
                  · have hw := hw.1 c_18
                    refine lv_tableIn (tgt := 108) hx hb dX5_line_10 (by rw [c_18]; decide) (by rw [c_18]; decide) (by rw [c_18] <;> rfl) (by decide) ?_
                    refine lv_aload_n hx hb dX5_line_108 rfl (lv_at hl 0 rfl) ?_
                    refine lv_iload_n hx hb dX5_line_109 rfl (lv_at hl 1 rfl) ?_
                    refine w_cvi (As := [.int p1]) (rest := []) hx hb hml hown hts hK hW hS hl.1 (c_X5_placeOf hA HB hX  hw) (k_X5_149 hts ⟨Nat.le_of_ble_eq_true rfl, Nat.le_of_ble_eq_true rfl⟩) (w_recv hK hW HB.1 (hX 0 (by decide)) rfl rfl) rfl rfl (Nat.le_of_ble_eq_true rfl) dX5_line_110 ⟨Nat.zero_le _, Nat.zero_le _⟩ (fun r_19 Ez H locs hw2 hW hS => ?_)
                    obtain ⟨ez, hw⟩ := hw2
                    rw [ez] at hW
                    exact w_iret hx hb hr hlocks hW hS ⟨rfl, hw⟩ dX5_line_113
                  · have hw := hw.2 c_18
                    by_cases c_20 : p2 = 8
                    · have hw := hw.1 c_20
                      refine lv_tableIn (tgt := 114) hx hb dX5_line_10 (by rw [c_20]; decide) (by rw [c_20]; decide) (by rw [c_20] <;> rfl) (by decide) ?_
                      refine lv_aload_n hx hb dX5_line_114 rfl (lv_at hl 0 rfl) ?_
                      refine lv_iload_n hx hb dX5_line_115 rfl (lv_at hl 1 rfl) ?_
                      refine lv_iconst (v := 0) hx hb dX5_line_116 (by decide) ?_
                      refine w_cvi (As := [.int p1, .int 0]) (rest := []) hx hb hml hown hts hK hW hS hl.1 (c_X5_of hA HB hX  hw) (k_X5_67 hts ⟨Nat.le_of_ble_eq_true rfl, Nat.le_of_ble_eq_true rfl⟩) (w_recv hK hW HB.1 (hX 0 (by decide)) rfl rfl) rfl rfl (Nat.le_of_ble_eq_true rfl) dX5_line_117 ⟨Nat.zero_le _, Nat.zero_le _⟩ (fun r_21 Ez H locs hw2 hW hS => ?_)
                      obtain ⟨ez, hw⟩ := hw2
                      rw [ez] at hW
                      refine lv_bipush (v := 10) hx hb dX5_line_120 (by decide) ?_
                      refine lv_icmp_ne (tgt := 134) hx hb dX5_line_122 (by decide) (fun c_22 => ?_) (fun c_22 => ?_)
                      · have hw := hw.2 c_22
                        refine lv_iconst (v := 0) hx hb dX5_line_134 (by decide) ?_
                        exact w_iret hx hb hr hlocks hW hS ⟨rfl, hw⟩ dX5_line_135
                      · have hw := hw.1 c_22
                        refine lv_aload_n hx hb dX5_line_125 rfl (lv_at hl 0 rfl) ?_
                        refine lv_iload_n hx hb dX5_line_126 rfl (lv_at hl 1 rfl) ?_
                        refine lv_iconst (v := 5) hx hb dX5_line_127 (by decide) ?_
                        refine w_cvi (As := [.int p1, .int 5]) (rest := []) hx hb hml hown hts hK hW hS hl.1 (c_X5_of hA HB hX  hw) (k_X5_67 hts ⟨Nat.le_of_ble_eq_true rfl, Nat.le_of_ble_eq_true rfl⟩) (w_recv hK hW HB.1 (hX 0 (by decide)) rfl rfl) rfl rfl (Nat.le_of_ble_eq_true rfl) dX5_line_128 ⟨Nat.zero_le _, Nat.zero_le _⟩ (fun r_23 Ez H locs hw2 hW hS => ?_)
                        obtain ⟨ez, hw⟩ := hw2
                        rw [ez] at hW
                        refine lv_goto (tgt := 135) hx hb dX5_line_131 (by decide) ?_
                        exact w_iret hx hb hr hlocks hW hS ⟨rfl, hw⟩ dX5_line_135
                    · have hw := hw.2 c_20
                      refine lv_tableOut (tgt := 136) hx hb dX5_line_10 (by have zc_4 := lv_neT (a := 0) c_4 rfl; have zc_6 := lv_neT (a := 1) c_6 rfl; have zc_8 := lv_neT (a := 2) c_8 rfl; have zc_10 := lv_neT (a := 3) c_10 rfl; have zc_12 := lv_neT (a := 4) c_12 rfl; have zc_14 := lv_neT (a := 5) c_14 rfl; have zc_16 := lv_neT (a := 6) c_16 rfl; have zc_18 := lv_neT (a := 7) c_18 rfl; have zc_20 := lv_neT (a := 8) c_20 rfl; omega) (by decide) ?_
                      refine lv_bipush (v := (-2)) hx hb dX5_line_136 (by decide) ?_
                      exact w_iret hx hb hr hlocks hW hS ⟨rfl, hw⟩ dX5_line_138
  · have hw := hw.1 c_3
    refine lv_iconst (v := (-1)) hx hb dX5_line_7 (by decide) ?_
    exact w_iret hx hb hr hlocks hW hS ⟨rfl, hw⟩ dX5_line_8
set_option maxHeartbeats 4000000 in
set_option maxRecDepth 100000 in
theorem c_X5_showsTimer {l : Launch} {g : GG} {lay : LY} {E0 : ES} {o : Nat} {X : ES} {p1 : Int32} {K : Int32 → Prop} (hA : okL g lay) (HB : ML g lay o) (hX : ∀ k, k < 7 → E0 (o + k) = X k) (hw : wp_X5_showsTimer X p1 K) : JMi l g lay yX5_showsTimer wsX5_showsTimer rmX5_showsTimer [.ref o, .int p1] E0 (fun r E1 => E1 = E0 ∧ (r = 0 ∨ r = 1) ∧ K r) := by
  refine Met.ofW (cc := cX5_showsTimer) (maxL := 2) (ret := (some .boolean)) (by decide) rfl ?_
  intro p e s m args below meth c s₁ B hml hv
  obtain ⟨rfl, hK, hW⟩ := hv
  have hx := B.exec
  have hb := B.bytes
  have hr := B.returns
  have hts := gd_of (atoms_spec (ws := wsX5_showsTimer) B.pre)
  have hown : s.vm.findClass RX5 = some m.cls := findClass_of_methodNamed B.named
  have hlocks := B.notSynchronized
  have hS : va_S (Ab g) s.heap s.heap [] := va_S.rf
  have hl := lv_entry [.ref o, .int p1] (n := 2) (Nat.le_of_ble_eq_true rfl)
  rw [lg_entry_eq]
  generalize (lg_sl [.ref o, .int p1] ++ List.replicate (2 - (lg_sl [.ref o, .int p1]).length) Slot.unset).toArray = ls at hl ⊢
  have hl : lv_has ls 2 [(0, .ref o), (1, .int p1)] := hl
  unfold wp_X5_showsTimer at hw
  refine lv_iload_n hx hb dX5_showsTimer_0 rfl (lv_at hl 1 rfl) ?_
  refine lv_iconst (v := 2) hx hb dX5_showsTimer_1 (by decide) ?_
  refine lv_icmp_eq (tgt := 21) hx hb dX5_showsTimer_2 (by decide) (fun c_1 => ?_) (fun c_1 => ?_)
  · have hw := hw.1 c_1
    refine lv_iconst (v := 1) hx hb dX5_showsTimer_21 (by decide) ?_
    refine lv_goto (tgt := 26) hx hb dX5_showsTimer_22 (by decide) ?_
    exact w_zret hx hb hr hlocks hW hS (Or.inr rfl) ⟨rfl, (Or.inr rfl), hw⟩ dX5_showsTimer_26
  · have hw := hw.2 c_1
    refine lv_iload_n hx hb dX5_showsTimer_5 rfl (lv_at hl 1 rfl) ?_
    refine lv_iconst (v := 5) hx hb dX5_showsTimer_6 (by decide) ?_
    refine lv_icmp_eq (tgt := 21) hx hb dX5_showsTimer_7 (by decide) (fun c_2 => ?_) (fun c_2 => ?_)
    · have hw := hw.1 c_2
      refine lv_iconst (v := 1) hx hb dX5_showsTimer_21 (by decide) ?_
      refine lv_goto (tgt := 26) hx hb dX5_showsTimer_22 (by decide) ?_
      exact w_zret hx hb hr hlocks hW hS (Or.inr rfl) ⟨rfl, (Or.inr rfl), hw⟩ dX5_showsTimer_26
    · have hw := hw.2 c_2
      refine lv_iload_n hx hb dX5_showsTimer_10 rfl (lv_at hl 1 rfl) ?_
      refine lv_bipush (v := 7) hx hb dX5_showsTimer_11 (by decide) ?_
      refine lv_bipush (v := 9) hx hb dX5_showsTimer_13 (by decide) ?_
      refine w_csi (As := [.int p1, .int 7, .int 9]) (rest := []) hx hb hml hown hts hK hW hS hl.1 (c_X5_in hw) (k_X5_33 hts ⟨Nat.le_of_ble_eq_true rfl, Nat.le_of_ble_eq_true rfl⟩) rfl rfl (Nat.le_of_ble_eq_true rfl) dX5_showsTimer_15 ⟨Nat.zero_le _, Nat.zero_le _⟩ (fun r_3 Ez H locs hw2 hW hS => ?_)
      obtain ⟨ez, z_4, hw⟩ := hw2
      rw [ez] at hW
      refine lv_if_eq (tgt := 25) hx hb dX5_showsTimer_18 (by decide) (fun c_5 => ?_) (fun c_5 => ?_)
      · have hw := hw.1 c_5
        refine lv_iconst (v := 0) hx hb dX5_showsTimer_25 (by decide) ?_
        exact w_zret hx hb hr hlocks hW hS (Or.inl rfl) ⟨rfl, (Or.inl rfl), hw⟩ dX5_showsTimer_26
      · have hw := hw.2 c_5
        refine lv_iconst (v := 1) hx hb dX5_showsTimer_21 (by decide) ?_
        refine lv_goto (tgt := 26) hx hb dX5_showsTimer_22 (by decide) ?_
        exact w_zret hx hb hr hlocks hW hS (Or.inr rfl) ⟨rfl, (Or.inr rfl), hw⟩ dX5_showsTimer_26
set_option maxHeartbeats 4000000 in
set_option maxRecDepth 100000 in
theorem c_X5_finder {l : Launch} {g : GG} {lay : LY} {E0 : ES} {o : Nat} {X : ES} {p1 : Int32} {p2 : Int32} {K : Int32 → Prop} (hA : okL g lay) (HB : ML g lay o) (hX : ∀ k, k < 7 → E0 (o + k) = X k) (hw : wp_X5_finder X p1 p2 K) : JMi l g lay yX5_finder wsX5_finder rmX5_finder [.ref o, .int p1, .int p2] E0 (fun r E1 => E1 = E0 ∧ K r) := by
  refine Met.ofW (cc := cX5_finder) (maxL := 4) (ret := (some .int)) (by decide) rfl ?_
  intro p e s m args below meth c s₁ B hml hv
  obtain ⟨rfl, hK, hW⟩ := hv
  have hx := B.exec
  have hb := B.bytes
  have hr := B.returns
  have hts := gd_of (atoms_spec (ws := wsX5_finder) B.pre)
  have hown : s.vm.findClass RX5 = some m.cls := findClass_of_methodNamed B.named
  have hlocks := B.notSynchronized
  have hS : va_S (Ab g) s.heap s.heap [] := va_S.rf
  have hl := lv_entry [.ref o, .int p1, .int p2] (n := 4) (Nat.le_of_ble_eq_true rfl)
  rw [lg_entry_eq]
  generalize (lg_sl [.ref o, .int p1, .int p2] ++ List.replicate (4 - (lg_sl [.ref o, .int p1, .int p2]).length) Slot.unset).toArray = ls at hl ⊢
  have hl : lv_has ls 4 [(0, .ref o), (1, .int p1), (2, .int p2)] := hl
  unfold wp_X5_finder at hw
  refine lv_aload_n hx hb dX5_finder_0 rfl (lv_at hl 0 rfl) ?_
  refine lv_iload_n hx hb dX5_finder_1 rfl (lv_at hl 1 rfl) ?_
  refine w_cvi (As := [.int p1]) (rest := []) hx hb hml hown hts hK hW hS hl.1 (c_X5_isFinder hA HB hX  hw) (k_X5_152 hts ⟨Nat.le_of_ble_eq_true rfl, Nat.le_of_ble_eq_true rfl⟩) (w_recv hK hW HB.1 (hX 0 (by decide)) rfl rfl) rfl rfl (Nat.le_of_ble_eq_true rfl) dX5_finder_2 ⟨Nat.zero_le _, Nat.zero_le _⟩ (fun r_1 Ez H locs hw2 hW hS => ?_)
  obtain ⟨ez, z_2, hw⟩ := hw2
  rw [ez] at hW
  refine lv_if_ne (tgt := 10) hx hb dX5_finder_5 (by decide) (fun c_3 => ?_) (fun c_3 => ?_)
  · have hw := hw.2 c_3
    refine lv_aload_n hx hb dX5_finder_10 rfl (lv_at hl 0 rfl) ?_
    refine lv_iload_n hx hb dX5_finder_11 rfl (lv_at hl 1 rfl) ?_
    refine lv_iconst (v := 0) hx hb dX5_finder_12 (by decide) ?_
    refine w_cvi (As := [.int p1, .int 0]) (rest := []) hx hb hml hown hts hK hW hS hl.1 (c_X5_ofFinder hA HB hX  hw) (k_X5_41 hts ⟨Nat.le_of_ble_eq_true rfl, Nat.le_of_ble_eq_true rfl⟩) (w_recv hK hW HB.1 (hX 0 (by decide)) rfl rfl) rfl rfl (Nat.le_of_ble_eq_true rfl) dX5_finder_13 ⟨Nat.zero_le _, Nat.zero_le _⟩ (fun r_4 Ez H locs hw2 hW hS => ?_)
    obtain ⟨ez, hw⟩ := hw2
    rw [ez] at hW
    refine lv_istore_n (lv' := [(3, .int r_4), (0, .ref o), (1, .int p1), (2, .int p2)]) hx hb dX5_finder_16 rfl hl (by decide) rfl (fun ls hl => ?_)
    refine lv_iload_n hx hb dX5_finder_17 rfl (lv_at hl 3 rfl) ?_
    by_cases c_5 : p2 = 0
    · have hw := hw.1 c_5
      refine lv_tableIn (tgt := 64) hx hb dX5_finder_18 (by rw [c_5]; decide) (by rw [c_5]; decide) (by rw [c_5] <;> rfl) (by decide) ?_
      refine lv_iload_n hx hb dX5_finder_64 rfl (lv_at hl 0 rfl) ?_
      exact w_iret hx hb hr hlocks hW hS ⟨rfl, hw⟩ dX5_finder_65
    · have hw := hw.2 c_5
      by_cases c_6 : p2 = 1
      · have hw := hw.1 c_6
        refine lv_tableIn (tgt := 66) hx hb dX5_finder_18 (by rw [c_6]; decide) (by rw [c_6]; decide) (by rw [c_6] <;> rfl) (by decide) ?_
        refine lv_aload_n hx hb dX5_finder_66 rfl (lv_at hl 1 rfl) ?_
        refine lv_iload_n hx hb dX5_finder_67 rfl (lv_at hl 2 rfl) ?_
        refine lv_iconst (v := 1) hx hb dX5_finder_68 (by decide) ?_
        refine w_cvi (As := [.int p1, .int 1]) (rest := []) hx hb hml hown hts hK hW hS hl.1 (c_X5_ofFinder hA HB hX  hw) (k_X5_41 hts ⟨Nat.le_of_ble_eq_true rfl, Nat.le_of_ble_eq_true rfl⟩) (w_recv hK hW HB.1 (hX 0 (by decide)) rfl rfl) rfl rfl (Nat.le_of_ble_eq_true rfl) dX5_finder_69 ⟨Nat.zero_le _, Nat.zero_le _⟩ (fun r_7 Ez H locs hw2 hW hS => ?_)
        obtain ⟨ez, hw⟩ := hw2
        rw [ez] at hW
        exact w_iret hx hb hr hlocks hW hS ⟨rfl, hw⟩ dX5_finder_72
      · have hw := hw.2 c_6
        by_cases c_8 : p2 = 2
        · have hw := hw.1 c_8
          refine lv_tableIn (tgt := 73) hx hb dX5_finder_18 (by rw [c_8]; decide) (by rw [c_8]; decide) (by rw [c_8] <;> rfl) (by decide) ?_
          refine lv_aload_n hx hb dX5_finder_73 rfl (lv_at hl 1 rfl) ?_
          refine lv_iload_n hx hb dX5_finder_74 rfl (lv_at hl 2 rfl) ?_
          refine lv_iconst (v := 2) hx hb dX5_finder_75 (by decide) ?_
          refine w_cvi (As := [.int p1, .int 2]) (rest := []) hx hb hml hown hts hK hW hS hl.1 (c_X5_ofFinder hA HB hX  hw) (k_X5_41 hts ⟨Nat.le_of_ble_eq_true rfl, Nat.le_of_ble_eq_true rfl⟩) (w_recv hK hW HB.1 (hX 0 (by decide)) rfl rfl) rfl rfl (Nat.le_of_ble_eq_true rfl) dX5_finder_76 ⟨Nat.zero_le _, Nat.zero_le _⟩ (fun r_9 Ez H locs hw2 hW hS => ?_)
          obtain ⟨ez, hw⟩ := hw2
          rw [ez] at hW
          exact w_iret hx hb hr hlocks hW hS ⟨rfl, hw⟩ dX5_finder_79
        · have hw := hw.2 c_8
          by_cases c_10 : p2 = 3
          · have hw := hw.1 c_10
            refine lv_tableIn (tgt := 80) hx hb dX5_finder_18 (by rw [c_10]; decide) (by rw [c_10]; decide) (by rw [c_10] <;> rfl) (by decide) ?_
            refine lv_aload_n hx hb dX5_finder_80 rfl (lv_at hl 1 rfl) ?_
            refine lv_iload_n hx hb dX5_finder_81 rfl (lv_at hl 2 rfl) ?_
            refine lv_iconst (v := 3) hx hb dX5_finder_82 (by decide) ?_
            refine w_cvi (As := [.int p1, .int 3]) (rest := []) hx hb hml hown hts hK hW hS hl.1 (c_X5_ofFinder hA HB hX  hw) (k_X5_41 hts ⟨Nat.le_of_ble_eq_true rfl, Nat.le_of_ble_eq_true rfl⟩) (w_recv hK hW HB.1 (hX 0 (by decide)) rfl rfl) rfl rfl (Nat.le_of_ble_eq_true rfl) dX5_finder_83 ⟨Nat.zero_le _, Nat.zero_le _⟩ (fun r_11 Ez H locs hw2 hW hS => ?_)
            obtain ⟨ez, hw⟩ := hw2
            rw [ez] at hW
            exact w_iret hx hb hr hlocks hW hS ⟨rfl, hw⟩ dX5_finder_86
          · have hw := hw.2 c_10
            by_cases c_12 : p2 = 4
            · have hw := hw.1 c_12
              refine lv_tableIn (tgt := 87) hx hb dX5_finder_18 (by rw [c_12]; decide) (by rw [c_12]; decide) (by rw [c_12] <;> rfl) (by decide) ?_
              refine lv_iload_n hx hb dX5_finder_87 rfl (lv_at hl 0 rfl) ?_
              refine lv_iconst (v := 4) hx hb dX5_finder_88 (by decide) ?_
              refine lv_icmp_eq (tgt := 100) hx hb dX5_finder_89 (by decide) (fun c_13 => ?_) (fun c_13 => ?_)
              · have hw := hw.1 c_13
                refine lv_aload_n hx hb dX5_finder_100 rfl (lv_at hl 1 rfl) ?_
                refine lv_iload_n hx hb dX5_finder_101 rfl (lv_at hl 2 rfl) ?_
                refine lv_iconst (v := 4) hx hb dX5_finder_102 (by decide) ?_
                refine w_cvi (As := [.int p1, .int 4]) (rest := []) hx hb hml hown hts hK hW hS hl.1 (c_X5_ofFinder hA HB hX  hw) (k_X5_41 hts ⟨Nat.le_of_ble_eq_true rfl, Nat.le_of_ble_eq_true rfl⟩) (w_recv hK hW HB.1 (hX 0 (by decide)) rfl rfl) rfl rfl (Nat.le_of_ble_eq_true rfl) dX5_finder_103 ⟨Nat.zero_le _, Nat.zero_le _⟩ (fun r_14 Ez H locs hw2 hW hS => ?_)
                obtain ⟨ez, hw⟩ := hw2
                rw [ez] at hW
                refine lv_goto (tgt := 111) hx hb dX5_finder_106 (by decide) ?_
                exact w_iret hx hb hr hlocks hW hS ⟨rfl, hw⟩ dX5_finder_111
              · have hw := hw.2 c_13
                refine lv_aload_n hx hb dX5_finder_92 rfl (lv_at hl 1 rfl) ?_
                refine lv_iload_n hx hb dX5_finder_93 rfl (lv_at hl 2 rfl) ?_
                refine w_cvi (As := [.int p1]) (rest := []) hx hb hml hown hts hK hW hS hl.1 (c_X5_isHolding hA HB hX  hw) (k_X5_57 hts ⟨Nat.le_of_ble_eq_true rfl, Nat.le_of_ble_eq_true rfl⟩) (w_recv hK hW HB.1 (hX 0 (by decide)) rfl rfl) rfl rfl (Nat.le_of_ble_eq_true rfl) dX5_finder_94 ⟨Nat.zero_le _, Nat.zero_le _⟩ (fun r_15 Ez H locs hw2 hW hS => ?_)
                obtain ⟨ez, z_16, hw⟩ := hw2
                rw [ez] at hW
                refine lv_if_eq (tgt := 109) hx hb dX5_finder_97 (by decide) (fun c_17 => ?_) (fun c_17 => ?_)
                · have hw := hw.1 c_17
                  refine lv_bipush (v := (-6)) hx hb dX5_finder_109 (by decide) ?_
                  exact w_iret hx hb hr hlocks hW hS ⟨rfl, hw⟩ dX5_finder_111
                · have hw := hw.2 c_17
                  refine lv_aload_n hx hb dX5_finder_100 rfl (lv_at hl 1 rfl) ?_
                  refine lv_iload_n hx hb dX5_finder_101 rfl (lv_at hl 2 rfl) ?_
                  refine lv_iconst (v := 4) hx hb dX5_finder_102 (by decide) ?_
                  refine w_cvi (As := [.int p1, .int 4]) (rest := []) hx hb hml hown hts hK hW hS hl.1 (c_X5_ofFinder hA HB hX  hw) (k_X5_41 hts ⟨Nat.le_of_ble_eq_true rfl, Nat.le_of_ble_eq_true rfl⟩) (w_recv hK hW HB.1 (hX 0 (by decide)) rfl rfl) rfl rfl (Nat.le_of_ble_eq_true rfl) dX5_finder_103 ⟨Nat.zero_le _, Nat.zero_le _⟩ (fun r_18 Ez H locs hw2 hW hS => ?_)
                  obtain ⟨ez, hw⟩ := hw2
                  rw [ez] at hW
                  refine lv_goto (tgt := 111) hx hb dX5_finder_106 (by decide) ?_
                  exact w_iret hx hb hr hlocks hW hS ⟨rfl, hw⟩ dX5_finder_111
            · have hw := hw.2 c_12
              by_cases c_19 : p2 = 5
              · have hw := hw.1 c_19
                refine lv_tableIn (tgt := 112) hx hb dX5_finder_18 (by rw [c_19]; decide) (by rw [c_19]; decide) (by rw [c_19] <;> rfl) (by decide) ?_
                refine lv_iload_n hx hb dX5_finder_112 rfl (lv_at hl 0 rfl) ?_
                refine lv_iconst (v := 3) hx hb dX5_finder_113 (by decide) ?_
                refine lv_icmp_eq (tgt := 123) hx hb dX5_finder_114 (by decide) (fun c_20 => ?_) (fun c_20 => ?_)
                · have hw := hw.1 c_20
                  refine lv_aload_n hx hb dX5_finder_123 rfl (lv_at hl 1 rfl) ?_
                  refine lv_iload_n hx hb dX5_finder_124 rfl (lv_at hl 2 rfl) ?_
                  refine lv_iconst (v := 5) hx hb dX5_finder_125 (by decide) ?_
                  refine w_cvi (As := [.int p1, .int 5]) (rest := []) hx hb hml hown hts hK hW hS hl.1 (c_X5_ofFinder hA HB hX  hw) (k_X5_41 hts ⟨Nat.le_of_ble_eq_true rfl, Nat.le_of_ble_eq_true rfl⟩) (w_recv hK hW HB.1 (hX 0 (by decide)) rfl rfl) rfl rfl (Nat.le_of_ble_eq_true rfl) dX5_finder_126 ⟨Nat.zero_le _, Nat.zero_le _⟩ (fun r_21 Ez H locs hw2 hW hS => ?_)
                  obtain ⟨ez, hw⟩ := hw2
                  rw [ez] at hW
                  refine lv_goto (tgt := 133) hx hb dX5_finder_129 (by decide) ?_
                  exact w_iret hx hb hr hlocks hW hS ⟨rfl, hw⟩ dX5_finder_133
                · have hw := hw.2 c_20
                  refine lv_iload_n hx hb dX5_finder_117 rfl (lv_at hl 0 rfl) ?_
                  refine lv_bipush (v := 6) hx hb dX5_finder_118 (by decide) ?_
                  refine lv_icmp_ne (tgt := 132) hx hb dX5_finder_120 (by decide) (fun c_22 => ?_) (fun c_22 => ?_)
                  · have hw := hw.2 c_22
                    refine lv_iconst (v := 0) hx hb dX5_finder_132 (by decide) ?_
                    exact w_iret hx hb hr hlocks hW hS ⟨rfl, hw⟩ dX5_finder_133
                  · have hw := hw.1 c_22
                    refine lv_aload_n hx hb dX5_finder_123 rfl (lv_at hl 1 rfl) ?_
                    refine lv_iload_n hx hb dX5_finder_124 rfl (lv_at hl 2 rfl) ?_
                    refine lv_iconst (v := 5) hx hb dX5_finder_125 (by decide) ?_
                    refine w_cvi (As := [.int p1, .int 5]) (rest := []) hx hb hml hown hts hK hW hS hl.1 (c_X5_ofFinder hA HB hX  hw) (k_X5_41 hts ⟨Nat.le_of_ble_eq_true rfl, Nat.le_of_ble_eq_true rfl⟩) (w_recv hK hW HB.1 (hX 0 (by decide)) rfl rfl) rfl rfl (Nat.le_of_ble_eq_true rfl) dX5_finder_126 ⟨Nat.zero_le _, Nat.zero_le _⟩ (fun r_23 Ez H locs hw2 hW hS => ?_)
                    obtain ⟨ez, hw⟩ := hw2
                    rw [ez] at hW
                    refine lv_goto (tgt := 133) hx hb dX5_finder_129 (by decide) ?_
                    exact w_iret hx hb hr hlocks hW hS ⟨rfl, hw⟩ dX5_finder_133
              · have hw := hw.2 c_19
                by_cases c_24 : p2 = 6
                · have hw := hw.1 c_24
                  refine lv_tableIn (tgt := 134) hx hb dX5_finder_18 (by rw [c_24]; decide) (by rw [c_24]; decide) (by rw [c_24] <;> rfl) (by decide) ?_
                  refine lv_aload_n hx hb dX5_finder_134 rfl (lv_at hl 1 rfl) ?_
                  refine lv_iload_n hx hb dX5_finder_135 rfl (lv_at hl 0 rfl) ?_
                  refine w_cvi (As := [.int r_4]) (rest := []) hx hb hml hown hts hK hW hS hl.1 (c_X5_showsTimer hA HB hX  hw) (k_X5_155 hts ⟨Nat.le_of_ble_eq_true rfl, Nat.le_of_ble_eq_true rfl⟩) (w_recv hK hW HB.1 (hX 0 (by decide)) rfl rfl) rfl rfl (Nat.le_of_ble_eq_true rfl) dX5_finder_136 ⟨Nat.zero_le _, Nat.zero_le _⟩ (fun r_25 Ez H locs hw2 hW hS => ?_)
                  obtain ⟨ez, z_26, hw⟩ := hw2
                  rw [ez] at hW
                  refine lv_if_eq (tgt := 152) hx hb dX5_finder_139 (by decide) (fun c_27 => ?_) (fun c_27 => ?_)
                  · have hw := hw.1 c_27
                    refine lv_iconst (v := 0) hx hb dX5_finder_152 (by decide) ?_
                    exact w_iret hx hb hr hlocks hW hS ⟨rfl, hw⟩ dX5_finder_153
                  · have hw := hw.2 c_27
                    refine lv_aload_n hx hb dX5_finder_142 rfl (lv_at hl 1 rfl) ?_
                    refine lv_iload_n hx hb dX5_finder_143 rfl (lv_at hl 2 rfl) ?_
                    refine lv_bipush (v := 7) hx hb dX5_finder_144 (by decide) ?_
                    refine w_cvi (As := [.int p1, .int 7]) (rest := []) hx hb hml hown hts hK hW hS hl.1 (c_X5_ofFinder hA HB hX  hw) (k_X5_41 hts ⟨Nat.le_of_ble_eq_true rfl, Nat.le_of_ble_eq_true rfl⟩) (w_recv hK hW HB.1 (hX 0 (by decide)) rfl rfl) rfl rfl (Nat.le_of_ble_eq_true rfl) dX5_finder_146 ⟨Nat.zero_le _, Nat.zero_le _⟩ (fun r_28 Ez H locs hw2 hW hS => ?_)
                    obtain ⟨ez, hw⟩ := hw2
                    rw [ez] at hW
                    refine lv_goto (tgt := 153) hx hb dX5_finder_149 (by decide) ?_
                    exact w_iret hx hb hr hlocks hW hS ⟨rfl, hw⟩ dX5_finder_153
                · have hw := hw.2 c_24
                  by_cases c_29 : p2 = 7
                  · have hw := hw.1 c_29
                    refine lv_tableIn (tgt := 154) hx hb dX5_finder_18 (by rw [c_29]; decide) (by rw [c_29]; decide) (by rw [c_29] <;> rfl) (by decide) ?_
                    refine lv_iload_n hx hb dX5_finder_154 rfl (lv_at hl 0 rfl) ?_
                    refine lv_bipush (v := 8) hx hb dX5_finder_155 (by decide) ?_
                    refine lv_icmp_ne (tgt := 170) hx hb dX5_finder_157 (by decide) (fun c_30 => ?_) (fun c_30 => ?_)
                    · have hw := hw.2 c_30
                      refine lv_iconst (v := 0) hx hb dX5_finder_170 (by decide) ?_
                      exact w_iret hx hb hr hlocks hW hS ⟨rfl, hw⟩ dX5_finder_171
                    · have hw := hw.1 c_30
                      refine lv_aload_n hx hb dX5_finder_160 rfl (lv_at hl 1 rfl) ?_
                      refine lv_iload_n hx hb dX5_finder_161 rfl (lv_at hl 2 rfl) ?_
                      refine lv_bipush (v := 8) hx hb dX5_finder_162 (by decide) ?_
                      refine w_cvi (As := [.int p1, .int 8]) (rest := []) hx hb hml hown hts hK hW hS hl.1 (c_X5_ofFinder hA HB hX  hw) (k_X5_41 hts ⟨Nat.le_of_ble_eq_true rfl, Nat.le_of_ble_eq_true rfl⟩) (w_recv hK hW HB.1 (hX 0 (by decide)) rfl rfl) rfl rfl (Nat.le_of_ble_eq_true rfl) dX5_finder_164 ⟨Nat.zero_le _, Nat.zero_le _⟩ (fun r_31 Ez H locs hw2 hW hS => ?_)
                      obtain ⟨ez, hw⟩ := hw2
                      rw [ez] at hW
                      refine lv_goto (tgt := 171) hx hb dX5_finder_167 (by decide) ?_
                      exact w_iret hx hb hr hlocks hW hS ⟨rfl, hw⟩ dX5_finder_171
                  · have hw := hw.2 c_29
                    refine lv_tableOut (tgt := 172) hx hb dX5_finder_18 (by have zc_5 := lv_neT (a := 0) c_5 rfl; have zc_6 := lv_neT (a := 1) c_6 rfl; have zc_8 := lv_neT (a := 2) c_8 rfl; have zc_10 := lv_neT (a := 3) c_10 rfl; have zc_12 := lv_neT (a := 4) c_12 rfl; have zc_19 := lv_neT (a := 5) c_19 rfl; have zc_24 := lv_neT (a := 6) c_24 rfl; have zc_29 := lv_neT (a := 7) c_29 rfl; omega) (by decide) ?_
                    refine lv_bipush (v := (-2)) hx hb dX5_finder_172 (by decide) ?_
                    exact w_iret hx hb hr hlocks hW hS ⟨rfl, hw⟩ dX5_finder_174
  · have hw := hw.1 c_3
    refine lv_iconst (v := (-1)) hx hb dX5_finder_8 (by decide) ?_
    exact w_iret hx hb hr hlocks hW hS ⟨rfl, hw⟩ dX5_finder_9
set_option maxHeartbeats 4000000 in
set_option maxRecDepth 100000 in
theorem c_X5_connector {l : Launch} {g : GG} {lay : LY} {E0 : ES} {o : Nat} {X : ES} {p1 : Int32} {p2 : Int32} {K : Int32 → Prop} (hA : okL g lay) (HB : ML g lay o) (hX : ∀ k, k < 7 → E0 (o + k) = X k) (hw : wp_X5_connector X p1 p2 K) : JMi l g lay yX5_connector wsX5_connector rmX5_connector [.ref o, .int p1, .int p2] E0 (fun r E1 => E1 = E0 ∧ K r) := by
  refine Met.ofW (cc := cX5_connector) (maxL := 3) (ret := (some .int)) (by decide) rfl ?_
  intro p e s m args below meth c s₁ B hml hv
  obtain ⟨rfl, hK, hW⟩ := hv
  have hx := B.exec
  have hb := B.bytes
  have hr := B.returns
  have hts := gd_of (atoms_spec (ws := wsX5_connector) B.pre)
  have hown : s.vm.findClass RX5 = some m.cls := findClass_of_methodNamed B.named
  have hlocks := B.notSynchronized
  have hS : va_S (Ab g) s.heap s.heap [] := va_S.rf
  have hl := lv_entry [.ref o, .int p1, .int p2] (n := 3) (Nat.le_of_ble_eq_true rfl)
  rw [lg_entry_eq]
  generalize (lg_sl [.ref o, .int p1, .int p2] ++ List.replicate (3 - (lg_sl [.ref o, .int p1, .int p2]).length) Slot.unset).toArray = ls at hl ⊢
  have hl : lv_has ls 3 [(0, .ref o), (1, .int p1), (2, .int p2)] := hl
  unfold wp_X5_connector at hw
  refine lv_iload_n hx hb dX5_connector_0 rfl (lv_at hl 1 rfl) ?_
  refine lv_iconst (v := 1) hx hb dX5_connector_1 (by decide) ?_
  refine lv_iconst (v := 4) hx hb dX5_connector_2 (by decide) ?_
  refine w_csi (As := [.int p1, .int 1, .int 4]) (rest := []) hx hb hml hown hts hK hW hS hl.1 (c_X5_in hw) (k_X5_33 hts ⟨Nat.le_of_ble_eq_true rfl, Nat.le_of_ble_eq_true rfl⟩) rfl rfl (Nat.le_of_ble_eq_true rfl) dX5_connector_3 ⟨Nat.zero_le _, Nat.zero_le _⟩ (fun r_1 Ez H locs hw2 hW hS => ?_)
  obtain ⟨ez, z_2, hw⟩ := hw2
  rw [ez] at hW
  refine lv_if_eq (tgt := 34) hx hb dX5_connector_6 (by decide) (fun c_3 => ?_) (fun c_3 => ?_)
  · have hw := hw.1 c_3
    refine lv_iconst (v := (-1)) hx hb dX5_connector_34 (by decide) ?_
    exact w_iret hx hb hr hlocks hW hS ⟨rfl, hw⟩ dX5_connector_35
  · have hw := hw.2 c_3
    refine lv_iload_n hx hb dX5_connector_9 rfl (lv_at hl 2 rfl) ?_
    refine lv_iconst (v := 0) hx hb dX5_connector_10 (by decide) ?_
    refine lv_aload_n hx hb dX5_connector_11 rfl (lv_at hl 0 rfl) ?_
    refine g_X5_7 hx hb hown hts hK hW HB.1 (hX 0 (by decide)) dX5_connector_12 ?_
    refine lv_iconst (v := 2) hx hb dX5_connector_15 (by decide) ?_
    obtain ⟨hin, hw⟩ := hw
    refine w_iald hx hb hK hW HB.2.1 (hX 1 (by decide)) hin dX5_connector_16 ?_
    refine lv_iconst (v := 1) hx hb dX5_connector_17 (by decide) ?_
    refine lv_isub hx hb dX5_connector_18 ?_
    refine w_csi (As := [.int p2, .int 0, .int (((X 1) (2 : Int32).toNatClampNeg) - 1)]) (rest := []) hx hb hml hown hts hK hW hS hl.1 (c_X5_in hw) (k_X5_33 hts ⟨Nat.le_of_ble_eq_true rfl, Nat.le_of_ble_eq_true rfl⟩) rfl rfl (Nat.le_of_ble_eq_true rfl) dX5_connector_19 ⟨Nat.zero_le _, Nat.zero_le _⟩ (fun r_4 Ez H locs hw2 hW hS => ?_)
    obtain ⟨ez, z_5, hw⟩ := hw2
    rw [ez] at hW
    refine lv_if_eq (tgt := 34) hx hb dX5_connector_22 (by decide) (fun c_6 => ?_) (fun c_6 => ?_)
    · have hw := hw.1 c_6
      refine lv_iconst (v := (-1)) hx hb dX5_connector_34 (by decide) ?_
      exact w_iret hx hb hr hlocks hW hS ⟨rfl, hw⟩ dX5_connector_35
    · have hw := hw.2 c_6
      refine lv_aload_n hx hb dX5_connector_25 rfl (lv_at hl 0 rfl) ?_
      refine lv_iload_n hx hb dX5_connector_26 rfl (lv_at hl 1 rfl) ?_
      refine lv_iload_n hx hb dX5_connector_27 rfl (lv_at hl 2 rfl) ?_
      refine w_cvi (As := [.int p1, .int p2]) (rest := []) hx hb hml hown hts hK hW hS hl.1 (c_X5_holder hA HB hX  hw) (k_X5_94 hts ⟨Nat.le_of_ble_eq_true rfl, Nat.le_of_ble_eq_true rfl⟩) (w_recv hK hW HB.1 (hX 0 (by decide)) rfl rfl) rfl rfl (Nat.le_of_ble_eq_true rfl) dX5_connector_28 ⟨Nat.zero_le _, Nat.zero_le _⟩ (fun r_7 Ez H locs hw2 hW hS => ?_)
      obtain ⟨ez, hw⟩ := hw2
      rw [ez] at hW
      refine lv_goto (tgt := 35) hx hb dX5_connector_31 (by decide) ?_
      exact w_iret hx hb hr hlocks hW hS ⟨rfl, hw⟩ dX5_connector_35
set_option maxHeartbeats 4000000 in
set_option maxRecDepth 100000 in
theorem c_X5_finders {l : Launch} {g : GG} {lay : LY} {E0 : ES} {o : Nat} {X : ES} {p1 : Int32} {K : Int32 → Prop} (hA : okL g lay) (HB : ML g lay o) (hX : ∀ k, k < 7 → E0 (o + k) = X k) (hw : wp_X5_finders X p1 K) : JMi l g lay yX5_finders wsX5_finders rmX5_finders [.ref o, .int p1] E0 (fun r E1 => E1 = E0 ∧ K r) := by
  refine Met.ofW (cc := cX5_finders) (maxL := 4) (ret := (some .int)) (by decide) rfl ?_
  intro p e s m args below meth c s₁ B hml hv
  obtain ⟨rfl, hK, hW⟩ := hv
  have hx := B.exec
  have hb := B.bytes
  have hr := B.returns
  have hts := gd_of (atoms_spec (ws := wsX5_finders) B.pre)
  have hown : s.vm.findClass RX5 = some m.cls := findClass_of_methodNamed B.named
  have hlocks := B.notSynchronized
  have hS : va_S (Ab g) s.heap s.heap [] := va_S.rf
  have hl := lv_entry [.ref o, .int p1] (n := 4) (Nat.le_of_ble_eq_true rfl)
  rw [lg_entry_eq]
  generalize (lg_sl [.ref o, .int p1] ++ List.replicate (4 - (lg_sl [.ref o, .int p1]).length) Slot.unset).toArray = ls at hl ⊢
  have hl : lv_has ls 4 [(0, .ref o), (1, .int p1)] := hl
  unfold wp_X5_finders at hw
  refine lv_iconst (v := 0) hx hb dX5_finders_0 (by decide) ?_
  refine lv_istore_n (lv' := [(2, .int 0), (0, .ref o), (1, .int p1)]) hx hb dX5_finders_1 rfl hl (by decide) rfl (fun ls hl => ?_)
  refine lv_iconst (v := 0) hx hb dX5_finders_2 (by decide) ?_
  refine lv_istore_n (lv' := [(3, .int 0), (2, .int 0), (0, .ref o), (1, .int p1)]) hx hb dX5_finders_3 rfl hl (by decide) rfl (fun ls hl => ?_)
  obtain ⟨n_36, hw⟩ := hw
  refine w_loop (KT := Int32 → Int32 → Prop) (σ := Int32 × Int32) (Wl := fun Kx_4 n_4 q => wpl_X5_finders_4 X p1 K Kx_4 n_4 q.1 q.2) (Pw := fun q => Wd g lay (E0)) (lvf := fun q => [(0, .ref o), (1, .int p1), (2, .int q.1), (3, .int q.2)]) (nL := 4) n_36 (0, 0) hw hW hS (lv_sub hl [2, 3, 1, 0] rfl) (fun _ h => h) (fun Kx_4 eK_4 n_4 q H locs ls hw hW hS hl ih_4 => ?_)
  obtain ⟨i_1, i_2⟩ := q
  try dsimp only at hw
  rw [wpl_X5_finders_4] at hw
  have hl : lv_has ls 4 [(0, .ref o), (1, .int p1), (2, .int i_1), (3, .int i_2)] := hl
  have hW : Wd g lay (E0) H := hW
  refine lv_iload_n hx hb dX5_finders_4 rfl (lv_at hl 3 rfl) ?_
  refine lv_aload_n hx hb dX5_finders_5 rfl (lv_at hl 0 rfl) ?_
  refine g_X5_7 hx hb hown hts hK hW HB.1 (hX 0 (by decide)) dX5_finders_6 ?_
  refine lv_iconst (v := 1) hx hb dX5_finders_9 (by decide) ?_
  obtain ⟨hin, hw⟩ := hw
  refine w_iald hx hb hK hW HB.2.1 (hX 1 (by decide)) hin dX5_finders_10 ?_
  refine lv_icmp_ge (tgt := 52) hx hb dX5_finders_11 (by decide) (fun c_21 => ?_) (fun c_21 => ?_)
  · have hw := hw.1 c_21
    rw [eK_4] at hw
    refine lv_iload_n hx hb dX5_finders_52 rfl (lv_at hl 2 rfl) ?_
    exact w_iret hx hb hr hlocks hW hS ⟨rfl, hw⟩ dX5_finders_53
  · have hw := hw.2 c_21
    refine lv_iload_n hx hb dX5_finders_14 rfl (lv_at hl 2 rfl) ?_
    refine lv_iload_n hx hb dX5_finders_15 rfl (lv_at hl 1 rfl) ?_
    refine lv_if_eq (tgt := 31) hx hb dX5_finders_16 (by decide) (fun c_22 => ?_) (fun c_22 => ?_)
    · have hw := hw.1 c_22
      refine lv_aload_n hx hb dX5_finders_31 rfl (lv_at hl 0 rfl) ?_
      refine lv_iload_n hx hb dX5_finders_32 rfl (lv_at hl 3 rfl) ?_
      refine w_cvi (As := [.int i_2]) (rest := [.int i_1]) hx hb hml hown hts hK hW hS hl.1 (c_X5_isHolding hA HB hX  hw) (k_X5_57 hts ⟨Nat.le_of_ble_eq_true rfl, Nat.le_of_ble_eq_true rfl⟩) (w_recv hK hW HB.1 (hX 0 (by decide)) rfl rfl) rfl rfl (Nat.le_of_ble_eq_true rfl) dX5_finders_33 ⟨Nat.zero_le _, Nat.zero_le _⟩ (fun r_23 Ez H locs hw2 hW hS => ?_)
      obtain ⟨ez, z_24, hw⟩ := hw2
      rw [ez] at hW
      refine lv_if_eq (tgt := 43) hx hb dX5_finders_36 (by decide) (fun c_25 => ?_) (fun c_25 => ?_)
      · have hw := hw.1 c_25
        refine lv_iconst (v := 0) hx hb dX5_finders_43 (by decide) ?_
        refine lv_iadd hx hb dX5_finders_44 ?_
        refine lv_topi (fun v_26 ev_26 => ?_)
        have hw := hw v_26 ev_26
        refine lv_istore_n (lv' := [(2, .int v_26), (0, .ref o), (1, .int p1), (3, .int i_2)]) hx hb dX5_finders_45 rfl hl (by decide) rfl (fun ls hl => ?_)
        obtain ⟨v_27, ev_27⟩ : ∃ z : Int32, z = i_2 + 1 := ⟨_, rfl⟩
        have hw := hw v_27 ev_27
        refine lv_iinc (v := v_27) (lv' := [(3, .int v_27), (2, .int v_26), (0, .ref o), (1, .int p1)]) hx hb dX5_finders_46 hl (k := 3) rfl (by rw [ev_27]; rfl) (by decide) rfl (fun ls hl => ?_)
        refine lv_goto (tgt := 4) hx hb dX5_finders_49 (by decide) ?_
        exact ih_4 (v_26, v_27) _ _ _ hw hW hS (lv_sub hl [2, 3, 1, 0] rfl)
      · have hw := hw.2 c_25
        refine lv_iconst (v := 1) hx hb dX5_finders_39 (by decide) ?_
        refine lv_goto (tgt := 44) hx hb dX5_finders_40 (by decide) ?_
        refine lv_iadd hx hb dX5_finders_44 ?_
        refine lv_topi (fun v_28 ev_28 => ?_)
        have hw := hw v_28 ev_28
        refine lv_istore_n (lv' := [(2, .int v_28), (0, .ref o), (1, .int p1), (3, .int i_2)]) hx hb dX5_finders_45 rfl hl (by decide) rfl (fun ls hl => ?_)
        obtain ⟨v_29, ev_29⟩ : ∃ z : Int32, z = i_2 + 1 := ⟨_, rfl⟩
        have hw := hw v_29 ev_29
        refine lv_iinc (v := v_29) (lv' := [(3, .int v_29), (2, .int v_28), (0, .ref o), (1, .int p1)]) hx hb dX5_finders_46 hl (k := 3) rfl (by rw [ev_29]; rfl) (by decide) rfl (fun ls hl => ?_)
        refine lv_goto (tgt := 4) hx hb dX5_finders_49 (by decide) ?_
        exact ih_4 (v_28, v_29) _ _ _ hw hW hS (lv_sub hl [2, 3, 1, 0] rfl)
    · have hw := hw.2 c_22
      refine lv_aload_n hx hb dX5_finders_19 rfl (lv_at hl 0 rfl) ?_
      refine lv_iload_n hx hb dX5_finders_20 rfl (lv_at hl 3 rfl) ?_
      refine lv_iconst (v := 0) hx hb dX5_finders_21 (by decide) ?_
      refine w_cvi (As := [.int i_2, .int 0]) (rest := [.int i_1]) hx hb hml hown hts hK hW hS hl.1 (c_X5_ofFinder hA HB hX  hw) (k_X5_41 hts ⟨Nat.le_of_ble_eq_true rfl, Nat.le_of_ble_eq_true rfl⟩) (w_recv hK hW HB.1 (hX 0 (by decide)) rfl rfl) rfl rfl (Nat.le_of_ble_eq_true rfl) dX5_finders_22 ⟨Nat.zero_le _, Nat.zero_le _⟩ (fun r_30 Ez H locs hw2 hW hS => ?_)
      obtain ⟨ez, hw⟩ := hw2
      rw [ez] at hW
      refine lv_if_ne (tgt := 43) hx hb dX5_finders_25 (by decide) (fun c_31 => ?_) (fun c_31 => ?_)
      · have hw := hw.2 c_31
        refine lv_iconst (v := 0) hx hb dX5_finders_43 (by decide) ?_
        refine lv_iadd hx hb dX5_finders_44 ?_
        refine lv_topi (fun v_32 ev_32 => ?_)
        have hw := hw v_32 ev_32
        refine lv_istore_n (lv' := [(2, .int v_32), (0, .ref o), (1, .int p1), (3, .int i_2)]) hx hb dX5_finders_45 rfl hl (by decide) rfl (fun ls hl => ?_)
        obtain ⟨v_33, ev_33⟩ : ∃ z : Int32, z = i_2 + 1 := ⟨_, rfl⟩
        have hw := hw v_33 ev_33
        refine lv_iinc (v := v_33) (lv' := [(3, .int v_33), (2, .int v_32), (0, .ref o), (1, .int p1)]) hx hb dX5_finders_46 hl (k := 3) rfl (by rw [ev_33]; rfl) (by decide) rfl (fun ls hl => ?_)
        refine lv_goto (tgt := 4) hx hb dX5_finders_49 (by decide) ?_
        exact ih_4 (v_32, v_33) _ _ _ hw hW hS (lv_sub hl [2, 3, 1, 0] rfl)
      · have hw := hw.1 c_31
        refine lv_goto (tgt := 39) hx hb dX5_finders_28 (by decide) ?_
        refine lv_iconst (v := 1) hx hb dX5_finders_39 (by decide) ?_
        refine lv_goto (tgt := 44) hx hb dX5_finders_40 (by decide) ?_
        refine lv_iadd hx hb dX5_finders_44 ?_
        refine lv_topi (fun v_34 ev_34 => ?_)
        have hw := hw v_34 ev_34
        refine lv_istore_n (lv' := [(2, .int v_34), (0, .ref o), (1, .int p1), (3, .int i_2)]) hx hb dX5_finders_45 rfl hl (by decide) rfl (fun ls hl => ?_)
        obtain ⟨v_35, ev_35⟩ : ∃ z : Int32, z = i_2 + 1 := ⟨_, rfl⟩
        have hw := hw v_35 ev_35
        refine lv_iinc (v := v_35) (lv' := [(3, .int v_35), (2, .int v_34), (0, .ref o), (1, .int p1)]) hx hb dX5_finders_46 hl (k := 3) rfl (by rw [ev_35]; rfl) (by decide) rfl (fun ls hl => ?_)
        refine lv_goto (tgt := 4) hx hb dX5_finders_49 (by decide) ?_
        exact ih_4 (v_34, v_35) _ _ _ hw hW hS (lv_sub hl [2, 3, 1, 0] rfl)
set_option maxHeartbeats 4000000 in
set_option maxRecDepth 100000 in
theorem c_X5_sumOf {l : Launch} {g : GG} {lay : LY} {E0 : ES} {o : Nat} {X : ES} {p1 : Int32} {K : Int32 → Prop} (hA : okL g lay) (HB : ML g lay o) (hX : ∀ k, k < 7 → E0 (o + k) = X k) (hw : wp_X5_sumOf X p1 K) : JMi l g lay yX5_sumOf wsX5_sumOf rmX5_sumOf [.ref o, .int p1] E0 (fun r E1 => E1 = E0 ∧ K r) := by
  refine Met.ofW (cc := cX5_sumOf) (maxL := 4) (ret := (some .int)) (by decide) rfl ?_
  intro p e s m args below meth c s₁ B hml hv
  obtain ⟨rfl, hK, hW⟩ := hv
  have hx := B.exec
  have hb := B.bytes
  have hr := B.returns
  have hts := gd_of (atoms_spec (ws := wsX5_sumOf) B.pre)
  have hown : s.vm.findClass RX5 = some m.cls := findClass_of_methodNamed B.named
  have hlocks := B.notSynchronized
  have hS : va_S (Ab g) s.heap s.heap [] := va_S.rf
  have hl := lv_entry [.ref o, .int p1] (n := 4) (Nat.le_of_ble_eq_true rfl)
  rw [lg_entry_eq]
  generalize (lg_sl [.ref o, .int p1] ++ List.replicate (4 - (lg_sl [.ref o, .int p1]).length) Slot.unset).toArray = ls at hl ⊢
  have hl : lv_has ls 4 [(0, .ref o), (1, .int p1)] := hl
  unfold wp_X5_sumOf at hw
  refine lv_iconst (v := 0) hx hb dX5_sumOf_0 (by decide) ?_
  refine lv_istore_n (lv' := [(2, .int 0), (0, .ref o), (1, .int p1)]) hx hb dX5_sumOf_1 rfl hl (by decide) rfl (fun ls hl => ?_)
  refine lv_iconst (v := 0) hx hb dX5_sumOf_2 (by decide) ?_
  refine lv_istore_n (lv' := [(3, .int 0), (2, .int 0), (0, .ref o), (1, .int p1)]) hx hb dX5_sumOf_3 rfl hl (by decide) rfl (fun ls hl => ?_)
  obtain ⟨n_14, hw⟩ := hw
  refine w_loop (KT := Int32 → Int32 → Prop) (σ := Int32 × Int32) (Wl := fun Kx_4 n_4 q => wpl_X5_sumOf_4 X p1 K Kx_4 n_4 q.1 q.2) (Pw := fun q => Wd g lay (E0)) (lvf := fun q => [(0, .ref o), (1, .int p1), (2, .int q.1), (3, .int q.2)]) (nL := 4) n_14 (0, 0) hw hW hS (lv_sub hl [2, 3, 1, 0] rfl) (fun _ h => h) (fun Kx_4 eK_4 n_4 q H locs ls hw hW hS hl ih_4 => ?_)
  obtain ⟨i_1, i_2⟩ := q
  try dsimp only at hw
  rw [wpl_X5_sumOf_4] at hw
  have hl : lv_has ls 4 [(0, .ref o), (1, .int p1), (2, .int i_1), (3, .int i_2)] := hl
  have hW : Wd g lay (E0) H := hW
  refine lv_iload_n hx hb dX5_sumOf_4 rfl (lv_at hl 3 rfl) ?_
  refine lv_bipush (v := 16) hx hb dX5_sumOf_5 (by decide) ?_
  refine lv_icmp_ge (tgt := 25) hx hb dX5_sumOf_7 (by decide) (fun c_10 => ?_) (fun c_10 => ?_)
  · have hw := hw.1 c_10
    rw [eK_4] at hw
    refine lv_iload_n hx hb dX5_sumOf_25 rfl (lv_at hl 2 rfl) ?_
    exact w_iret hx hb hr hlocks hW hS ⟨rfl, hw⟩ dX5_sumOf_26
  · have hw := hw.2 c_10
    refine lv_iload_n hx hb dX5_sumOf_10 rfl (lv_at hl 2 rfl) ?_
    refine lv_aload_n hx hb dX5_sumOf_11 rfl (lv_at hl 0 rfl) ?_
    refine lv_iload_n hx hb dX5_sumOf_12 rfl (lv_at hl 3 rfl) ?_
    refine lv_iload_n hx hb dX5_sumOf_13 rfl (lv_at hl 1 rfl) ?_
    refine w_cvi (As := [.int i_2, .int p1]) (rest := [.int i_1]) hx hb hml hown hts hK hW hS hl.1 (c_X5_of hA HB hX  hw) (k_X5_67 hts ⟨Nat.le_of_ble_eq_true rfl, Nat.le_of_ble_eq_true rfl⟩) (w_recv hK hW HB.1 (hX 0 (by decide)) rfl rfl) rfl rfl (Nat.le_of_ble_eq_true rfl) dX5_sumOf_14 ⟨Nat.zero_le _, Nat.zero_le _⟩ (fun r_11 Ez H locs hw2 hW hS => ?_)
    obtain ⟨ez, hw⟩ := hw2
    rw [ez] at hW
    refine lv_iadd hx hb dX5_sumOf_17 ?_
    refine lv_topi (fun v_12 ev_12 => ?_)
    have hw := hw v_12 ev_12
    refine lv_istore_n (lv' := [(2, .int v_12), (0, .ref o), (1, .int p1), (3, .int i_2)]) hx hb dX5_sumOf_18 rfl hl (by decide) rfl (fun ls hl => ?_)
    obtain ⟨v_13, ev_13⟩ : ∃ z : Int32, z = i_2 + 1 := ⟨_, rfl⟩
    have hw := hw v_13 ev_13
    refine lv_iinc (v := v_13) (lv' := [(3, .int v_13), (2, .int v_12), (0, .ref o), (1, .int p1)]) hx hb dX5_sumOf_19 hl (k := 3) rfl (by rw [ev_13]; rfl) (by decide) rfl (fun ls hl => ?_)
    refine lv_goto (tgt := 4) hx hb dX5_sumOf_22 (by decide) ?_
    exact ih_4 (v_12, v_13) _ _ _ hw hW hS (lv_sub hl [2, 3, 1, 0] rfl)
set_option maxHeartbeats 4000000 in
set_option maxRecDepth 100000 in
theorem c_X5_count {l : Launch} {g : GG} {lay : LY} {E0 : ES} {o : Nat} {X : ES} {p1 : Int32} {K : Int32 → Prop} (hA : okL g lay) (HB : ML g lay o) (hX : ∀ k, k < 7 → E0 (o + k) = X k) (hw : wp_X5_count X p1 K) : JMi l g lay yX5_count wsX5_count rmX5_count [.ref o, .int p1] E0 (fun r E1 => E1 = E0 ∧ K r) := by
  refine Met.ofW (cc := cX5_count) (maxL := 2) (ret := (some .int)) (by decide) rfl ?_
  intro p e s m args below meth c s₁ B hml hv
  obtain ⟨rfl, hK, hW⟩ := hv
  have hx := B.exec
  have hb := B.bytes
  have hr := B.returns
  have hts := gd_of (atoms_spec (ws := wsX5_count) B.pre)
  have hown : s.vm.findClass RX5 = some m.cls := findClass_of_methodNamed B.named
  have hlocks := B.notSynchronized
  have hS : va_S (Ab g) s.heap s.heap [] := va_S.rf
  have hl := lv_entry [.ref o, .int p1] (n := 2) (Nat.le_of_ble_eq_true rfl)
  rw [lg_entry_eq]
  generalize (lg_sl [.ref o, .int p1] ++ List.replicate (2 - (lg_sl [.ref o, .int p1]).length) Slot.unset).toArray = ls at hl ⊢
  have hl : lv_has ls 2 [(0, .ref o), (1, .int p1)] := hl
  unfold wp_X5_count at hw
  refine lv_iload_n hx hb dX5_count_0 rfl (lv_at hl 1 rfl) ?_
  refine lv_bipush (v := 6) hx hb dX5_count_1 (by decide) ?_
  refine lv_bipush (v := 12) hx hb dX5_count_3 (by decide) ?_
  refine w_csi (As := [.int p1, .int 6, .int 12]) (rest := []) hx hb hml hown hts hK hW hS hl.1 (c_X5_in hw) (k_X5_33 hts ⟨Nat.le_of_ble_eq_true rfl, Nat.le_of_ble_eq_true rfl⟩) rfl rfl (Nat.le_of_ble_eq_true rfl) dX5_count_5 ⟨Nat.zero_le _, Nat.zero_le _⟩ (fun r_1 Ez H locs hw2 hW hS => ?_)
  obtain ⟨ez, z_2, hw⟩ := hw2
  rw [ez] at hW
  refine lv_if_eq (tgt := 24) hx hb dX5_count_8 (by decide) (fun c_3 => ?_) (fun c_3 => ?_)
  · have hw := hw.1 c_3
    refine lv_iload_n hx hb dX5_count_24 rfl (lv_at hl 1 rfl) ?_
    refine lv_bipush (v := 15) hx hb dX5_count_25 (by decide) ?_
    refine lv_bipush (v := 19) hx hb dX5_count_27 (by decide) ?_
    refine w_csi (As := [.int p1, .int 15, .int 19]) (rest := []) hx hb hml hown hts hK hW hS hl.1 (c_X5_in hw) (k_X5_33 hts ⟨Nat.le_of_ble_eq_true rfl, Nat.le_of_ble_eq_true rfl⟩) rfl rfl (Nat.le_of_ble_eq_true rfl) dX5_count_29 ⟨Nat.zero_le _, Nat.zero_le _⟩ (fun r_4 Ez H locs hw2 hW hS => ?_)
    obtain ⟨ez, z_5, hw⟩ := hw2
    rw [ez] at hW
    refine lv_if_eq (tgt := 44) hx hb dX5_count_32 (by decide) (fun c_6 => ?_) (fun c_6 => ?_)
    · have hw := hw.1 c_6
      refine lv_iload_n hx hb dX5_count_44 rfl (lv_at hl 1 rfl) ?_
      by_cases c_7 : p1 = 0
      · have hw := hw.1 c_7
        refine lv_tableIn (tgt := 120) hx hb dX5_count_45 (by rw [c_7]; decide) (by rw [c_7]; decide) (by rw [c_7] <;> rfl) (by decide) ?_
        refine lv_aload_n hx hb dX5_count_120 rfl (lv_at hl 0 rfl) ?_
        refine g_X5_7 hx hb hown hts hK hW HB.1 (hX 0 (by decide)) dX5_count_121 ?_
        refine lv_iconst (v := 0) hx hb dX5_count_124 (by decide) ?_
        obtain ⟨hin, hw⟩ := hw
        refine w_iald hx hb hK hW HB.2.1 (hX 1 (by decide)) hin dX5_count_125 ?_
        exact w_iret hx hb hr hlocks hW hS ⟨rfl, hw⟩ dX5_count_126
      · have hw := hw.2 c_7
        by_cases c_8 : p1 = 1
        · have hw := hw.1 c_8
          refine lv_tableIn (tgt := 127) hx hb dX5_count_45 (by rw [c_8]; decide) (by rw [c_8]; decide) (by rw [c_8] <;> rfl) (by decide) ?_
          refine lv_aload_n hx hb dX5_count_127 rfl (lv_at hl 0 rfl) ?_
          refine g_X5_7 hx hb hown hts hK hW HB.1 (hX 0 (by decide)) dX5_count_128 ?_
          refine lv_iconst (v := 1) hx hb dX5_count_131 (by decide) ?_
          obtain ⟨hin, hw⟩ := hw
          refine w_iald hx hb hK hW HB.2.1 (hX 1 (by decide)) hin dX5_count_132 ?_
          exact w_iret hx hb hr hlocks hW hS ⟨rfl, hw⟩ dX5_count_133
        · have hw := hw.2 c_8
          by_cases c_9 : p1 = 2
          · have hw := hw.1 c_9
            refine lv_tableIn (tgt := 134) hx hb dX5_count_45 (by rw [c_9]; decide) (by rw [c_9]; decide) (by rw [c_9] <;> rfl) (by decide) ?_
            refine lv_aload_n hx hb dX5_count_134 rfl (lv_at hl 0 rfl) ?_
            refine g_X5_7 hx hb hown hts hK hW HB.1 (hX 0 (by decide)) dX5_count_135 ?_
            refine lv_iconst (v := 2) hx hb dX5_count_138 (by decide) ?_
            obtain ⟨hin, hw⟩ := hw
            refine w_iald hx hb hK hW HB.2.1 (hX 1 (by decide)) hin dX5_count_139 ?_
            exact w_iret hx hb hr hlocks hW hS ⟨rfl, hw⟩ dX5_count_140
          · have hw := hw.2 c_9
            by_cases c_10 : p1 = 3
            · have hw := hw.1 c_10
              refine lv_tableIn (tgt := 141) hx hb dX5_count_45 (by rw [c_10]; decide) (by rw [c_10]; decide) (by rw [c_10] <;> rfl) (by decide) ?_
              refine lv_aload_n hx hb dX5_count_141 rfl (lv_at hl 0 rfl) ?_
              refine lv_iconst (v := 1) hx hb dX5_count_142 (by decide) ?_
              refine w_cvi (As := [.int 1]) (rest := []) hx hb hml hown hts hK hW hS hl.1 (c_X5_finders hA HB hX  hw) (k_X5_158 hts ⟨Nat.le_of_ble_eq_true rfl, Nat.le_of_ble_eq_true rfl⟩) (w_recv hK hW HB.1 (hX 0 (by decide)) rfl rfl) rfl rfl (Nat.le_of_ble_eq_true rfl) dX5_count_143 ⟨Nat.zero_le _, Nat.zero_le _⟩ (fun r_11 Ez H locs hw2 hW hS => ?_)
              obtain ⟨ez, hw⟩ := hw2
              rw [ez] at hW
              exact w_iret hx hb hr hlocks hW hS ⟨rfl, hw⟩ dX5_count_146
            · have hw := hw.2 c_10
              by_cases c_12 : p1 = 4
              · have hw := hw.1 c_12
                refine lv_tableIn (tgt := 147) hx hb dX5_count_45 (by rw [c_12]; decide) (by rw [c_12]; decide) (by rw [c_12] <;> rfl) (by decide) ?_
                refine lv_iconst (v := 4) hx hb dX5_count_147 (by decide) ?_
                refine lv_aload_n hx hb dX5_count_148 rfl (lv_at hl 0 rfl) ?_
                refine g_X5_7 hx hb hown hts hK hW HB.1 (hX 0 (by decide)) dX5_count_149 ?_
                refine lv_iconst (v := 2) hx hb dX5_count_152 (by decide) ?_
                obtain ⟨hin, hw⟩ := hw
                refine w_iald hx hb hK hW HB.2.1 (hX 1 (by decide)) hin dX5_count_153 ?_
                refine lv_imul hx hb dX5_count_154 ?_
                refine lv_aload_n hx hb dX5_count_155 rfl (lv_at hl 0 rfl) ?_
                refine lv_iconst (v := 0) hx hb dX5_count_156 (by decide) ?_
                refine w_cvi (As := [.int 0]) (rest := [.int (4 * ((X 1) (2 : Int32).toNatClampNeg))]) hx hb hml hown hts hK hW hS hl.1 (c_X5_finders hA HB hX  hw) (k_X5_158 hts ⟨Nat.le_of_ble_eq_true rfl, Nat.le_of_ble_eq_true rfl⟩) (w_recv hK hW HB.1 (hX 0 (by decide)) rfl rfl) rfl rfl (Nat.le_of_ble_eq_true rfl) dX5_count_157 ⟨Nat.zero_le _, Nat.zero_le _⟩ (fun r_13 Ez H locs hw2 hW hS => ?_)
                obtain ⟨ez, hw⟩ := hw2
                rw [ez] at hW
                refine lv_isub hx hb dX5_count_160 ?_
                exact w_iret hx hb hr hlocks hW hS ⟨rfl, hw⟩ dX5_count_161
              · have hw := hw.2 c_12
                by_cases c_14 : p1 = 5
                · have hw := hw.1 c_14
                  refine lv_tableIn (tgt := 162) hx hb dX5_count_45 (by rw [c_14]; decide) (by rw [c_14]; decide) (by rw [c_14] <;> rfl) (by decide) ?_
                  refine lv_aload_n hx hb dX5_count_162 rfl (lv_at hl 0 rfl) ?_
                  refine lv_iconst (v := 2) hx hb dX5_count_163 (by decide) ?_
                  refine w_cvi (As := [.int 2]) (rest := []) hx hb hml hown hts hK hW hS hl.1 (c_X5_sumOf hA HB hX  hw) (k_X5_162 hts ⟨Nat.le_of_ble_eq_true rfl, Nat.le_of_ble_eq_true rfl⟩) (w_recv hK hW HB.1 (hX 0 (by decide)) rfl rfl) rfl rfl (Nat.le_of_ble_eq_true rfl) dX5_count_164 ⟨Nat.zero_le _, Nat.zero_le _⟩ (fun r_15 Ez H locs hw2 hW hS => ?_)
                  obtain ⟨ez, hw⟩ := hw2
                  rw [ez] at hW
                  exact w_iret hx hb hr hlocks hW hS ⟨rfl, hw⟩ dX5_count_167
                · have hw := hw.2 c_14
                  by_cases c_16 : p1 = 6
                  · have hw := hw.1 c_16
                    refine lv_tableIn (tgt := 179) hx hb dX5_count_45 (by rw [c_16]; decide) (by rw [c_16]; decide) (by rw [c_16] <;> rfl) (by decide) ?_
                    refine lv_bipush (v := (-2)) hx hb dX5_count_179 (by decide) ?_
                    exact w_iret hx hb hr hlocks hW hS ⟨rfl, hw⟩ dX5_count_181
                  · have hw := hw.2 c_16
                    by_cases c_17 : p1 = 7
                    · have hw := hw.1 c_17
                      refine lv_tableIn (tgt := 179) hx hb dX5_count_45 (by rw [c_17]; decide) (by rw [c_17]; decide) (by rw [c_17] <;> rfl) (by decide) ?_
                      refine lv_bipush (v := (-2)) hx hb dX5_count_179 (by decide) ?_
                      exact w_iret hx hb hr hlocks hW hS ⟨rfl, hw⟩ dX5_count_181
                    · have hw := hw.2 c_17
                      by_cases c_18 : p1 = 8
                      · have hw := hw.1 c_18
                        refine lv_tableIn (tgt := 179) hx hb dX5_count_45 (by rw [c_18]; decide) (by rw [c_18]; decide) (by rw [c_18] <;> rfl) (by decide) ?_
                        refine lv_bipush (v := (-2)) hx hb dX5_count_179 (by decide) ?_
                        exact w_iret hx hb hr hlocks hW hS ⟨rfl, hw⟩ dX5_count_181
                      · have hw := hw.2 c_18
                        by_cases c_19 : p1 = 9
                        · have hw := hw.1 c_19
                          refine lv_tableIn (tgt := 179) hx hb dX5_count_45 (by rw [c_19]; decide) (by rw [c_19]; decide) (by rw [c_19] <;> rfl) (by decide) ?_
                          refine lv_bipush (v := (-2)) hx hb dX5_count_179 (by decide) ?_
                          exact w_iret hx hb hr hlocks hW hS ⟨rfl, hw⟩ dX5_count_181
                        · have hw := hw.2 c_19
                          by_cases c_20 : p1 = 10
                          · have hw := hw.1 c_20
                            refine lv_tableIn (tgt := 179) hx hb dX5_count_45 (by rw [c_20]; decide) (by rw [c_20]; decide) (by rw [c_20] <;> rfl) (by decide) ?_
                            refine lv_bipush (v := (-2)) hx hb dX5_count_179 (by decide) ?_
                            exact w_iret hx hb hr hlocks hW hS ⟨rfl, hw⟩ dX5_count_181
                          · have hw := hw.2 c_20
                            by_cases c_21 : p1 = 11
                            · have hw := hw.1 c_21
                              refine lv_tableIn (tgt := 179) hx hb dX5_count_45 (by rw [c_21]; decide) (by rw [c_21]; decide) (by rw [c_21] <;> rfl) (by decide) ?_
                              refine lv_bipush (v := (-2)) hx hb dX5_count_179 (by decide) ?_
                              exact w_iret hx hb hr hlocks hW hS ⟨rfl, hw⟩ dX5_count_181
                            · have hw := hw.2 c_21
                              by_cases c_22 : p1 = 12
                              · have hw := hw.1 c_22
                                refine lv_tableIn (tgt := 179) hx hb dX5_count_45 (by rw [c_22]; decide) (by rw [c_22]; decide) (by rw [c_22] <;> rfl) (by decide) ?_
                                refine lv_bipush (v := (-2)) hx hb dX5_count_179 (by decide) ?_
                                exact w_iret hx hb hr hlocks hW hS ⟨rfl, hw⟩ dX5_count_181
                              · have hw := hw.2 c_22
                                by_cases c_23 : p1 = 13
                                · have hw := hw.1 c_23
                                  refine lv_tableIn (tgt := 168) hx hb dX5_count_45 (by rw [c_23]; decide) (by rw [c_23]; decide) (by rw [c_23] <;> rfl) (by decide) ?_
                                  refine lv_aload_n hx hb dX5_count_168 rfl (lv_at hl 0 rfl) ?_
                                  refine lv_iconst (v := 1) hx hb dX5_count_169 (by decide) ?_
                                  refine w_cvi (As := [.int 1]) (rest := []) hx hb hml hown hts hK hW hS hl.1 (c_X5_sumOf hA HB hX  hw) (k_X5_162 hts ⟨Nat.le_of_ble_eq_true rfl, Nat.le_of_ble_eq_true rfl⟩) (w_recv hK hW HB.1 (hX 0 (by decide)) rfl rfl) rfl rfl (Nat.le_of_ble_eq_true rfl) dX5_count_170 ⟨Nat.zero_le _, Nat.zero_le _⟩ (fun r_24 Ez H locs hw2 hW hS => ?_)
                                  obtain ⟨ez, hw⟩ := hw2
                                  rw [ez] at hW
                                  exact w_iret hx hb hr hlocks hW hS ⟨rfl, hw⟩ dX5_count_173
                                · have hw := hw.2 c_23
                                  by_cases c_25 : p1 = 14
                                  · have hw := hw.1 c_25
                                    refine lv_tableIn (tgt := 174) hx hb dX5_count_45 (by rw [c_25]; decide) (by rw [c_25]; decide) (by rw [c_25] <;> rfl) (by decide) ?_
                                    refine lv_aload_n hx hb dX5_count_174 rfl (lv_at hl 0 rfl) ?_
                                    refine g_X5_165 hx hb hown hts hK hW HB.1 (hX 0 (by decide)) dX5_count_175 ?_
                                    exact w_iret hx hb hr hlocks hW hS ⟨rfl, hw⟩ dX5_count_178
                                  · have hw := hw.2 c_25
                                    refine lv_tableOut (tgt := 179) hx hb dX5_count_45 (by have zc_7 := lv_neT (a := 0) c_7 rfl; have zc_8 := lv_neT (a := 1) c_8 rfl; have zc_9 := lv_neT (a := 2) c_9 rfl; have zc_10 := lv_neT (a := 3) c_10 rfl; have zc_12 := lv_neT (a := 4) c_12 rfl; have zc_14 := lv_neT (a := 5) c_14 rfl; have zc_16 := lv_neT (a := 6) c_16 rfl; have zc_17 := lv_neT (a := 7) c_17 rfl; have zc_18 := lv_neT (a := 8) c_18 rfl; have zc_19 := lv_neT (a := 9) c_19 rfl; have zc_20 := lv_neT (a := 10) c_20 rfl; have zc_21 := lv_neT (a := 11) c_21 rfl; have zc_22 := lv_neT (a := 12) c_22 rfl; have zc_23 := lv_neT (a := 13) c_23 rfl; have zc_25 := lv_neT (a := 14) c_25 rfl; omega) (by decide) ?_
                                    refine lv_bipush (v := (-2)) hx hb dX5_count_179 (by decide) ?_
                                    exact w_iret hx hb hr hlocks hW hS ⟨rfl, hw⟩ dX5_count_181
    · have hw := hw.2 c_6
      refine lv_aload_n hx hb dX5_count_35 rfl (lv_at hl 0 rfl) ?_
      refine lv_iload_n hx hb dX5_count_36 rfl (lv_at hl 1 rfl) ?_
      refine lv_bipush (v := 15) hx hb dX5_count_37 (by decide) ?_
      refine lv_isub hx hb dX5_count_39 ?_
      refine w_cvi (As := [.int (p1 - 15)]) (rest := []) hx hb hml hown hts hK hW hS hl.1 (c_X5_setting hA HB hX  hw) (k_X5_53 hts ⟨Nat.le_of_ble_eq_true rfl, Nat.le_of_ble_eq_true rfl⟩) (w_recv hK hW HB.1 (hX 0 (by decide)) rfl rfl) rfl rfl (Nat.le_of_ble_eq_true rfl) dX5_count_40 ⟨Nat.zero_le _, Nat.zero_le _⟩ (fun r_26 Ez H locs hw2 hW hS => ?_)
      obtain ⟨ez, hw⟩ := hw2
      rw [ez] at hW
      exact w_iret hx hb hr hlocks hW hS ⟨rfl, hw⟩ dX5_count_43
  · have hw := hw.2 c_3
    refine lv_aload_n hx hb dX5_count_11 rfl (lv_at hl 0 rfl) ?_
    refine g_X5_7 hx hb hown hts hK hW HB.1 (hX 0 (by decide)) dX5_count_12 ?_
    refine lv_bipush (v := 10) hx hb dX5_count_15 (by decide) ?_
    refine lv_iload_n hx hb dX5_count_17 rfl (lv_at hl 1 rfl) ?_
    refine lv_iadd hx hb dX5_count_18 ?_
    refine lv_bipush (v := 6) hx hb dX5_count_19 (by decide) ?_
    refine lv_isub hx hb dX5_count_21 ?_
    obtain ⟨hin, hw⟩ := hw
    refine w_iald hx hb hK hW HB.2.1 (hX 1 (by decide)) hin dX5_count_22 ?_
    exact w_iret hx hb hr hlocks hW hS ⟨rfl, hw⟩ dX5_count_23
set_option maxHeartbeats 4000000 in
set_option maxRecDepth 100000 in
theorem c_X5_trace {l : Launch} {g : GG} {lay : LY} {E0 : ES} {o : Nat} {X : ES} {p1 : Int32} {p2 : Int32} {K : Int32 → Prop} (hA : okL g lay) (HB : ML g lay o) (hX : ∀ k, k < 7 → E0 (o + k) = X k) (hw : wp_X5_trace X p1 p2 K) : JMi l g lay yX5_trace wsX5_trace rmX5_trace [.ref o, .int p1, .int p2] E0 (fun r E1 => E1 = E0 ∧ K r) := by
  refine Met.ofW (cc := cX5_trace) (maxL := 5) (ret := (some .int)) (by decide) rfl ?_
  intro p e s m args below meth c s₁ B hml hv
  obtain ⟨rfl, hK, hW⟩ := hv
  have hx := B.exec
  have hb := B.bytes
  have hr := B.returns
  have hts := gd_of (atoms_spec (ws := wsX5_trace) B.pre)
  have hown : s.vm.findClass RX5 = some m.cls := findClass_of_methodNamed B.named
  have hlocks := B.notSynchronized
  have hS : va_S (Ab g) s.heap s.heap [] := va_S.rf
  have hl := lv_entry [.ref o, .int p1, .int p2] (n := 5) (Nat.le_of_ble_eq_true rfl)
  rw [lg_entry_eq]
  generalize (lg_sl [.ref o, .int p1, .int p2] ++ List.replicate (5 - (lg_sl [.ref o, .int p1, .int p2]).length) Slot.unset).toArray = ls at hl ⊢
  have hl : lv_has ls 5 [(0, .ref o), (1, .int p1), (2, .int p2)] := hl
  unfold wp_X5_trace at hw
  refine lv_iload_n hx hb dX5_trace_0 rfl (lv_at hl 1 rfl) ?_
  refine w_csi (As := [.int p1]) (rest := []) hx hb hml hown hts hK hW hS hl.1 (c_X5_isLine hw) (k_X5_64 hts ⟨Nat.le_of_ble_eq_true rfl, Nat.le_of_ble_eq_true rfl⟩) rfl rfl (Nat.le_of_ble_eq_true rfl) dX5_trace_1 ⟨Nat.zero_le _, Nat.zero_le _⟩ (fun r_1 Ez H locs hw2 hW hS => ?_)
  obtain ⟨ez, z_2, hw⟩ := hw2
  rw [ez] at hW
  refine lv_if_ne (tgt := 9) hx hb dX5_trace_4 (by decide) (fun c_3 => ?_) (fun c_3 => ?_)
  · have hw := hw.2 c_3
    refine lv_iload_n hx hb dX5_trace_9 rfl (lv_at hl 2 rfl) ?_
    refine lv_iconst (v := 0) hx hb dX5_trace_10 (by decide) ?_
    refine lv_iconst (v := 2) hx hb dX5_trace_11 (by decide) ?_
    refine w_csi (As := [.int p2, .int 0, .int 2]) (rest := []) hx hb hml hown hts hK hW hS hl.1 (c_X5_in hw) (k_X5_33 hts ⟨Nat.le_of_ble_eq_true rfl, Nat.le_of_ble_eq_true rfl⟩) rfl rfl (Nat.le_of_ble_eq_true rfl) dX5_trace_12 ⟨Nat.zero_le _, Nat.zero_le _⟩ (fun r_4 Ez H locs hw2 hW hS => ?_)
    obtain ⟨ez, z_5, hw⟩ := hw2
    rw [ez] at hW
    refine lv_if_ne (tgt := 21) hx hb dX5_trace_15 (by decide) (fun c_6 => ?_) (fun c_6 => ?_)
    · have hw := hw.2 c_6
      refine lv_aload_n hx hb dX5_trace_21 rfl (lv_at hl 0 rfl) ?_
      refine lv_iload_n hx hb dX5_trace_22 rfl (lv_at hl 1 rfl) ?_
      refine lv_iconst (v := 0) hx hb dX5_trace_23 (by decide) ?_
      refine w_cvi (As := [.int p1, .int 0]) (rest := []) hx hb hml hown hts hK hW hS hl.1 (c_X5_of hA HB hX  hw) (k_X5_67 hts ⟨Nat.le_of_ble_eq_true rfl, Nat.le_of_ble_eq_true rfl⟩) (w_recv hK hW HB.1 (hX 0 (by decide)) rfl rfl) rfl rfl (Nat.le_of_ble_eq_true rfl) dX5_trace_24 ⟨Nat.zero_le _, Nat.zero_le _⟩ (fun r_7 Ez H locs hw2 hW hS => ?_)
      obtain ⟨ez, hw⟩ := hw2
      rw [ez] at hW
      refine lv_istore_n (lv' := [(3, .int r_7), (0, .ref o), (1, .int p1), (2, .int p2)]) hx hb dX5_trace_27 rfl hl (by decide) rfl (fun ls hl => ?_)
      refine lv_iload_n hx hb dX5_trace_28 rfl (lv_at hl 0 rfl) ?_
      refine lv_iconst (v := 5) hx hb dX5_trace_29 (by decide) ?_
      refine lv_icmp_eq (tgt := 42) hx hb dX5_trace_30 (by decide) (fun c_8 => ?_) (fun c_8 => ?_)
      · have hw := hw.1 c_8
        refine lv_aload_n hx hb dX5_trace_42 rfl (lv_at hl 1 rfl) ?_
        refine lv_iload_n hx hb dX5_trace_43 rfl (lv_at hl 2 rfl) ?_
        refine w_cvi (As := [.int p1]) (rest := []) hx hb hml hown hts hK hW hS hl.1 (c_X5_finderTo hA HB hX  hw) (k_X5_140 hts ⟨Nat.le_of_ble_eq_true rfl, Nat.le_of_ble_eq_true rfl⟩) (w_recv hK hW HB.1 (hX 0 (by decide)) rfl rfl) rfl rfl (Nat.le_of_ble_eq_true rfl) dX5_trace_44 ⟨Nat.zero_le _, Nat.zero_le _⟩ (fun r_9 Ez H locs hw2 hW hS => ?_)
        obtain ⟨ez, hw⟩ := hw2
        rw [ez] at hW
        refine lv_istore (lv' := [(4, .int r_9), (3, .int r_7), (0, .ref o), (1, .int p1), (2, .int p2)]) hx hb dX5_trace_47 hl (by decide) rfl (fun ls hl => ?_)
        refine lv_iload_n hx hb dX5_trace_49 rfl (lv_at hl 4 rfl) ?_
        refine lv_if_ne (tgt := 63) hx hb dX5_trace_50 (by decide) (fun c_10 => ?_) (fun c_10 => ?_)
        · have hw := hw.2 c_10
          refine lv_iload_n hx hb dX5_trace_63 rfl (lv_at hl 4 rfl) ?_
          refine lv_iconst (v := 1) hx hb dX5_trace_64 (by decide) ?_
          refine lv_icmp_ne (tgt := 73) hx hb dX5_trace_65 (by decide) (fun c_11 => ?_) (fun c_11 => ?_)
          · have hw := hw.2 c_11
            refine lv_aload_n hx hb dX5_trace_73 rfl (lv_at hl 2 rfl) ?_
            refine lv_iload hx hb dX5_trace_74 (lv_at hl 0 rfl) ?_
            refine lv_iconst (v := 2) hx hb dX5_trace_76 (by decide) ?_
            refine w_cvi (As := [.int r_9, .int 2]) (rest := []) hx hb hml hown hts hK hW hS hl.1 (c_X5_ofFinder hA HB hX  hw) (k_X5_41 hts ⟨Nat.le_of_ble_eq_true rfl, Nat.le_of_ble_eq_true rfl⟩) (w_recv hK hW HB.1 (hX 0 (by decide)) rfl rfl) rfl rfl (Nat.le_of_ble_eq_true rfl) dX5_trace_77 ⟨Nat.zero_le _, Nat.zero_le _⟩ (fun r_12 Ez H locs hw2 hW hS => ?_)
            obtain ⟨ez, hw⟩ := hw2
            rw [ez] at hW
            exact w_iret hx hb hr hlocks hW hS ⟨rfl, hw⟩ dX5_trace_80
          · have hw := hw.1 c_11
            refine lv_iload hx hb dX5_trace_68 (lv_at hl 0 rfl) ?_
            refine lv_goto (tgt := 80) hx hb dX5_trace_70 (by decide) ?_
            exact w_iret hx hb hr hlocks hW hS ⟨rfl, hw⟩ dX5_trace_80
        · have hw := hw.1 c_10
          refine lv_aload_n hx hb dX5_trace_53 rfl (lv_at hl 2 rfl) ?_
          refine lv_iload hx hb dX5_trace_54 (lv_at hl 0 rfl) ?_
          refine lv_iconst (v := 4) hx hb dX5_trace_56 (by decide) ?_
          refine w_cvi (As := [.int r_9, .int 4]) (rest := []) hx hb hml hown hts hK hW hS hl.1 (c_X5_ofFinder hA HB hX  hw) (k_X5_41 hts ⟨Nat.le_of_ble_eq_true rfl, Nat.le_of_ble_eq_true rfl⟩) (w_recv hK hW HB.1 (hX 0 (by decide)) rfl rfl) rfl rfl (Nat.le_of_ble_eq_true rfl) dX5_trace_57 ⟨Nat.zero_le _, Nat.zero_le _⟩ (fun r_13 Ez H locs hw2 hW hS => ?_)
          obtain ⟨ez, hw⟩ := hw2
          rw [ez] at hW
          refine lv_goto (tgt := 80) hx hb dX5_trace_60 (by decide) ?_
          exact w_iret hx hb hr hlocks hW hS ⟨rfl, hw⟩ dX5_trace_80
      · have hw := hw.2 c_8
        refine lv_iload_n hx hb dX5_trace_33 rfl (lv_at hl 0 rfl) ?_
        refine lv_bipush (v := 7) hx hb dX5_trace_34 (by decide) ?_
        refine lv_icmp_eq (tgt := 42) hx hb dX5_trace_36 (by decide) (fun c_14 => ?_) (fun c_14 => ?_)
        · have hw := hw.1 c_14
          refine lv_aload_n hx hb dX5_trace_42 rfl (lv_at hl 1 rfl) ?_
          refine lv_iload_n hx hb dX5_trace_43 rfl (lv_at hl 2 rfl) ?_
          refine w_cvi (As := [.int p1]) (rest := []) hx hb hml hown hts hK hW hS hl.1 (c_X5_finderTo hA HB hX  hw) (k_X5_140 hts ⟨Nat.le_of_ble_eq_true rfl, Nat.le_of_ble_eq_true rfl⟩) (w_recv hK hW HB.1 (hX 0 (by decide)) rfl rfl) rfl rfl (Nat.le_of_ble_eq_true rfl) dX5_trace_44 ⟨Nat.zero_le _, Nat.zero_le _⟩ (fun r_15 Ez H locs hw2 hW hS => ?_)
          obtain ⟨ez, hw⟩ := hw2
          rw [ez] at hW
          refine lv_istore (lv' := [(4, .int r_15), (3, .int r_7), (0, .ref o), (1, .int p1), (2, .int p2)]) hx hb dX5_trace_47 hl (by decide) rfl (fun ls hl => ?_)
          refine lv_iload_n hx hb dX5_trace_49 rfl (lv_at hl 4 rfl) ?_
          refine lv_if_ne (tgt := 63) hx hb dX5_trace_50 (by decide) (fun c_16 => ?_) (fun c_16 => ?_)
          · have hw := hw.2 c_16
            refine lv_iload_n hx hb dX5_trace_63 rfl (lv_at hl 4 rfl) ?_
            refine lv_iconst (v := 1) hx hb dX5_trace_64 (by decide) ?_
            refine lv_icmp_ne (tgt := 73) hx hb dX5_trace_65 (by decide) (fun c_17 => ?_) (fun c_17 => ?_)
            · have hw := hw.2 c_17
              refine lv_aload_n hx hb dX5_trace_73 rfl (lv_at hl 2 rfl) ?_
              refine lv_iload hx hb dX5_trace_74 (lv_at hl 0 rfl) ?_
              refine lv_iconst (v := 2) hx hb dX5_trace_76 (by decide) ?_
              refine w_cvi (As := [.int r_15, .int 2]) (rest := []) hx hb hml hown hts hK hW hS hl.1 (c_X5_ofFinder hA HB hX  hw) (k_X5_41 hts ⟨Nat.le_of_ble_eq_true rfl, Nat.le_of_ble_eq_true rfl⟩) (w_recv hK hW HB.1 (hX 0 (by decide)) rfl rfl) rfl rfl (Nat.le_of_ble_eq_true rfl) dX5_trace_77 ⟨Nat.zero_le _, Nat.zero_le _⟩ (fun r_18 Ez H locs hw2 hW hS => ?_)
              obtain ⟨ez, hw⟩ := hw2
              rw [ez] at hW
              exact w_iret hx hb hr hlocks hW hS ⟨rfl, hw⟩ dX5_trace_80
            · have hw := hw.1 c_17
              refine lv_iload hx hb dX5_trace_68 (lv_at hl 0 rfl) ?_
              refine lv_goto (tgt := 80) hx hb dX5_trace_70 (by decide) ?_
              exact w_iret hx hb hr hlocks hW hS ⟨rfl, hw⟩ dX5_trace_80
          · have hw := hw.1 c_16
            refine lv_aload_n hx hb dX5_trace_53 rfl (lv_at hl 2 rfl) ?_
            refine lv_iload hx hb dX5_trace_54 (lv_at hl 0 rfl) ?_
            refine lv_iconst (v := 4) hx hb dX5_trace_56 (by decide) ?_
            refine w_cvi (As := [.int r_15, .int 4]) (rest := []) hx hb hml hown hts hK hW hS hl.1 (c_X5_ofFinder hA HB hX  hw) (k_X5_41 hts ⟨Nat.le_of_ble_eq_true rfl, Nat.le_of_ble_eq_true rfl⟩) (w_recv hK hW HB.1 (hX 0 (by decide)) rfl rfl) rfl rfl (Nat.le_of_ble_eq_true rfl) dX5_trace_57 ⟨Nat.zero_le _, Nat.zero_le _⟩ (fun r_19 Ez H locs hw2 hW hS => ?_)
            obtain ⟨ez, hw⟩ := hw2
            rw [ez] at hW
            refine lv_goto (tgt := 80) hx hb dX5_trace_60 (by decide) ?_
            exact w_iret hx hb hr hlocks hW hS ⟨rfl, hw⟩ dX5_trace_80
        · have hw := hw.2 c_14
          refine lv_bipush (v := (-6)) hx hb dX5_trace_39 (by decide) ?_
          exact w_iret hx hb hr hlocks hW hS ⟨rfl, hw⟩ dX5_trace_41
    · have hw := hw.1 c_6
      refine lv_bipush (v := (-2)) hx hb dX5_trace_18 (by decide) ?_
      exact w_iret hx hb hr hlocks hW hS ⟨rfl, hw⟩ dX5_trace_20
  · have hw := hw.1 c_3
    refine lv_iconst (v := (-1)) hx hb dX5_trace_7 (by decide) ?_
    exact w_iret hx hb hr hlocks hW hS ⟨rfl, hw⟩ dX5_trace_8
set_option maxHeartbeats 4000000 in
set_option maxRecDepth 100000 in
theorem c_X5_putAside {l : Launch} {g : GG} {lay : LY} {E0 : ES} {o : Nat} {X : ES} {K : ES → Prop} (hA : okL g lay) (HB : ML g lay o) (hX : ∀ k, k < 7 → E0 (o + k) = X k) (hw : wp_X5_putAside X K) : JMv l g lay yX5_putAside wsX5_putAside rmX5_putAside [.ref o] E0 (fun E1 => ∃ X1 : ES, E1 = put 7 o X1 E0 ∧ K X1) := by
  refine Met.ofW (cc := cX5_putAside) (maxL := 2) (ret := none) (by decide) rfl ?_
  intro p e s m args below meth c s₁ B hml hv
  obtain ⟨rfl, hK, hW⟩ := hv
  have hx := B.exec
  have hb := B.bytes
  have hr := B.returns
  have hts := gd_of (atoms_spec (ws := wsX5_putAside) B.pre)
  have hown : s.vm.findClass RX5 = some m.cls := findClass_of_methodNamed B.named
  have hlocks := B.notSynchronized
  have hS : va_S (Ab g) s.heap s.heap [] := va_S.rf
  have hW : Wd g lay (put 7 o X E0) s.heap := by rw [putSelf hX]; exact hW
  have hl := lv_entry [.ref o] (n := 2) (Nat.le_of_ble_eq_true rfl)
  rw [lg_entry_eq]
  generalize (lg_sl [.ref o] ++ List.replicate (2 - (lg_sl [.ref o]).length) Slot.unset).toArray = ls at hl ⊢
  have hl : lv_has ls 2 [(0, .ref o)] := hl
  unfold wp_X5_putAside at hw
  refine lv_iconst (v := 0) hx hb dX5_putAside_0 (by decide) ?_
  refine lv_istore_n (lv' := [(1, .int 0), (0, .ref o)]) hx hb dX5_putAside_1 rfl hl (by decide) rfl (fun ls hl => ?_)
  obtain ⟨n_11, hw⟩ := hw
  refine w_loop (KT := Int32 → ES → Prop) (σ := Int32 × ES) (Wl := fun Kx_2 n_2 q => wpl_X5_putAside_2 K Kx_2 n_2 q.1 q.2) (Pw := fun q => Wd g lay (put 7 o q.2 E0)) (lvf := fun q => [(0, .ref o), (1, .int q.1)]) (nL := 2) n_11 (0, X) hw hW hS (lv_sub hl [1, 0] rfl) (fun _ h => h) (fun Kx_2 eK_2 n_2 q H locs ls hw hW hS hl ih_2 => ?_)
  obtain ⟨i_1, X_2⟩ := q
  try dsimp only at hw
  rw [wpl_X5_putAside_2] at hw
  have hl : lv_has ls 2 [(0, .ref o), (1, .int i_1)] := hl
  have hW : Wd g lay (put 7 o X_2 E0) H := hW
  refine lv_iload_n hx hb dX5_putAside_2 rfl (lv_at hl 1 rfl) ?_
  refine lv_sipush (v := 233) hx hb dX5_putAside_3 (by decide) ?_
  refine lv_icmp_ge (tgt := 27) hx hb dX5_putAside_6 (by decide) (fun c_8 => ?_) (fun c_8 => ?_)
  · have hw := hw.1 c_8
    rw [eK_2] at hw
    exact w_vret hx hb hr hlocks hW hS ⟨X_2, rfl, hw⟩ dX5_putAside_27
  · have hw := hw.2 c_8
    refine lv_aload_n hx hb dX5_putAside_9 rfl (lv_at hl 0 rfl) ?_
    refine g_X5_13 hx hb hown hts hK hW HB.1 (putAt (k := 0) (by decide)) dX5_putAside_10 ?_
    refine lv_iload_n hx hb dX5_putAside_13 rfl (lv_at hl 1 rfl) ?_
    refine lv_aload_n hx hb dX5_putAside_14 rfl (lv_at hl 0 rfl) ?_
    refine g_X5_7 hx hb hown hts hK hW HB.1 (putAt (k := 0) (by decide)) dX5_putAside_15 ?_
    refine lv_iload_n hx hb dX5_putAside_18 rfl (lv_at hl 1 rfl) ?_
    obtain ⟨hin, hw⟩ := hw
    refine w_iald hx hb hK hW HB.2.1 (putAt (k := 1) (by decide)) hin dX5_putAside_19 ?_
    obtain ⟨hin, hw⟩ := hw
    obtain ⟨X_9, eX_9⟩ : ∃ z : ES, z = va_up X_2 2 (upd (X_2 2) i_1.toNatClampNeg ((X_2 1) i_1.toNatClampNeg)) := ⟨_, rfl⟩
    have hw := hw X_9 eX_9
    refine w_iast (E1 := put 7 o X_9 E0) hx hb hK hA hW hS HB.2.2.1 (putAt (k := 2) (by decide)) hin dX5_putAside_20 (puE (k := 2) (by decide) eX_9) (fun H locs hW hS => ?_)
    obtain ⟨v_10, ev_10⟩ : ∃ z : Int32, z = i_1 + 1 := ⟨_, rfl⟩
    have hw := hw v_10 ev_10
    refine lv_iinc (v := v_10) (lv' := [(1, .int v_10), (0, .ref o)]) hx hb dX5_putAside_21 hl (k := 1) rfl (by rw [ev_10]; rfl) (by decide) rfl (fun ls hl => ?_)
    refine lv_goto (tgt := 2) hx hb dX5_putAside_24 (by decide) ?_
    exact ih_2 (v_10, X_9) _ _ _ hw hW hS (lv_sub hl [1, 0] rfl)
set_option maxHeartbeats 4000000 in
set_option maxRecDepth 100000 in
theorem c_X5_putBack {l : Launch} {g : GG} {lay : LY} {E0 : ES} {o : Nat} {X : ES} {K : ES → Prop} (hA : okL g lay) (HB : ML g lay o) (hX : ∀ k, k < 7 → E0 (o + k) = X k) (hw : wp_X5_putBack X K) : JMv l g lay yX5_putBack wsX5_putBack rmX5_putBack [.ref o] E0 (fun E1 => ∃ X1 : ES, E1 = put 7 o X1 E0 ∧ K X1) := by
  refine Met.ofW (cc := cX5_putBack) (maxL := 2) (ret := none) (by decide) rfl ?_
  intro p e s m args below meth c s₁ B hml hv
  obtain ⟨rfl, hK, hW⟩ := hv
  have hx := B.exec
  have hb := B.bytes
  have hr := B.returns
  have hts := gd_of (atoms_spec (ws := wsX5_putBack) B.pre)
  have hown : s.vm.findClass RX5 = some m.cls := findClass_of_methodNamed B.named
  have hlocks := B.notSynchronized
  have hS : va_S (Ab g) s.heap s.heap [] := va_S.rf
  have hW : Wd g lay (put 7 o X E0) s.heap := by rw [putSelf hX]; exact hW
  have hl := lv_entry [.ref o] (n := 2) (Nat.le_of_ble_eq_true rfl)
  rw [lg_entry_eq]
  generalize (lg_sl [.ref o] ++ List.replicate (2 - (lg_sl [.ref o]).length) Slot.unset).toArray = ls at hl ⊢
  have hl : lv_has ls 2 [(0, .ref o)] := hl
  unfold wp_X5_putBack at hw
  refine lv_iconst (v := 0) hx hb dX5_putBack_0 (by decide) ?_
  refine lv_istore_n (lv' := [(1, .int 0), (0, .ref o)]) hx hb dX5_putBack_1 rfl hl (by decide) rfl (fun ls hl => ?_)
  obtain ⟨n_11, hw⟩ := hw
  refine w_loop (KT := Int32 → ES → Prop) (σ := Int32 × ES) (Wl := fun Kx_2 n_2 q => wpl_X5_putBack_2 K Kx_2 n_2 q.1 q.2) (Pw := fun q => Wd g lay (put 7 o q.2 E0)) (lvf := fun q => [(0, .ref o), (1, .int q.1)]) (nL := 2) n_11 (0, X) hw hW hS (lv_sub hl [1, 0] rfl) (fun _ h => h) (fun Kx_2 eK_2 n_2 q H locs ls hw hW hS hl ih_2 => ?_)
  obtain ⟨i_1, X_2⟩ := q
  try dsimp only at hw
  rw [wpl_X5_putBack_2] at hw
  have hl : lv_has ls 2 [(0, .ref o), (1, .int i_1)] := hl
  have hW : Wd g lay (put 7 o X_2 E0) H := hW
  refine lv_iload_n hx hb dX5_putBack_2 rfl (lv_at hl 1 rfl) ?_
  refine lv_sipush (v := 233) hx hb dX5_putBack_3 (by decide) ?_
  refine lv_icmp_ge (tgt := 27) hx hb dX5_putBack_6 (by decide) (fun c_8 => ?_) (fun c_8 => ?_)
  · have hw := hw.1 c_8
    rw [eK_2] at hw
    exact w_vret hx hb hr hlocks hW hS ⟨X_2, rfl, hw⟩ dX5_putBack_27
  · have hw := hw.2 c_8
    refine lv_aload_n hx hb dX5_putBack_9 rfl (lv_at hl 0 rfl) ?_
    refine g_X5_7 hx hb hown hts hK hW HB.1 (putAt (k := 0) (by decide)) dX5_putBack_10 ?_
    refine lv_iload_n hx hb dX5_putBack_13 rfl (lv_at hl 1 rfl) ?_
    refine lv_aload_n hx hb dX5_putBack_14 rfl (lv_at hl 0 rfl) ?_
    refine g_X5_13 hx hb hown hts hK hW HB.1 (putAt (k := 0) (by decide)) dX5_putBack_15 ?_
    refine lv_iload_n hx hb dX5_putBack_18 rfl (lv_at hl 1 rfl) ?_
    obtain ⟨hin, hw⟩ := hw
    refine w_iald hx hb hK hW HB.2.2.1 (putAt (k := 2) (by decide)) hin dX5_putBack_19 ?_
    obtain ⟨hin, hw⟩ := hw
    obtain ⟨X_9, eX_9⟩ : ∃ z : ES, z = va_up X_2 1 (upd (X_2 1) i_1.toNatClampNeg ((X_2 2) i_1.toNatClampNeg)) := ⟨_, rfl⟩
    have hw := hw X_9 eX_9
    refine w_iast (E1 := put 7 o X_9 E0) hx hb hK hA hW hS HB.2.1 (putAt (k := 1) (by decide)) hin dX5_putBack_20 (puE (k := 1) (by decide) eX_9) (fun H locs hW hS => ?_)
    obtain ⟨v_10, ev_10⟩ : ∃ z : Int32, z = i_1 + 1 := ⟨_, rfl⟩
    have hw := hw v_10 ev_10
    refine lv_iinc (v := v_10) (lv' := [(1, .int v_10), (0, .ref o)]) hx hb dX5_putBack_21 hl (k := 1) rfl (by rw [ev_10]; rfl) (by decide) rfl (fun ls hl => ?_)
    refine lv_goto (tgt := 2) hx hb dX5_putBack_24 (by decide) ?_
    exact ih_2 (v_10, X_9) _ _ _ hw hW hS (lv_sub hl [1, 0] rfl)
set_option maxHeartbeats 4000000 in
set_option maxRecDepth 100000 in
theorem c_X5_until {l : Launch} {g : GG} {lay : LY} {E0 : ES} {o : Nat} {X : ES} {p1 : Int32} {p2 : Int32} {p3 : Int32} {K : Int32 → ES → Prop} (hA : okL g lay) (HB : ML g lay o) (hX : ∀ k, k < 7 → E0 (o + k) = X k) (hw : wp_X5_until X p1 p2 p3 K) : JMi l g lay yX5_until wsX5_until rmX5_until [.ref o, .int p1, .int p2, .int p3] E0 (fun r E1 => ∃ X1 : ES, E1 = put 7 o X1 E0 ∧ K r X1) := by
  refine Met.ofW (cc := cX5_until) (maxL := 6) (ret := (some .int)) (by decide) rfl ?_
  intro p e s m args below meth c s₁ B hml hv
  obtain ⟨rfl, hK, hW⟩ := hv
  have hx := B.exec
  have hb := B.bytes
  have hr := B.returns
  have hts := gd_of (atoms_spec (ws := wsX5_until) B.pre)
  have hown : s.vm.findClass RX5 = some m.cls := findClass_of_methodNamed B.named
  have hlocks := B.notSynchronized
  have hS : va_S (Ab g) s.heap s.heap [] := va_S.rf
  have hW : Wd g lay (put 7 o X E0) s.heap := by rw [putSelf hX]; exact hW
  have hl := lv_entry [.ref o, .int p1, .int p2, .int p3] (n := 6) (Nat.le_of_ble_eq_true rfl)
  rw [lg_entry_eq]
  generalize (lg_sl [.ref o, .int p1, .int p2, .int p3] ++ List.replicate (6 - (lg_sl [.ref o, .int p1, .int p2, .int p3]).length) Slot.unset).toArray = ls at hl ⊢
  have hl : lv_has ls 6 [(0, .ref o), (1, .int p1), (2, .int p2), (3, .int p3)] := hl
  unfold wp_X5_until at hw
  refine lv_iload_n hx hb dX5_until_0 rfl (lv_at hl 1 rfl) ?_
  refine w_csi (As := [.int p1]) (rest := []) hx hb hml hown hts hK hW hS hl.1 (c_X5_isLine hw) (k_X5_64 hts ⟨Nat.le_of_ble_eq_true rfl, Nat.le_of_ble_eq_true rfl⟩) rfl rfl (Nat.le_of_ble_eq_true rfl) dX5_until_1 ⟨Nat.zero_le _, Nat.zero_le _⟩ (fun r_1 Ez H locs hw2 hW hS => ?_)
  obtain ⟨ez, z_2, hw⟩ := hw2
  rw [ez] at hW
  refine lv_if_ne (tgt := 9) hx hb dX5_until_4 (by decide) (fun c_3 => ?_) (fun c_3 => ?_)
  · have hw := hw.2 c_3
    refine lv_iload_n hx hb dX5_until_9 rfl (lv_at hl 2 rfl) ?_
    refine lv_iconst (v := 0) hx hb dX5_until_10 (by decide) ?_
    refine lv_bipush (v := 11) hx hb dX5_until_11 (by decide) ?_
    refine w_csi (As := [.int p2, .int 0, .int 11]) (rest := []) hx hb hml hown hts hK hW hS hl.1 (c_X5_in hw) (k_X5_33 hts ⟨Nat.le_of_ble_eq_true rfl, Nat.le_of_ble_eq_true rfl⟩) rfl rfl (Nat.le_of_ble_eq_true rfl) dX5_until_13 ⟨Nat.zero_le _, Nat.zero_le _⟩ (fun r_4 Ez H locs hw2 hW hS => ?_)
    obtain ⟨ez, z_5, hw⟩ := hw2
    rw [ez] at hW
    refine lv_if_eq (tgt := 30) hx hb dX5_until_16 (by decide) (fun c_6 => ?_) (fun c_6 => ?_)
    · have hw := hw.1 c_6
      refine lv_bipush (v := (-2)) hx hb dX5_until_30 (by decide) ?_
      exact w_iret hx hb hr hlocks hW hS ⟨X, rfl, hw⟩ dX5_until_32
    · have hw := hw.2 c_6
      refine lv_iload_n hx hb dX5_until_19 rfl (lv_at hl 3 rfl) ?_
      refine lv_iconst (v := 0) hx hb dX5_until_20 (by decide) ?_
      refine lv_sipush (v := 1000) hx hb dX5_until_21 (by decide) ?_
      refine w_csi (As := [.int p3, .int 0, .int 1000]) (rest := []) hx hb hml hown hts hK hW hS hl.1 (c_X5_in hw) (k_X5_33 hts ⟨Nat.le_of_ble_eq_true rfl, Nat.le_of_ble_eq_true rfl⟩) rfl rfl (Nat.le_of_ble_eq_true rfl) dX5_until_24 ⟨Nat.zero_le _, Nat.zero_le _⟩ (fun r_7 Ez H locs hw2 hW hS => ?_)
      obtain ⟨ez, z_8, hw⟩ := hw2
      rw [ez] at hW
      refine lv_if_ne (tgt := 33) hx hb dX5_until_27 (by decide) (fun c_9 => ?_) (fun c_9 => ?_)
      · have hw := hw.2 c_9
        refine lv_aload_n hx hb dX5_until_33 rfl (lv_at hl 0 rfl) ?_
        refine w_cvv (As := []) (rest := []) hx hb hml hown hts hK hW hS hl.1 (c_X5_putAside hA HB (fun k hk => putAt hk)  hw) (k_X5_169 hts ⟨Nat.le_of_ble_eq_true rfl, Nat.le_of_ble_eq_true rfl⟩) (w_recv hK hW HB.1 (putAt (k := 0) (by decide)) rfl rfl) rfl rfl (Nat.le_of_ble_eq_true rfl) dX5_until_34 ⟨Nat.zero_le _, Nat.zero_le _⟩ (fun Ez H locs hw2 hW hS => ?_)
        obtain ⟨X_10, ez, hw⟩ := hw2
        rw [ez, putPut] at hW
        refine lv_iconst (v := 0) hx hb dX5_until_37 (by decide) ?_
        refine lv_istore (lv' := [(4, .int 0), (0, .ref o), (1, .int p1), (2, .int p2), (3, .int p3)]) hx hb dX5_until_38 hl (by decide) rfl (fun ls hl => ?_)
        obtain ⟨n_48, hw⟩ := hw
        refine w_loop (KT := Int32 → ES → Prop) (σ := Int32 × ES) (Wl := fun Kx_40 n_40 q => wpl_X5_until_40 p1 p2 p3 K Kx_40 n_40 q.1 q.2) (Pw := fun q => Wd g lay (put 7 o q.2 E0)) (lvf := fun q => [(0, .ref o), (1, .int p1), (2, .int p2), (3, .int p3), (4, .int q.1)]) (nL := 6) n_48 (0, X_10) hw hW hS (lv_sub hl [1, 2, 3, 4, 0] rfl) (fun _ h => h) (fun Kx_40 eK_40 n_40 q H locs ls hw hW hS hl ih_40 => ?_)
        obtain ⟨i_11, X_12⟩ := q
        try dsimp only at hw
        rw [wpl_X5_until_40] at hw
        have hl : lv_has ls 6 [(0, .ref o), (1, .int p1), (2, .int p2), (3, .int p3), (4, .int i_11)] := hl
        have hW : Wd g lay (put 7 o X_12 E0) H := hW
        refine lv_iload hx hb dX5_until_40 (lv_at hl 4 rfl) ?_
        refine lv_iload_n hx hb dX5_until_42 rfl (lv_at hl 3 rfl) ?_
        refine lv_icmp_ge (tgt := 66) hx hb dX5_until_43 (by decide) (fun c_35 => ?_) (fun c_35 => ?_)
        · have hw := hw.1 c_35
          rw [eK_40] at hw
          refine lv_aload_n hx hb dX5_until_66 rfl (lv_at hl 0 rfl) ?_
          refine lv_iload_n hx hb dX5_until_67 rfl (lv_at hl 1 rfl) ?_
          refine lv_iconst (v := 0) hx hb dX5_until_68 (by decide) ?_
          refine w_cvi (As := [.int p1, .int 0]) (rest := []) hx hb hml hown hts hK hW hS hl.1 (c_X5_of hA HB (fun k hk => putAt hk)  hw) (k_X5_67 hts ⟨Nat.le_of_ble_eq_true rfl, Nat.le_of_ble_eq_true rfl⟩) (w_recv hK hW HB.1 (putAt (k := 0) (by decide)) rfl rfl) rfl rfl (Nat.le_of_ble_eq_true rfl) dX5_until_69 ⟨Nat.zero_le _, Nat.zero_le _⟩ (fun r_36 Ez H locs hw2 hW hS => ?_)
          obtain ⟨ez, hw⟩ := hw2
          rw [ez] at hW
          refine lv_iload_n hx hb dX5_until_72 rfl (lv_at hl 2 rfl) ?_
          refine lv_icmp_ne (tgt := 80) hx hb dX5_until_73 (by decide) (fun c_37 => ?_) (fun c_37 => ?_)
          · have hw := hw.2 c_37
            refine lv_iconst (v := 0) hx hb dX5_until_80 (by decide) ?_
            refine lv_istore (lv' := [(5, .int 0), (0, .ref o), (1, .int p1), (2, .int p2), (3, .int p3), (4, .int i_11)]) hx hb dX5_until_81 hl (by decide) rfl (fun ls hl => ?_)
            refine lv_aload_n hx hb dX5_until_83 rfl (lv_at hl 1 rfl) ?_
            refine w_cvv (As := []) (rest := []) hx hb hml hown hts hK hW hS hl.1 (c_X5_putBack hA HB (fun k hk => putAt hk)  hw) (k_X5_172 hts ⟨Nat.le_of_ble_eq_true rfl, Nat.le_of_ble_eq_true rfl⟩) (w_recv hK hW HB.1 (putAt (k := 0) (by decide)) rfl rfl) rfl rfl (Nat.le_of_ble_eq_true rfl) dX5_until_84 ⟨Nat.zero_le _, Nat.zero_le _⟩ (fun Ez H locs hw2 hW hS => ?_)
            obtain ⟨X_38, ez, hw⟩ := hw2
            rw [ez, putPut] at hW
            refine lv_iload hx hb dX5_until_87 (lv_at hl 0 rfl) ?_
            refine lv_if_eq (tgt := 97) hx hb dX5_until_89 (by decide) (fun _ => ?_) (fun cz => absurd cz (by decide))
            refine lv_bipush (v := (-6)) hx hb dX5_until_97 (by decide) ?_
            exact w_iret hx hb hr hlocks hW hS ⟨X_38, rfl, hw⟩ dX5_until_99
          · have hw := hw.1 c_37
            refine lv_iconst (v := 1) hx hb dX5_until_76 (by decide) ?_
            refine lv_goto (tgt := 81) hx hb dX5_until_77 (by decide) ?_
            refine lv_istore (lv' := [(5, .int 1), (0, .ref o), (1, .int p1), (2, .int p2), (3, .int p3), (4, .int i_11)]) hx hb dX5_until_81 hl (by decide) rfl (fun ls hl => ?_)
            refine lv_aload_n hx hb dX5_until_83 rfl (lv_at hl 1 rfl) ?_
            refine w_cvv (As := []) (rest := []) hx hb hml hown hts hK hW hS hl.1 (c_X5_putBack hA HB (fun k hk => putAt hk)  hw) (k_X5_172 hts ⟨Nat.le_of_ble_eq_true rfl, Nat.le_of_ble_eq_true rfl⟩) (w_recv hK hW HB.1 (putAt (k := 0) (by decide)) rfl rfl) rfl rfl (Nat.le_of_ble_eq_true rfl) dX5_until_84 ⟨Nat.zero_le _, Nat.zero_le _⟩ (fun Ez H locs hw2 hW hS => ?_)
            obtain ⟨X_39, ez, hw⟩ := hw2
            rw [ez, putPut] at hW
            refine lv_iload hx hb dX5_until_87 (lv_at hl 0 rfl) ?_
            refine lv_if_eq (tgt := 97) hx hb dX5_until_89 (by decide) (fun cz => absurd cz (by decide)) (fun _ => ?_)
            refine lv_iload hx hb dX5_until_92 (lv_at hl 5 rfl) ?_
            refine lv_goto (tgt := 99) hx hb dX5_until_94 (by decide) ?_
            exact w_iret hx hb hr hlocks hW hS ⟨X_39, rfl, hw⟩ dX5_until_99
        · have hw := hw.2 c_35
          refine lv_aload_n hx hb dX5_until_46 rfl (lv_at hl 0 rfl) ?_
          refine lv_iload_n hx hb dX5_until_47 rfl (lv_at hl 1 rfl) ?_
          refine lv_iconst (v := 0) hx hb dX5_until_48 (by decide) ?_
          refine w_cvi (As := [.int p1, .int 0]) (rest := []) hx hb hml hown hts hK hW hS hl.1 (c_X5_of hA HB (fun k hk => putAt hk)  hw) (k_X5_67 hts ⟨Nat.le_of_ble_eq_true rfl, Nat.le_of_ble_eq_true rfl⟩) (w_recv hK hW HB.1 (putAt (k := 0) (by decide)) rfl rfl) rfl rfl (Nat.le_of_ble_eq_true rfl) dX5_until_49 ⟨Nat.zero_le _, Nat.zero_le _⟩ (fun r_40 Ez H locs hw2 hW hS => ?_)
          obtain ⟨ez, hw⟩ := hw2
          rw [ez] at hW
          refine lv_iload_n hx hb dX5_until_52 rfl (lv_at hl 2 rfl) ?_
          refine lv_icmp_eq (tgt := 66) hx hb dX5_until_53 (by decide) (fun c_41 => ?_) (fun c_41 => ?_)
          · have hw := hw.1 c_41
            rw [eK_40] at hw
            refine lv_aload_n hx hb dX5_until_66 rfl (lv_at hl 0 rfl) ?_
            refine lv_iload_n hx hb dX5_until_67 rfl (lv_at hl 1 rfl) ?_
            refine lv_iconst (v := 0) hx hb dX5_until_68 (by decide) ?_
            refine w_cvi (As := [.int p1, .int 0]) (rest := []) hx hb hml hown hts hK hW hS hl.1 (c_X5_of hA HB (fun k hk => putAt hk)  hw) (k_X5_67 hts ⟨Nat.le_of_ble_eq_true rfl, Nat.le_of_ble_eq_true rfl⟩) (w_recv hK hW HB.1 (putAt (k := 0) (by decide)) rfl rfl) rfl rfl (Nat.le_of_ble_eq_true rfl) dX5_until_69 ⟨Nat.zero_le _, Nat.zero_le _⟩ (fun r_42 Ez H locs hw2 hW hS => ?_)
            obtain ⟨ez, hw⟩ := hw2
            rw [ez] at hW
            refine lv_iload_n hx hb dX5_until_72 rfl (lv_at hl 2 rfl) ?_
            refine lv_icmp_ne (tgt := 80) hx hb dX5_until_73 (by decide) (fun c_43 => ?_) (fun c_43 => ?_)
            · have hw := hw.2 c_43
              refine lv_iconst (v := 0) hx hb dX5_until_80 (by decide) ?_
              refine lv_istore (lv' := [(5, .int 0), (0, .ref o), (1, .int p1), (2, .int p2), (3, .int p3), (4, .int i_11)]) hx hb dX5_until_81 hl (by decide) rfl (fun ls hl => ?_)
              refine lv_aload_n hx hb dX5_until_83 rfl (lv_at hl 1 rfl) ?_
              refine w_cvv (As := []) (rest := []) hx hb hml hown hts hK hW hS hl.1 (c_X5_putBack hA HB (fun k hk => putAt hk)  hw) (k_X5_172 hts ⟨Nat.le_of_ble_eq_true rfl, Nat.le_of_ble_eq_true rfl⟩) (w_recv hK hW HB.1 (putAt (k := 0) (by decide)) rfl rfl) rfl rfl (Nat.le_of_ble_eq_true rfl) dX5_until_84 ⟨Nat.zero_le _, Nat.zero_le _⟩ (fun Ez H locs hw2 hW hS => ?_)
              obtain ⟨X_44, ez, hw⟩ := hw2
              rw [ez, putPut] at hW
              refine lv_iload hx hb dX5_until_87 (lv_at hl 0 rfl) ?_
              refine lv_if_eq (tgt := 97) hx hb dX5_until_89 (by decide) (fun _ => ?_) (fun cz => absurd cz (by decide))
              refine lv_bipush (v := (-6)) hx hb dX5_until_97 (by decide) ?_
              exact w_iret hx hb hr hlocks hW hS ⟨X_44, rfl, hw⟩ dX5_until_99
            · have hw := hw.1 c_43
              refine lv_iconst (v := 1) hx hb dX5_until_76 (by decide) ?_
              refine lv_goto (tgt := 81) hx hb dX5_until_77 (by decide) ?_
              refine lv_istore (lv' := [(5, .int 1), (0, .ref o), (1, .int p1), (2, .int p2), (3, .int p3), (4, .int i_11)]) hx hb dX5_until_81 hl (by decide) rfl (fun ls hl => ?_)
              refine lv_aload_n hx hb dX5_until_83 rfl (lv_at hl 1 rfl) ?_
              refine w_cvv (As := []) (rest := []) hx hb hml hown hts hK hW hS hl.1 (c_X5_putBack hA HB (fun k hk => putAt hk)  hw) (k_X5_172 hts ⟨Nat.le_of_ble_eq_true rfl, Nat.le_of_ble_eq_true rfl⟩) (w_recv hK hW HB.1 (putAt (k := 0) (by decide)) rfl rfl) rfl rfl (Nat.le_of_ble_eq_true rfl) dX5_until_84 ⟨Nat.zero_le _, Nat.zero_le _⟩ (fun Ez H locs hw2 hW hS => ?_)
              obtain ⟨X_45, ez, hw⟩ := hw2
              rw [ez, putPut] at hW
              refine lv_iload hx hb dX5_until_87 (lv_at hl 0 rfl) ?_
              refine lv_if_eq (tgt := 97) hx hb dX5_until_89 (by decide) (fun cz => absurd cz (by decide)) (fun _ => ?_)
              refine lv_iload hx hb dX5_until_92 (lv_at hl 5 rfl) ?_
              refine lv_goto (tgt := 99) hx hb dX5_until_94 (by decide) ?_
              exact w_iret hx hb hr hlocks hW hS ⟨X_45, rfl, hw⟩ dX5_until_99
          · have hw := hw.2 c_41
            refine lv_aload_n hx hb dX5_until_56 rfl (lv_at hl 0 rfl) ?_
            refine w_cvv (As := []) (rest := []) hx hb hml hown hts hK hW hS hl.1 (c_X5_makeTick hA HB (fun k hk => putAt hk)  hw) (k_X5_137 hts ⟨Nat.le_of_ble_eq_true rfl, Nat.le_of_ble_eq_true rfl⟩) (w_recv hK hW HB.1 (putAt (k := 0) (by decide)) rfl rfl) rfl rfl (Nat.le_of_ble_eq_true rfl) dX5_until_57 ⟨Nat.zero_le _, Nat.zero_le _⟩ (fun Ez H locs hw2 hW hS => ?_)
            obtain ⟨X_46, ez, hw⟩ := hw2
            rw [ez, putPut] at hW
            obtain ⟨v_47, ev_47⟩ : ∃ z : Int32, z = i_11 + 1 := ⟨_, rfl⟩
            have hw := hw v_47 ev_47
            refine lv_iinc (v := v_47) (lv' := [(4, .int v_47), (0, .ref o), (1, .int p1), (2, .int p2), (3, .int p3)]) hx hb dX5_until_60 hl (k := 4) rfl (by rw [ev_47]; rfl) (by decide) rfl (fun ls hl => ?_)
            refine lv_goto (tgt := 40) hx hb dX5_until_63 (by decide) ?_
            exact ih_40 (v_47, X_46) _ _ _ hw hW hS (lv_sub hl [1, 2, 3, 4, 0] rfl)
      · have hw := hw.1 c_9
        refine lv_bipush (v := (-2)) hx hb dX5_until_30 (by decide) ?_
        exact w_iret hx hb hr hlocks hW hS ⟨X, rfl, hw⟩ dX5_until_32
  · have hw := hw.1 c_3
    refine lv_iconst (v := (-1)) hx hb dX5_until_7 (by decide) ?_
    exact w_iret hx hb hr hlocks hW hS ⟨X, rfl, hw⟩ dX5_until_8
set_option maxHeartbeats 4000000 in
set_option maxRecDepth 100000 in
theorem c_X5_isEnd {l : Launch} {g : GG} {lay : LY} {E0 : ES} {p1 : Int32} {K : Int32 → Prop} (hw : wp_X5_isEnd p1 K) : JMi l g lay yX5_isEnd wsX5_isEnd rmX5_isEnd [.int p1] E0 (fun r E1 => E1 = E0 ∧ (r = 0 ∨ r = 1) ∧ K r) := by
  refine Met.ofW (cc := cX5_isEnd) (maxL := 1) (ret := (some .boolean)) (by decide) rfl ?_
  intro p e s m args below meth c s₁ B hml hv
  obtain ⟨rfl, hK, hW⟩ := hv
  have hx := B.exec
  have hb := B.bytes
  have hr := B.returns
  have hts := gd_of (atoms_spec (ws := wsX5_isEnd) B.pre)
  have hown : s.vm.findClass RX5 = some m.cls := findClass_of_methodNamed B.named
  have hlocks := B.notSynchronized
  have hS : va_S (Ab g) s.heap s.heap [] := va_S.rf
  have hl := lv_entry [.int p1] (n := 1) (Nat.le_of_ble_eq_true rfl)
  rw [lg_entry_eq]
  generalize (lg_sl [.int p1] ++ List.replicate (1 - (lg_sl [.int p1]).length) Slot.unset).toArray = ls at hl ⊢
  have hl : lv_has ls 1 [(0, .int p1)] := hl
  unfold wp_X5_isEnd at hw
  refine lv_iload_n hx hb dX5_isEnd_0 rfl (lv_at hl 0 rfl) ?_
  refine lv_iconst (v := 4) hx hb dX5_isEnd_1 (by decide) ?_
  refine lv_icmp_eq (tgt := 16) hx hb dX5_isEnd_2 (by decide) (fun c_1 => ?_) (fun c_1 => ?_)
  · have hw := hw.1 c_1
    refine lv_iconst (v := 1) hx hb dX5_isEnd_16 (by decide) ?_
    refine lv_goto (tgt := 21) hx hb dX5_isEnd_17 (by decide) ?_
    exact w_zret hx hb hr hlocks hW hS (Or.inr rfl) ⟨rfl, (Or.inr rfl), hw⟩ dX5_isEnd_21
  · have hw := hw.2 c_1
    refine lv_iload_n hx hb dX5_isEnd_5 rfl (lv_at hl 0 rfl) ?_
    refine lv_bipush (v := 8) hx hb dX5_isEnd_6 (by decide) ?_
    refine lv_bipush (v := 11) hx hb dX5_isEnd_8 (by decide) ?_
    refine w_csi (As := [.int p1, .int 8, .int 11]) (rest := []) hx hb hml hown hts hK hW hS hl.1 (c_X5_in hw) (k_X5_33 hts ⟨Nat.le_of_ble_eq_true rfl, Nat.le_of_ble_eq_true rfl⟩) rfl rfl (Nat.le_of_ble_eq_true rfl) dX5_isEnd_10 ⟨Nat.zero_le _, Nat.zero_le _⟩ (fun r_2 Ez H locs hw2 hW hS => ?_)
    obtain ⟨ez, z_3, hw⟩ := hw2
    rw [ez] at hW
    refine lv_if_eq (tgt := 20) hx hb dX5_isEnd_13 (by decide) (fun c_4 => ?_) (fun c_4 => ?_)
    · have hw := hw.1 c_4
      refine lv_iconst (v := 0) hx hb dX5_isEnd_20 (by decide) ?_
      exact w_zret hx hb hr hlocks hW hS (Or.inl rfl) ⟨rfl, (Or.inl rfl), hw⟩ dX5_isEnd_21
    · have hw := hw.2 c_4
      refine lv_iconst (v := 1) hx hb dX5_isEnd_16 (by decide) ?_
      refine lv_goto (tgt := 21) hx hb dX5_isEnd_17 (by decide) ?_
      exact w_zret hx hb hr hlocks hW hS (Or.inr rfl) ⟨rfl, (Or.inr rfl), hw⟩ dX5_isEnd_21
set_option maxHeartbeats 4000000 in
set_option maxRecDepth 100000 in
theorem c_X5_attempt {l : Launch} {g : GG} {lay : LY} {E0 : ES} {o : Nat} {X : ES} {p1 : Int32} {p2 : Int32} {p3 : Int32} {K : Int32 → ES → Prop} (hA : okL g lay) (HB : ML g lay o) (hX : ∀ k, k < 7 → E0 (o + k) = X k) (hw : wp_X5_attempt X p1 p2 p3 K) : JMi l g lay yX5_attempt wsX5_attempt rmX5_attempt [.ref o, .int p1, .int p2, .int p3] E0 (fun r E1 => ∃ X1 : ES, E1 = put 7 o X1 E0 ∧ K r X1) := by
  refine Met.ofW (cc := cX5_attempt) (maxL := 7) (ret := (some .int)) (by decide) rfl ?_
  intro p e s m args below meth c s₁ B hml hv
  obtain ⟨rfl, hK, hW⟩ := hv
  have hx := B.exec
  have hb := B.bytes
  have hr := B.returns
  have hts := gd_of (atoms_spec (ws := wsX5_attempt) B.pre)
  have hown : s.vm.findClass RX5 = some m.cls := findClass_of_methodNamed B.named
  have hlocks := B.notSynchronized
  have hS : va_S (Ab g) s.heap s.heap [] := va_S.rf
  have hW : Wd g lay (put 7 o X E0) s.heap := by rw [putSelf hX]; exact hW
  have hl := lv_entry [.ref o, .int p1, .int p2, .int p3] (n := 7) (Nat.le_of_ble_eq_true rfl)
  rw [lg_entry_eq]
  generalize (lg_sl [.ref o, .int p1, .int p2, .int p3] ++ List.replicate (7 - (lg_sl [.ref o, .int p1, .int p2, .int p3]).length) Slot.unset).toArray = ls at hl ⊢
  have hl : lv_has ls 7 [(0, .ref o), (1, .int p1), (2, .int p2), (3, .int p3)] := hl
  unfold wp_X5_attempt at hw
  refine lv_iload_n hx hb dX5_attempt_0 rfl (lv_at hl 1 rfl) ?_
  refine w_csi (As := [.int p1]) (rest := []) hx hb hml hown hts hK hW hS hl.1 (c_X5_isLine hw) (k_X5_64 hts ⟨Nat.le_of_ble_eq_true rfl, Nat.le_of_ble_eq_true rfl⟩) rfl rfl (Nat.le_of_ble_eq_true rfl) dX5_attempt_1 ⟨Nat.zero_le _, Nat.zero_le _⟩ (fun r_1 Ez H locs hw2 hW hS => ?_)
  obtain ⟨ez, z_2, hw⟩ := hw2
  rw [ez] at hW
  refine lv_if_eq (tgt := 14) hx hb dX5_attempt_4 (by decide) (fun c_3 => ?_) (fun c_3 => ?_)
  · have hw := hw.1 c_3
    refine lv_iconst (v := (-1)) hx hb dX5_attempt_14 (by decide) ?_
    exact w_iret hx hb hr hlocks hW hS ⟨X, rfl, hw⟩ dX5_attempt_15
  · have hw := hw.2 c_3
    refine lv_iload_n hx hb dX5_attempt_7 rfl (lv_at hl 2 rfl) ?_
    refine w_csi (As := [.int p2]) (rest := []) hx hb hml hown hts hK hW hS hl.1 (c_X5_isLine hw) (k_X5_64 hts ⟨Nat.le_of_ble_eq_true rfl, Nat.le_of_ble_eq_true rfl⟩) rfl rfl (Nat.le_of_ble_eq_true rfl) dX5_attempt_8 ⟨Nat.zero_le _, Nat.zero_le _⟩ (fun r_4 Ez H locs hw2 hW hS => ?_)
    obtain ⟨ez, z_5, hw⟩ := hw2
    rw [ez] at hW
    refine lv_if_ne (tgt := 16) hx hb dX5_attempt_11 (by decide) (fun c_6 => ?_) (fun c_6 => ?_)
    · have hw := hw.2 c_6
      refine lv_iload_n hx hb dX5_attempt_16 rfl (lv_at hl 3 rfl) ?_
      refine lv_iconst (v := 0) hx hb dX5_attempt_17 (by decide) ?_
      refine lv_iconst (v := 1) hx hb dX5_attempt_18 (by decide) ?_
      refine w_csi (As := [.int p3, .int 0, .int 1]) (rest := []) hx hb hml hown hts hK hW hS hl.1 (c_X5_in hw) (k_X5_33 hts ⟨Nat.le_of_ble_eq_true rfl, Nat.le_of_ble_eq_true rfl⟩) rfl rfl (Nat.le_of_ble_eq_true rfl) dX5_attempt_19 ⟨Nat.zero_le _, Nat.zero_le _⟩ (fun r_7 Ez H locs hw2 hW hS => ?_)
      obtain ⟨ez, z_8, hw⟩ := hw2
      rw [ez] at hW
      refine lv_if_ne (tgt := 28) hx hb dX5_attempt_22 (by decide) (fun c_9 => ?_) (fun c_9 => ?_)
      · have hw := hw.2 c_9
        refine lv_aload_n hx hb dX5_attempt_28 rfl (lv_at hl 0 rfl) ?_
        refine lv_iload_n hx hb dX5_attempt_29 rfl (lv_at hl 1 rfl) ?_
        refine lv_iconst (v := 0) hx hb dX5_attempt_30 (by decide) ?_
        refine w_cvi (As := [.int p1, .int 0]) (rest := []) hx hb hml hown hts hK hW hS hl.1 (c_X5_of hA HB (fun k hk => putAt hk)  hw) (k_X5_67 hts ⟨Nat.le_of_ble_eq_true rfl, Nat.le_of_ble_eq_true rfl⟩) (w_recv hK hW HB.1 (putAt (k := 0) (by decide)) rfl rfl) rfl rfl (Nat.le_of_ble_eq_true rfl) dX5_attempt_31 ⟨Nat.zero_le _, Nat.zero_le _⟩ (fun r_10 Ez H locs hw2 hW hS => ?_)
        obtain ⟨ez, hw⟩ := hw2
        rw [ez] at hW
        refine lv_if_eq (tgt := 40) hx hb dX5_attempt_34 (by decide) (fun c_11 => ?_) (fun c_11 => ?_)
        · have hw := hw.1 c_11
          refine lv_aload_n hx hb dX5_attempt_40 rfl (lv_at hl 0 rfl) ?_
          refine w_cvv (As := []) (rest := []) hx hb hml hown hts hK hW hS hl.1 (c_X5_putAside hA HB (fun k hk => putAt hk)  hw) (k_X5_169 hts ⟨Nat.le_of_ble_eq_true rfl, Nat.le_of_ble_eq_true rfl⟩) (w_recv hK hW HB.1 (putAt (k := 0) (by decide)) rfl rfl) rfl rfl (Nat.le_of_ble_eq_true rfl) dX5_attempt_41 ⟨Nat.zero_le _, Nat.zero_le _⟩ (fun Ez H locs hw2 hW hS => ?_)
          obtain ⟨X_12, ez, hw⟩ := hw2
          rw [ez, putPut] at hW
          refine lv_aload_n hx hb dX5_attempt_44 rfl (lv_at hl 0 rfl) ?_
          refine lv_iload_n hx hb dX5_attempt_45 rfl (lv_at hl 1 rfl) ?_
          refine w_cvi (As := [.int p1]) (rest := []) hx hb hml hown hts hK hW hS hl.1 (c_X5_lift hA HB (fun k hk => putAt hk)  hw) (k_X5_175 hts ⟨Nat.le_of_ble_eq_true rfl, Nat.le_of_ble_eq_true rfl⟩) (w_recv hK hW HB.1 (putAt (k := 0) (by decide)) rfl rfl) rfl rfl (Nat.le_of_ble_eq_true rfl) dX5_attempt_46 ⟨Nat.zero_le _, Nat.zero_le _⟩ (fun r_13 Ez H locs hw2 hW hS => ?_)
          obtain ⟨X_14, ez, hw⟩ := hw2
          rw [ez, putPut] at hW
          refine lv_istore (lv' := [(4, .int r_13), (0, .ref o), (1, .int p1), (2, .int p2), (3, .int p3)]) hx hb dX5_attempt_49 hl (by decide) rfl (fun ls hl => ?_)
          refine lv_iconst (v := 0) hx hb dX5_attempt_51 (by decide) ?_
          refine lv_istore (lv' := [(5, .int 0), (4, .int r_13), (0, .ref o), (1, .int p1), (2, .int p2), (3, .int p3)]) hx hb dX5_attempt_52 hl (by decide) rfl (fun ls hl => ?_)
          refine lv_iconst (v := 0) hx hb dX5_attempt_54 (by decide) ?_
          refine lv_istore (lv' := [(6, .int 0), (5, .int 0), (4, .int r_13), (0, .ref o), (1, .int p1), (2, .int p2), (3, .int p3)]) hx hb dX5_attempt_55 hl (by decide) rfl (fun ls hl => ?_)
          obtain ⟨n_76, hw⟩ := hw
          refine w_loop (KT := Int32 → Int32 → Int32 → ES → Prop) (σ := Int32 × Int32 × Int32 × ES) (Wl := fun Kx_57 n_57 q => wpl_X5_attempt_57 p1 p2 K Kx_57 n_57 q.1 q.2.1 q.2.2.1 q.2.2.2) (Pw := fun q => Wd g lay (put 7 o q.2.2.2 E0)) (lvf := fun q => [(0, .ref o), (1, .int p1), (2, .int p2), (3, .int p3), (4, .int q.1), (5, .int q.2.1), (6, .int q.2.2.1)]) (nL := 7) n_76 (r_13, 0, 0, X_14) hw hW hS (lv_sub hl [3, 4, 5, 6, 2, 1, 0] rfl) (fun _ h => h) (fun Kx_57 eK_57 n_57 q H locs ls hw hW hS hl ih_57 => ?_)
          obtain ⟨i_15, i_16, i_17, X_18⟩ := q
          try dsimp only at hw
          rw [wpl_X5_attempt_57] at hw
          have hl : lv_has ls 7 [(0, .ref o), (1, .int p1), (2, .int p2), (3, .int p3), (4, .int i_15), (5, .int i_16), (6, .int i_17)] := hl
          have hW : Wd g lay (put 7 o X_18 E0) H := hW
          refine lv_iload hx hb dX5_attempt_57 (lv_at hl 5 rfl) ?_
          refine lv_sipush (v := 500) hx hb dX5_attempt_59 (by decide) ?_
          refine lv_icmp_ge (tgt := 128) hx hb dX5_attempt_62 (by decide) (fun c_53 => ?_) (fun c_53 => ?_)
          · have hw := hw.1 c_53
            rw [eK_57] at hw
            refine lv_iload_n hx hb dX5_attempt_128 rfl (lv_at hl 3 rfl) ?_
            refine lv_if_ne (tgt := 141) hx hb dX5_attempt_129 (by decide) (fun c_54 => ?_) (fun c_54 => ?_)
            · have hw := hw.2 c_54
              refine lv_iload hx hb dX5_attempt_141 (lv_at hl 5 rfl) ?_
              refine lv_istore (lv' := [(4, .int i_16), (0, .ref o), (1, .int p1), (2, .int p2), (3, .int p3), (5, .int i_16), (6, .int i_17)]) hx hb dX5_attempt_143 hl (by decide) rfl (fun ls hl => ?_)
              refine lv_aload_n hx hb dX5_attempt_145 rfl (lv_at hl 1 rfl) ?_
              refine w_cvv (As := []) (rest := []) hx hb hml hown hts hK hW hS hl.1 (c_X5_putBack hA HB (fun k hk => putAt hk)  hw) (k_X5_172 hts ⟨Nat.le_of_ble_eq_true rfl, Nat.le_of_ble_eq_true rfl⟩) (w_recv hK hW HB.1 (putAt (k := 0) (by decide)) rfl rfl) rfl rfl (Nat.le_of_ble_eq_true rfl) dX5_attempt_146 ⟨Nat.zero_le _, Nat.zero_le _⟩ (fun Ez H locs hw2 hW hS => ?_)
              obtain ⟨X_55, ez, hw⟩ := hw2
              rw [ez, putPut] at hW
              refine lv_iload hx hb dX5_attempt_149 (lv_at hl 0 rfl) ?_
              exact w_iret hx hb hr hlocks hW hS ⟨X_55, rfl, hw⟩ dX5_attempt_151
            · have hw := hw.1 c_54
              refine lv_aload_n hx hb dX5_attempt_132 rfl (lv_at hl 0 rfl) ?_
              refine lv_iload_n hx hb dX5_attempt_133 rfl (lv_at hl 1 rfl) ?_
              refine lv_iconst (v := 0) hx hb dX5_attempt_134 (by decide) ?_
              refine w_cvi (As := [.int p1, .int 0]) (rest := []) hx hb hml hown hts hK hW hS hl.1 (c_X5_of hA HB (fun k hk => putAt hk)  hw) (k_X5_67 hts ⟨Nat.le_of_ble_eq_true rfl, Nat.le_of_ble_eq_true rfl⟩) (w_recv hK hW HB.1 (putAt (k := 0) (by decide)) rfl rfl) rfl rfl (Nat.le_of_ble_eq_true rfl) dX5_attempt_135 ⟨Nat.zero_le _, Nat.zero_le _⟩ (fun r_56 Ez H locs hw2 hW hS => ?_)
              obtain ⟨ez, hw⟩ := hw2
              rw [ez] at hW
              refine lv_goto (tgt := 143) hx hb dX5_attempt_138 (by decide) ?_
              refine lv_istore (lv' := [(4, .int r_56), (0, .ref o), (1, .int p1), (2, .int p2), (3, .int p3), (5, .int i_16), (6, .int i_17)]) hx hb dX5_attempt_143 hl (by decide) rfl (fun ls hl => ?_)
              refine lv_aload_n hx hb dX5_attempt_145 rfl (lv_at hl 1 rfl) ?_
              refine w_cvv (As := []) (rest := []) hx hb hml hown hts hK hW hS hl.1 (c_X5_putBack hA HB (fun k hk => putAt hk)  hw) (k_X5_172 hts ⟨Nat.le_of_ble_eq_true rfl, Nat.le_of_ble_eq_true rfl⟩) (w_recv hK hW HB.1 (putAt (k := 0) (by decide)) rfl rfl) rfl rfl (Nat.le_of_ble_eq_true rfl) dX5_attempt_146 ⟨Nat.zero_le _, Nat.zero_le _⟩ (fun Ez H locs hw2 hW hS => ?_)
              obtain ⟨X_57, ez, hw⟩ := hw2
              rw [ez, putPut] at hW
              refine lv_iload hx hb dX5_attempt_149 (lv_at hl 0 rfl) ?_
              exact w_iret hx hb hr hlocks hW hS ⟨X_57, rfl, hw⟩ dX5_attempt_151
          · have hw := hw.2 c_53
            refine lv_aload_n hx hb dX5_attempt_65 rfl (lv_at hl 0 rfl) ?_
            refine lv_iload_n hx hb dX5_attempt_66 rfl (lv_at hl 1 rfl) ?_
            refine lv_iconst (v := 0) hx hb dX5_attempt_67 (by decide) ?_
            refine w_cvi (As := [.int p1, .int 0]) (rest := []) hx hb hml hown hts hK hW hS hl.1 (c_X5_of hA HB (fun k hk => putAt hk)  hw) (k_X5_67 hts ⟨Nat.le_of_ble_eq_true rfl, Nat.le_of_ble_eq_true rfl⟩) (w_recv hK hW HB.1 (putAt (k := 0) (by decide)) rfl rfl) rfl rfl (Nat.le_of_ble_eq_true rfl) dX5_attempt_68 ⟨Nat.zero_le _, Nat.zero_le _⟩ (fun r_58 Ez H locs hw2 hW hS => ?_)
            obtain ⟨ez, hw⟩ := hw2
            rw [ez] at hW
            refine w_csi (As := [.int r_58]) (rest := []) hx hb hml hown hts hK hW hS hl.1 (c_X5_isEnd hw) (k_X5_178 hts ⟨Nat.le_of_ble_eq_true rfl, Nat.le_of_ble_eq_true rfl⟩) rfl rfl (Nat.le_of_ble_eq_true rfl) dX5_attempt_71 ⟨Nat.zero_le _, Nat.zero_le _⟩ (fun r_59 Ez H locs hw2 hW hS => ?_)
            obtain ⟨ez, z_60, hw⟩ := hw2
            rw [ez] at hW
            refine lv_if_ne (tgt := 128) hx hb dX5_attempt_74 (by decide) (fun c_61 => ?_) (fun c_61 => ?_)
            · have hw := hw.2 c_61
              rw [eK_57] at hw
              refine lv_iload_n hx hb dX5_attempt_128 rfl (lv_at hl 3 rfl) ?_
              refine lv_if_ne (tgt := 141) hx hb dX5_attempt_129 (by decide) (fun c_62 => ?_) (fun c_62 => ?_)
              · have hw := hw.2 c_62
                refine lv_iload hx hb dX5_attempt_141 (lv_at hl 5 rfl) ?_
                refine lv_istore (lv' := [(4, .int i_16), (0, .ref o), (1, .int p1), (2, .int p2), (3, .int p3), (5, .int i_16), (6, .int i_17)]) hx hb dX5_attempt_143 hl (by decide) rfl (fun ls hl => ?_)
                refine lv_aload_n hx hb dX5_attempt_145 rfl (lv_at hl 1 rfl) ?_
                refine w_cvv (As := []) (rest := []) hx hb hml hown hts hK hW hS hl.1 (c_X5_putBack hA HB (fun k hk => putAt hk)  hw) (k_X5_172 hts ⟨Nat.le_of_ble_eq_true rfl, Nat.le_of_ble_eq_true rfl⟩) (w_recv hK hW HB.1 (putAt (k := 0) (by decide)) rfl rfl) rfl rfl (Nat.le_of_ble_eq_true rfl) dX5_attempt_146 ⟨Nat.zero_le _, Nat.zero_le _⟩ (fun Ez H locs hw2 hW hS => ?_)
                obtain ⟨X_63, ez, hw⟩ := hw2
                rw [ez, putPut] at hW
                refine lv_iload hx hb dX5_attempt_149 (lv_at hl 0 rfl) ?_
                exact w_iret hx hb hr hlocks hW hS ⟨X_63, rfl, hw⟩ dX5_attempt_151
              · have hw := hw.1 c_62
                refine lv_aload_n hx hb dX5_attempt_132 rfl (lv_at hl 0 rfl) ?_
                refine lv_iload_n hx hb dX5_attempt_133 rfl (lv_at hl 1 rfl) ?_
                refine lv_iconst (v := 0) hx hb dX5_attempt_134 (by decide) ?_
                refine w_cvi (As := [.int p1, .int 0]) (rest := []) hx hb hml hown hts hK hW hS hl.1 (c_X5_of hA HB (fun k hk => putAt hk)  hw) (k_X5_67 hts ⟨Nat.le_of_ble_eq_true rfl, Nat.le_of_ble_eq_true rfl⟩) (w_recv hK hW HB.1 (putAt (k := 0) (by decide)) rfl rfl) rfl rfl (Nat.le_of_ble_eq_true rfl) dX5_attempt_135 ⟨Nat.zero_le _, Nat.zero_le _⟩ (fun r_64 Ez H locs hw2 hW hS => ?_)
                obtain ⟨ez, hw⟩ := hw2
                rw [ez] at hW
                refine lv_goto (tgt := 143) hx hb dX5_attempt_138 (by decide) ?_
                refine lv_istore (lv' := [(4, .int r_64), (0, .ref o), (1, .int p1), (2, .int p2), (3, .int p3), (5, .int i_16), (6, .int i_17)]) hx hb dX5_attempt_143 hl (by decide) rfl (fun ls hl => ?_)
                refine lv_aload_n hx hb dX5_attempt_145 rfl (lv_at hl 1 rfl) ?_
                refine w_cvv (As := []) (rest := []) hx hb hml hown hts hK hW hS hl.1 (c_X5_putBack hA HB (fun k hk => putAt hk)  hw) (k_X5_172 hts ⟨Nat.le_of_ble_eq_true rfl, Nat.le_of_ble_eq_true rfl⟩) (w_recv hK hW HB.1 (putAt (k := 0) (by decide)) rfl rfl) rfl rfl (Nat.le_of_ble_eq_true rfl) dX5_attempt_146 ⟨Nat.zero_le _, Nat.zero_le _⟩ (fun Ez H locs hw2 hW hS => ?_)
                obtain ⟨X_65, ez, hw⟩ := hw2
                rw [ez, putPut] at hW
                refine lv_iload hx hb dX5_attempt_149 (lv_at hl 0 rfl) ?_
                exact w_iret hx hb hr hlocks hW hS ⟨X_65, rfl, hw⟩ dX5_attempt_151
            · have hw := hw.1 c_61
              refine lv_aload_n hx hb dX5_attempt_77 rfl (lv_at hl 0 rfl) ?_
              refine w_cvv (As := []) (rest := []) hx hb hml hown hts hK hW hS hl.1 (c_X5_makeTick hA HB (fun k hk => putAt hk)  hw) (k_X5_137 hts ⟨Nat.le_of_ble_eq_true rfl, Nat.le_of_ble_eq_true rfl⟩) (w_recv hK hW HB.1 (putAt (k := 0) (by decide)) rfl rfl) rfl rfl (Nat.le_of_ble_eq_true rfl) dX5_attempt_78 ⟨Nat.zero_le _, Nat.zero_le _⟩ (fun Ez H locs hw2 hW hS => ?_)
              obtain ⟨X_66, ez, hw⟩ := hw2
              rw [ez, putPut] at hW
              obtain ⟨v_67, ev_67⟩ : ∃ z : Int32, z = i_16 + 1 := ⟨_, rfl⟩
              have hw := hw v_67 ev_67
              refine lv_iinc (v := v_67) (lv' := [(5, .int v_67), (0, .ref o), (1, .int p1), (2, .int p2), (3, .int p3), (4, .int i_15), (6, .int i_17)]) hx hb dX5_attempt_81 hl (k := 5) rfl (by rw [ev_67]; rfl) (by decide) rfl (fun ls hl => ?_)
              refine lv_iload hx hb dX5_attempt_84 (lv_at hl 6 rfl) ?_
              refine lv_if_ne (tgt := 57) hx hb dX5_attempt_86 (by decide) (fun c_68 => ?_) (fun c_68 => ?_)
              · have hw := hw.2 c_68
                exact ih_57 (i_15, v_67, i_17, X_66) _ _ _ hw hW hS (lv_sub hl [1, 2, 3, 4, 5, 0, 6] rfl)
              · have hw := hw.1 c_68
                refine lv_aload_n hx hb dX5_attempt_89 rfl (lv_at hl 1 rfl) ?_
                refine lv_iload_n hx hb dX5_attempt_90 rfl (lv_at hl 2 rfl) ?_
                refine lv_iconst (v := 0) hx hb dX5_attempt_91 (by decide) ?_
                refine w_cvi (As := [.int p1, .int 0]) (rest := []) hx hb hml hown hts hK hW hS hl.1 (c_X5_of hA HB (fun k hk => putAt hk)  hw) (k_X5_67 hts ⟨Nat.le_of_ble_eq_true rfl, Nat.le_of_ble_eq_true rfl⟩) (w_recv hK hW HB.1 (putAt (k := 0) (by decide)) rfl rfl) rfl rfl (Nat.le_of_ble_eq_true rfl) dX5_attempt_92 ⟨Nat.zero_le _, Nat.zero_le _⟩ (fun r_69 Ez H locs hw2 hW hS => ?_)
                obtain ⟨ez, hw⟩ := hw2
                rw [ez] at hW
                refine lv_iconst (v := 2) hx hb dX5_attempt_95 (by decide) ?_
                refine lv_icmp_ne (tgt := 57) hx hb dX5_attempt_96 (by decide) (fun c_70 => ?_) (fun c_70 => ?_)
                · have hw := hw.2 c_70
                  exact ih_57 (i_15, v_67, i_17, X_66) _ _ _ hw hW hS (lv_sub hl [1, 2, 3, 4, 5, 0, 6] rfl)
                · have hw := hw.1 c_70
                  refine lv_aload_n hx hb dX5_attempt_99 rfl (lv_at hl 1 rfl) ?_
                  refine lv_iload_n hx hb dX5_attempt_100 rfl (lv_at hl 2 rfl) ?_
                  refine lv_iload_n hx hb dX5_attempt_101 rfl (lv_at hl 3 rfl) ?_
                  refine lv_iconst (v := 4) hx hb dX5_attempt_102 (by decide) ?_
                  refine lv_idiv hx hb dX5_attempt_103 (by decide) ?_
                  refine lv_iconst (v := 1) hx hb dX5_attempt_104 (by decide) ?_
                  refine lv_iadd hx hb dX5_attempt_105 ?_
                  refine w_cvi (As := [.int p1, .int ((p2 / 4) + 1)]) (rest := []) hx hb hml hown hts hK hW hS hl.1 (c_X5_dial hA HB (fun k hk => putAt hk)  hw) (k_X5_181 hts ⟨Nat.le_of_ble_eq_true rfl, Nat.le_of_ble_eq_true rfl⟩) (w_recv hK hW HB.1 (putAt (k := 0) (by decide)) rfl rfl) rfl rfl (Nat.le_of_ble_eq_true rfl) dX5_attempt_106 ⟨Nat.zero_le _, Nat.zero_le _⟩ (fun r_71 Ez H locs hw2 hW hS => ?_)
                  obtain ⟨X_72, ez, hw⟩ := hw2
                  rw [ez, putPut] at hW
                  refine lv_aload_n hx hb dX5_attempt_109 rfl (lv_at hl 1 rfl) ?_
                  refine lv_iload_n hx hb dX5_attempt_110 rfl (lv_at hl 2 rfl) ?_
                  refine lv_iload_n hx hb dX5_attempt_111 rfl (lv_at hl 3 rfl) ?_
                  refine lv_iconst (v := 4) hx hb dX5_attempt_112 (by decide) ?_
                  refine lv_irem hx hb dX5_attempt_113 (by decide) ?_
                  refine lv_iconst (v := 1) hx hb dX5_attempt_114 (by decide) ?_
                  refine lv_iadd hx hb dX5_attempt_115 ?_
                  refine w_cvi (As := [.int p1, .int ((p2 - p2 / 4 * 4) + 1)]) (rest := [.int r_71]) hx hb hml hown hts hK hW hS hl.1 (c_X5_dial hA HB (fun k hk => putAt hk)  hw) (k_X5_181 hts ⟨Nat.le_of_ble_eq_true rfl, Nat.le_of_ble_eq_true rfl⟩) (w_recv hK hW HB.1 (putAt (k := 0) (by decide)) rfl rfl) rfl rfl (Nat.le_of_ble_eq_true rfl) dX5_attempt_116 ⟨Nat.zero_le _, Nat.zero_le _⟩ (fun r_73 Ez H locs hw2 hW hS => ?_)
                  obtain ⟨X_74, ez, hw⟩ := hw2
                  rw [ez, putPut] at hW
                  refine lv_iadd hx hb dX5_attempt_119 ?_
                  refine lv_topi (fun v_75 ev_75 => ?_)
                  have hw := hw v_75 ev_75
                  refine lv_istore (lv' := [(4, .int v_75), (5, .int v_67), (0, .ref o), (1, .int p1), (2, .int p2), (3, .int p3), (6, .int i_17)]) hx hb dX5_attempt_120 hl (by decide) rfl (fun ls hl => ?_)
                  refine lv_iconst (v := 1) hx hb dX5_attempt_122 (by decide) ?_
                  refine lv_istore (lv' := [(6, .int 1), (4, .int v_75), (5, .int v_67), (0, .ref o), (1, .int p1), (2, .int p2), (3, .int p3)]) hx hb dX5_attempt_123 hl (by decide) rfl (fun ls hl => ?_)
                  refine lv_goto (tgt := 57) hx hb dX5_attempt_125 (by decide) ?_
                  exact ih_57 (v_75, v_67, 1, X_74) _ _ _ hw hW hS (lv_sub hl [3, 4, 5, 6, 1, 2, 0] rfl)
        · have hw := hw.2 c_11
          refine lv_bipush (v := (-5)) hx hb dX5_attempt_37 (by decide) ?_
          exact w_iret hx hb hr hlocks hW hS ⟨X, rfl, hw⟩ dX5_attempt_39
      · have hw := hw.1 c_9
        refine lv_bipush (v := (-2)) hx hb dX5_attempt_25 (by decide) ?_
        exact w_iret hx hb hr hlocks hW hS ⟨X, rfl, hw⟩ dX5_attempt_27
    · have hw := hw.1 c_6
      refine lv_iconst (v := (-1)) hx hb dX5_attempt_14 (by decide) ?_
      exact w_iret hx hb hr hlocks hW hS ⟨X, rfl, hw⟩ dX5_attempt_15
set_option maxHeartbeats 4000000 in
set_option maxRecDepth 100000 in
theorem c_X5_put {l : Launch} {g : GG} {lay : LY} {E0 : ES} {o : Nat} {X : ES} {p1 : Int64} {K : Int32 → ES → Prop} (hA : okL g lay) (HB : ML g lay o) (hX : ∀ k, k < 7 → E0 (o + k) = X k) (hw : wp_X5_put X p1 K) : JMi l g lay yX5_put wsX5_put rmX5_put [.ref o, .long p1] E0 (fun r E1 => ∃ X1 : ES, E1 = put 7 o X1 E0 ∧ K r X1) := by
  refine Met.ofW (cc := cX5_put) (maxL := 7) (ret := (some .int)) (by decide) rfl ?_
  intro p e s m args below meth c s₁ B hml hv
  obtain ⟨rfl, hK, hW⟩ := hv
  have hx := B.exec
  have hb := B.bytes
  have hr := B.returns
  have hts := gd_of (atoms_spec (ws := wsX5_put) B.pre)
  have hown : s.vm.findClass RX5 = some m.cls := findClass_of_methodNamed B.named
  have hlocks := B.notSynchronized
  have hS : va_S (Ab g) s.heap s.heap [] := va_S.rf
  have hW : Wd g lay (put 7 o X E0) s.heap := by rw [putSelf hX]; exact hW
  have hl := lv_entry [.ref o, .long p1] (n := 7) (Nat.le_of_ble_eq_true rfl)
  rw [lg_entry_eq]
  generalize (lg_sl [.ref o, .long p1] ++ List.replicate (7 - (lg_sl [.ref o, .long p1]).length) Slot.unset).toArray = ls at hl ⊢
  have hl : lv_has ls 7 [(0, .ref o), (1, .long p1)] := hl
  unfold wp_X5_put at hw
  refine lv_iconst (v := 0) hx hb dX5_put_0 (by decide) ?_
  refine lv_istore_n (lv' := [(3, .int 0), (0, .ref o), (1, .long p1)]) hx hb dX5_put_1 rfl hl (by decide) rfl (fun ls hl => ?_)
  refine lv_lload_n hx hb dX5_put_2 rfl (lv_at hl 2 rfl) ?_
  refine lv_lstore (lv' := [(4, .long p1), (3, .int 0), (0, .ref o), (1, .long p1)]) hx hb dX5_put_3 hl (by decide) rfl (fun ls hl => ?_)
  obtain ⟨n_120, hw⟩ := hw
  refine w_loop (KT := Int32 → Int64 → Prop) (σ := Int32 × Int64) (Wl := fun Kx_5 n_5 q => wpl_X5_put_5 X K Kx_5 n_5 q.1 q.2) (Pw := fun q => Wd g lay (put 7 o X E0)) (lvf := fun q => [(0, .ref o), (1, .long p1), (3, .int q.1), (4, .long q.2)]) (nL := 7) n_120 (0, p1) hw hW hS (lv_sub hl [2, 3, 1, 0] rfl) (fun _ h => h) (fun Kx_5 eK_5 n_5 q H locs ls hw hW hS hl ih_5 => ?_)
  obtain ⟨i_1, i_2⟩ := q
  try dsimp only at hw
  rw [wpl_X5_put_5] at hw
  have hl : lv_has ls 7 [(0, .ref o), (1, .long p1), (3, .int i_1), (4, .long i_2)] := hl
  have hW : Wd g lay (put 7 o X E0) H := hW
  refine lv_iload_n hx hb dX5_put_5 rfl (lv_at hl 2 rfl) ?_
  refine lv_bipush (v := 8) hx hb dX5_put_6 (by decide) ?_
  refine lv_icmp_ge (tgt := 55) hx hb dX5_put_8 (by decide) (fun c_73 => ?_) (fun c_73 => ?_)
  · have hw := hw.1 c_73
    rw [eK_5] at hw
    refine lv_iload_n hx hb dX5_put_55 rfl (lv_at hl 2 rfl) ?_
    refine lv_if_eq (tgt := 66) hx hb dX5_put_56 (by decide) (fun c_74 => ?_) (fun c_74 => ?_)
    · have hw := hw.1 c_74
      refine lv_bipush (v := (-2)) hx hb dX5_put_66 (by decide) ?_
      exact w_iret hx hb hr hlocks hW hS ⟨X, rfl, hw⟩ dX5_put_68
    · have hw := hw.2 c_74
      refine lv_lload hx hb dX5_put_59 (lv_at hl 3 rfl) ?_
      refine lv_lconst (v := 0) hx hb dX5_put_61 (by decide) ?_
      refine W.lcmp hx hb dX5_put_62 ?_
      refine lv_if_eq (tgt := 69) hx hb dX5_put_63 (by decide) (fun c_75 => ?_) (fun c_75 => ?_)
      · have hw := hw.1 c_75
        refine lv_aload_n hx hb dX5_put_69 rfl (lv_at hl 0 rfl) ?_
        refine g_X5_165 hx hb hown hts hK hW HB.1 (putAt (k := 0) (by decide)) dX5_put_70 ?_
        refine lv_iload_n hx hb dX5_put_73 rfl (lv_at hl 2 rfl) ?_
        refine lv_iadd hx hb dX5_put_74 ?_
        refine lv_bipush (v := 60) hx hb dX5_put_75 (by decide) ?_
        refine lv_icmp_le (tgt := 83) hx hb dX5_put_77 (by decide) (fun c_76 => ?_) (fun c_76 => ?_)
        · have hw := hw.1 c_76
          refine lv_iconst (v := 0) hx hb dX5_put_83 (by decide) ?_
          refine lv_istore (lv' := [(6, .int 0), (0, .ref o), (1, .long p1), (3, .int i_1), (4, .long i_2)]) hx hb dX5_put_84 hl (by decide) rfl (fun ls hl => ?_)
          obtain ⟨n_93, hw⟩ := hw
          refine w_loop (KT := Int32 → ES → Prop) (σ := Int32 × ES) (Wl := fun Kx_86 n_86 q => wpl_X5_put_86 p1 i_1 K Kx_86 n_86 q.1 q.2) (Pw := fun q => Wd g lay (put 7 o q.2 E0)) (lvf := fun q => [(0, .ref o), (1, .long p1), (3, .int i_1), (4, .long i_2), (6, .int q.1)]) (nL := 7) n_93 (0, X) hw hW hS (lv_sub hl [1, 2, 3, 4, 0] rfl) (fun _ h => h) (fun Kx_86 eK_86 n_86 q H locs ls hw hW hS hl ih_86 => ?_)
          obtain ⟨i_77, X_78⟩ := q
          try dsimp only at hw
          rw [wpl_X5_put_86] at hw
          have hl : lv_has ls 7 [(0, .ref o), (1, .long p1), (3, .int i_1), (4, .long i_2), (6, .int i_77)] := hl
          have hW : Wd g lay (put 7 o X_78 E0) H := hW
          refine lv_iload hx hb dX5_put_86 (lv_at hl 4 rfl) ?_
          refine lv_iload_n hx hb dX5_put_88 rfl (lv_at hl 2 rfl) ?_
          refine lv_icmp_ge (tgt := 126) hx hb dX5_put_89 (by decide) (fun c_89 => ?_) (fun c_89 => ?_)
          · have hw := hw.1 c_89
            rw [eK_86] at hw
            refine lv_aload_n hx hb dX5_put_126 rfl (lv_at hl 0 rfl) ?_
            refine lv_dup hx hb dX5_put_127 rfl ?_
            refine g_X5_165 hx hb hown hts hK hW HB.1 (putAt (k := 0) (by decide)) dX5_put_128 ?_
            refine lv_iload_n hx hb dX5_put_131 rfl (lv_at hl 2 rfl) ?_
            refine lv_iadd hx hb dX5_put_132 ?_
            obtain ⟨X_90, eX_90⟩ : ∃ z : ES, z = va_up X_78 0 (upd (X_78 0) 5 (((X_78 0) 5) + i_1)) := ⟨_, rfl⟩
            have hw := hw X_90 eX_90
            refine p_X5_165 (E1 := put 7 o X_90 E0) hx hb hown hts hK hA hW hS HB.1 (putAt (k := 0) (by decide)) dX5_put_133 (puE (k := 0) (by decide) eX_90) (fun H locs hW hS => ?_)
            refine lv_aload_n hx hb dX5_put_136 rfl (lv_at hl 0 rfl) ?_
            refine g_X5_165 hx hb hown hts hK hW HB.1 (putAt (k := 0) (by decide)) dX5_put_137 ?_
            exact w_iret hx hb hr hlocks hW hS ⟨X_90, rfl, hw⟩ dX5_put_140
          · have hw := hw.2 c_89
            refine lv_aload_n hx hb dX5_put_92 rfl (lv_at hl 0 rfl) ?_
            refine g_X5_23 hx hb hown hts hK hW HB.1 (putAt (k := 0) (by decide)) dX5_put_93 ?_
            refine lv_aload_n hx hb dX5_put_96 rfl (lv_at hl 0 rfl) ?_
            refine g_X5_165 hx hb hown hts hK hW HB.1 (putAt (k := 0) (by decide)) dX5_put_97 ?_
            refine lv_iload hx hb dX5_put_100 (lv_at hl 4 rfl) ?_
            refine lv_iadd hx hb dX5_put_102 ?_
            refine lv_lload_n hx hb dX5_put_103 rfl (lv_at hl 1 rfl) ?_
            refine lv_bipush (v := 8) hx hb dX5_put_104 (by decide) ?_
            refine lv_iload_n hx hb dX5_put_106 rfl (lv_at hl 2 rfl) ?_
            refine lv_iconst (v := 1) hx hb dX5_put_107 (by decide) ?_
            refine lv_isub hx hb dX5_put_108 ?_
            refine lv_iload hx hb dX5_put_109 (lv_at hl 4 rfl) ?_
            refine lv_isub hx hb dX5_put_111 ?_
            refine lv_imul hx hb dX5_put_112 ?_
            refine lv_lshr hx hb dX5_put_113 rfl ?_
            refine lv_ldc2 hx hb hown (hts _ wd_915) dX5_put_114 ?_
            refine lv_land hx hb dX5_put_117 ?_
            refine lv_l2i hx hb dX5_put_118 rfl ?_
            obtain ⟨hin, hw⟩ := hw
            obtain ⟨X_91, eX_91⟩ : ∃ z : ES, z = va_up X_78 5 (upd (X_78 5) (((X_78 0) 5) + i_77).toNatClampNeg (((p1 >>> ((8 * ((i_1 - 1) - i_77)).toInt64 &&& 63)) &&& 255).toInt32)) := ⟨_, rfl⟩
            have hw := hw X_91 eX_91
            refine w_iast (E1 := put 7 o X_91 E0) hx hb hK hA hW hS HB.2.2.2.2.2.1 (putAt (k := 5) (by decide)) hin dX5_put_119 (puE (k := 5) (by decide) eX_91) (fun H locs hW hS => ?_)
            obtain ⟨v_92, ev_92⟩ : ∃ z : Int32, z = i_77 + 1 := ⟨_, rfl⟩
            have hw := hw v_92 ev_92
            refine lv_iinc (v := v_92) (lv' := [(6, .int v_92), (0, .ref o), (1, .long p1), (3, .int i_1), (4, .long i_2)]) hx hb dX5_put_120 hl (k := 4) rfl (by rw [ev_92]; rfl) (by decide) rfl (fun ls hl => ?_)
            refine lv_goto (tgt := 86) hx hb dX5_put_123 (by decide) ?_
            exact ih_86 (v_92, X_91) _ _ _ hw hW hS (lv_sub hl [1, 2, 3, 4, 0] rfl)
        · have hw := hw.2 c_76
          refine lv_bipush (v := (-4)) hx hb dX5_put_80 (by decide) ?_
          exact w_iret hx hb hr hlocks hW hS ⟨X, rfl, hw⟩ dX5_put_82
      · have hw := hw.2 c_75
        refine lv_bipush (v := (-2)) hx hb dX5_put_66 (by decide) ?_
        exact w_iret hx hb hr hlocks hW hS ⟨X, rfl, hw⟩ dX5_put_68
  · have hw := hw.2 c_73
    refine lv_lload hx hb dX5_put_11 (lv_at hl 3 rfl) ?_
    refine lv_ldc2 hx hb hown (hts _ wd_915) dX5_put_13 ?_
    refine lv_land hx hb dX5_put_16 ?_
    refine lv_lconst (v := 0) hx hb dX5_put_17 (by decide) ?_
    refine W.lcmp hx hb dX5_put_18 ?_
    refine lv_if_eq (tgt := 55) hx hb dX5_put_19 (by decide) (fun c_94 => ?_) (fun c_94 => ?_)
    · have hw := hw.1 c_94
      rw [eK_5] at hw
      refine lv_iload_n hx hb dX5_put_55 rfl (lv_at hl 2 rfl) ?_
      refine lv_if_eq (tgt := 66) hx hb dX5_put_56 (by decide) (fun c_95 => ?_) (fun c_95 => ?_)
      · have hw := hw.1 c_95
        refine lv_bipush (v := (-2)) hx hb dX5_put_66 (by decide) ?_
        exact w_iret hx hb hr hlocks hW hS ⟨X, rfl, hw⟩ dX5_put_68
      · have hw := hw.2 c_95
        refine lv_lload hx hb dX5_put_59 (lv_at hl 3 rfl) ?_
        refine lv_lconst (v := 0) hx hb dX5_put_61 (by decide) ?_
        refine W.lcmp hx hb dX5_put_62 ?_
        refine lv_if_eq (tgt := 69) hx hb dX5_put_63 (by decide) (fun c_96 => ?_) (fun c_96 => ?_)
        · have hw := hw.1 c_96
          refine lv_aload_n hx hb dX5_put_69 rfl (lv_at hl 0 rfl) ?_
          refine g_X5_165 hx hb hown hts hK hW HB.1 (putAt (k := 0) (by decide)) dX5_put_70 ?_
          refine lv_iload_n hx hb dX5_put_73 rfl (lv_at hl 2 rfl) ?_
          refine lv_iadd hx hb dX5_put_74 ?_
          refine lv_bipush (v := 60) hx hb dX5_put_75 (by decide) ?_
          refine lv_icmp_le (tgt := 83) hx hb dX5_put_77 (by decide) (fun c_97 => ?_) (fun c_97 => ?_)
          · have hw := hw.1 c_97
            refine lv_iconst (v := 0) hx hb dX5_put_83 (by decide) ?_
            refine lv_istore (lv' := [(6, .int 0), (0, .ref o), (1, .long p1), (3, .int i_1), (4, .long i_2)]) hx hb dX5_put_84 hl (by decide) rfl (fun ls hl => ?_)
            obtain ⟨n_114, hw⟩ := hw
            refine w_loop (KT := Int32 → ES → Prop) (σ := Int32 × ES) (Wl := fun Kx_86 n_86 q => wpl_X5_put_86 p1 i_1 K Kx_86 n_86 q.1 q.2) (Pw := fun q => Wd g lay (put 7 o q.2 E0)) (lvf := fun q => [(0, .ref o), (1, .long p1), (3, .int i_1), (4, .long i_2), (6, .int q.1)]) (nL := 7) n_114 (0, X) hw hW hS (lv_sub hl [1, 2, 3, 4, 0] rfl) (fun _ h => h) (fun Kx_86 eK_86 n_86 q H locs ls hw hW hS hl ih_86 => ?_)
            obtain ⟨i_98, X_99⟩ := q
            try dsimp only at hw
            rw [wpl_X5_put_86] at hw
            have hl : lv_has ls 7 [(0, .ref o), (1, .long p1), (3, .int i_1), (4, .long i_2), (6, .int i_98)] := hl
            have hW : Wd g lay (put 7 o X_99 E0) H := hW
            refine lv_iload hx hb dX5_put_86 (lv_at hl 4 rfl) ?_
            refine lv_iload_n hx hb dX5_put_88 rfl (lv_at hl 2 rfl) ?_
            refine lv_icmp_ge (tgt := 126) hx hb dX5_put_89 (by decide) (fun c_110 => ?_) (fun c_110 => ?_)
            · have hw := hw.1 c_110
              rw [eK_86] at hw
              refine lv_aload_n hx hb dX5_put_126 rfl (lv_at hl 0 rfl) ?_
              refine lv_dup hx hb dX5_put_127 rfl ?_
              refine g_X5_165 hx hb hown hts hK hW HB.1 (putAt (k := 0) (by decide)) dX5_put_128 ?_
              refine lv_iload_n hx hb dX5_put_131 rfl (lv_at hl 2 rfl) ?_
              refine lv_iadd hx hb dX5_put_132 ?_
              obtain ⟨X_111, eX_111⟩ : ∃ z : ES, z = va_up X_99 0 (upd (X_99 0) 5 (((X_99 0) 5) + i_1)) := ⟨_, rfl⟩
              have hw := hw X_111 eX_111
              refine p_X5_165 (E1 := put 7 o X_111 E0) hx hb hown hts hK hA hW hS HB.1 (putAt (k := 0) (by decide)) dX5_put_133 (puE (k := 0) (by decide) eX_111) (fun H locs hW hS => ?_)
              refine lv_aload_n hx hb dX5_put_136 rfl (lv_at hl 0 rfl) ?_
              refine g_X5_165 hx hb hown hts hK hW HB.1 (putAt (k := 0) (by decide)) dX5_put_137 ?_
              exact w_iret hx hb hr hlocks hW hS ⟨X_111, rfl, hw⟩ dX5_put_140
            · have hw := hw.2 c_110
              refine lv_aload_n hx hb dX5_put_92 rfl (lv_at hl 0 rfl) ?_
              refine g_X5_23 hx hb hown hts hK hW HB.1 (putAt (k := 0) (by decide)) dX5_put_93 ?_
              refine lv_aload_n hx hb dX5_put_96 rfl (lv_at hl 0 rfl) ?_
              refine g_X5_165 hx hb hown hts hK hW HB.1 (putAt (k := 0) (by decide)) dX5_put_97 ?_
              refine lv_iload hx hb dX5_put_100 (lv_at hl 4 rfl) ?_
              refine lv_iadd hx hb dX5_put_102 ?_
              refine lv_lload_n hx hb dX5_put_103 rfl (lv_at hl 1 rfl) ?_
              refine lv_bipush (v := 8) hx hb dX5_put_104 (by decide) ?_
              refine lv_iload_n hx hb dX5_put_106 rfl (lv_at hl 2 rfl) ?_
              refine lv_iconst (v := 1) hx hb dX5_put_107 (by decide) ?_
              refine lv_isub hx hb dX5_put_108 ?_
              refine lv_iload hx hb dX5_put_109 (lv_at hl 4 rfl) ?_
              refine lv_isub hx hb dX5_put_111 ?_
              refine lv_imul hx hb dX5_put_112 ?_
              refine lv_lshr hx hb dX5_put_113 rfl ?_
              refine lv_ldc2 hx hb hown (hts _ wd_915) dX5_put_114 ?_
              refine lv_land hx hb dX5_put_117 ?_
              refine lv_l2i hx hb dX5_put_118 rfl ?_
              obtain ⟨hin, hw⟩ := hw
              obtain ⟨X_112, eX_112⟩ : ∃ z : ES, z = va_up X_99 5 (upd (X_99 5) (((X_99 0) 5) + i_98).toNatClampNeg (((p1 >>> ((8 * ((i_1 - 1) - i_98)).toInt64 &&& 63)) &&& 255).toInt32)) := ⟨_, rfl⟩
              have hw := hw X_112 eX_112
              refine w_iast (E1 := put 7 o X_112 E0) hx hb hK hA hW hS HB.2.2.2.2.2.1 (putAt (k := 5) (by decide)) hin dX5_put_119 (puE (k := 5) (by decide) eX_112) (fun H locs hW hS => ?_)
              obtain ⟨v_113, ev_113⟩ : ∃ z : Int32, z = i_98 + 1 := ⟨_, rfl⟩
              have hw := hw v_113 ev_113
              refine lv_iinc (v := v_113) (lv' := [(6, .int v_113), (0, .ref o), (1, .long p1), (3, .int i_1), (4, .long i_2)]) hx hb dX5_put_120 hl (k := 4) rfl (by rw [ev_113]; rfl) (by decide) rfl (fun ls hl => ?_)
              refine lv_goto (tgt := 86) hx hb dX5_put_123 (by decide) ?_
              exact ih_86 (v_113, X_112) _ _ _ hw hW hS (lv_sub hl [1, 2, 3, 4, 0] rfl)
          · have hw := hw.2 c_97
            refine lv_bipush (v := (-4)) hx hb dX5_put_80 (by decide) ?_
            exact w_iret hx hb hr hlocks hW hS ⟨X, rfl, hw⟩ dX5_put_82
        · have hw := hw.2 c_96
          refine lv_bipush (v := (-2)) hx hb dX5_put_66 (by decide) ?_
          exact w_iret hx hb hr hlocks hW hS ⟨X, rfl, hw⟩ dX5_put_68
    · have hw := hw.2 c_94
      refine lv_lload hx hb dX5_put_22 (lv_at hl 3 rfl) ?_
      refine lv_ldc2 hx hb hown (hts _ wd_915) dX5_put_24 ?_
      refine lv_land hx hb dX5_put_27 ?_
      refine lv_l2i hx hb dX5_put_28 rfl ?_
      refine lv_bipush (v := 33) hx hb dX5_put_29 (by decide) ?_
      refine lv_bipush (v := 126) hx hb dX5_put_31 (by decide) ?_
      refine w_csi (As := [.int ((i_2 &&& 255).toInt32), .int 33, .int 126]) (rest := []) hx hb hml hown hts hK hW hS hl.1 (c_X5_in hw) (k_X5_33 hts ⟨Nat.le_of_ble_eq_true rfl, Nat.le_of_ble_eq_true rfl⟩) rfl rfl (Nat.le_of_ble_eq_true rfl) dX5_put_33 ⟨Nat.zero_le _, Nat.zero_le _⟩ (fun r_115 Ez H locs hw2 hW hS => ?_)
      obtain ⟨ez, z_116, hw⟩ := hw2
      rw [ez] at hW
      refine lv_if_ne (tgt := 42) hx hb dX5_put_36 (by decide) (fun c_117 => ?_) (fun c_117 => ?_)
      · have hw := hw.2 c_117
        obtain ⟨v_118, ev_118⟩ : ∃ z : Int32, z = i_1 + 1 := ⟨_, rfl⟩
        have hw := hw v_118 ev_118
        refine lv_iinc (v := v_118) (lv' := [(3, .int v_118), (0, .ref o), (1, .long p1), (4, .long i_2)]) hx hb dX5_put_42 hl (k := 2) rfl (by rw [ev_118]; rfl) (by decide) rfl (fun ls hl => ?_)
        refine lv_lload hx hb dX5_put_45 (lv_at hl 3 rfl) ?_
        refine lv_bipush (v := 8) hx hb dX5_put_47 (by decide) ?_
        refine lv_lushr hx hb dX5_put_49 rfl ?_
        refine lv_topl (fun v_119 ev_119 => ?_)
        have hw := hw v_119 ev_119
        refine lv_lstore (lv' := [(4, .long v_119), (3, .int v_118), (0, .ref o), (1, .long p1)]) hx hb dX5_put_50 hl (by decide) rfl (fun ls hl => ?_)
        refine lv_goto (tgt := 5) hx hb dX5_put_52 (by decide) ?_
        exact ih_5 (v_118, v_119) _ _ _ hw hW hS (lv_sub hl [2, 3, 1, 0] rfl)
      · have hw := hw.1 c_117
        refine lv_bipush (v := (-2)) hx hb dX5_put_39 (by decide) ?_
        exact w_iret hx hb hr hlocks hW hS ⟨X, rfl, hw⟩ dX5_put_41
set_option maxHeartbeats 4000000 in
set_option maxRecDepth 100000 in
theorem c_X5_wipe {l : Launch} {g : GG} {lay : LY} {E0 : ES} {o : Nat} {X : ES} {K : Int32 → ES → Prop} (hA : okL g lay) (HB : ML g lay o) (hX : ∀ k, k < 7 → E0 (o + k) = X k) (hw : wp_X5_wipe X K) : JMi l g lay yX5_wipe wsX5_wipe rmX5_wipe [.ref o] E0 (fun r E1 => ∃ X1 : ES, E1 = put 7 o X1 E0 ∧ K r X1) := by
  refine Met.ofW (cc := cX5_wipe) (maxL := 2) (ret := (some .int)) (by decide) rfl ?_
  intro p e s m args below meth c s₁ B hml hv
  obtain ⟨rfl, hK, hW⟩ := hv
  have hx := B.exec
  have hb := B.bytes
  have hr := B.returns
  have hts := gd_of (atoms_spec (ws := wsX5_wipe) B.pre)
  have hown : s.vm.findClass RX5 = some m.cls := findClass_of_methodNamed B.named
  have hlocks := B.notSynchronized
  have hS : va_S (Ab g) s.heap s.heap [] := va_S.rf
  have hW : Wd g lay (put 7 o X E0) s.heap := by rw [putSelf hX]; exact hW
  have hl := lv_entry [.ref o] (n := 2) (Nat.le_of_ble_eq_true rfl)
  rw [lg_entry_eq]
  generalize (lg_sl [.ref o] ++ List.replicate (2 - (lg_sl [.ref o]).length) Slot.unset).toArray = ls at hl ⊢
  have hl : lv_has ls 2 [(0, .ref o)] := hl
  unfold wp_X5_wipe at hw
  refine lv_aload_n hx hb dX5_wipe_0 rfl (lv_at hl 0 rfl) ?_
  refine g_X5_165 hx hb hown hts hK hW HB.1 (putAt (k := 0) (by decide)) dX5_wipe_1 ?_
  refine lv_topi (fun v_1 ev_1 => ?_)
  have hw := hw v_1 ev_1
  refine lv_istore_n (lv' := [(1, .int v_1), (0, .ref o)]) hx hb dX5_wipe_4 rfl hl (by decide) rfl (fun ls hl => ?_)
  refine lv_aload_n hx hb dX5_wipe_5 rfl (lv_at hl 1 rfl) ?_
  refine lv_iconst (v := 0) hx hb dX5_wipe_6 (by decide) ?_
  obtain ⟨X_2, eX_2⟩ : ∃ z : ES, z = va_up X 0 (upd (X 0) 5 0) := ⟨_, rfl⟩
  have hw := hw X_2 eX_2
  refine p_X5_165 (E1 := put 7 o X_2 E0) hx hb hown hts hK hA hW hS HB.1 (putAt (k := 0) (by decide)) dX5_wipe_7 (puE (k := 0) (by decide) eX_2) (fun H locs hW hS => ?_)
  refine lv_iload_n hx hb dX5_wipe_10 rfl (lv_at hl 0 rfl) ?_
  exact w_iret hx hb hr hlocks hW hS ⟨X_2, rfl, hw⟩ dX5_wipe_11
set_option maxHeartbeats 4000000 in
set_option maxRecDepth 100000 in
theorem c_X5_next {l : Launch} {g : GG} {lay : LY} {E0 : ES} {o : Nat} {X : ES} {K : Int32 → Prop} (hA : okL g lay) (HB : ML g lay o) (hX : ∀ k, k < 7 → E0 (o + k) = X k) (hw : wp_X5_next X K) : JMi l g lay yX5_next wsX5_next rmX5_next [.ref o] E0 (fun r E1 => E1 = E0 ∧ K r) := by
  refine Met.ofW (cc := cX5_next) (maxL := 1) (ret := (some .int)) (by decide) rfl ?_
  intro p e s m args below meth c s₁ B hml hv
  obtain ⟨rfl, hK, hW⟩ := hv
  have hx := B.exec
  have hb := B.bytes
  have hr := B.returns
  have hts := gd_of (atoms_spec (ws := wsX5_next) B.pre)
  have hown : s.vm.findClass RX5 = some m.cls := findClass_of_methodNamed B.named
  have hlocks := B.notSynchronized
  have hS : va_S (Ab g) s.heap s.heap [] := va_S.rf
  have hl := lv_entry [.ref o] (n := 1) (Nat.le_of_ble_eq_true rfl)
  rw [lg_entry_eq]
  generalize (lg_sl [.ref o] ++ List.replicate (1 - (lg_sl [.ref o]).length) Slot.unset).toArray = ls at hl ⊢
  have hl : lv_has ls 1 [(0, .ref o)] := hl
  unfold wp_X5_next at hw
  refine lv_aload_n hx hb dX5_next_0 rfl (lv_at hl 0 rfl) ?_
  refine g_X5_186 hx hb hown hts hK hW HB.1 (hX 0 (by decide)) dX5_next_1 ?_
  refine lv_aload_n hx hb dX5_next_4 rfl (lv_at hl 0 rfl) ?_
  refine g_X5_165 hx hb hown hts hK hW HB.1 (hX 0 (by decide)) dX5_next_5 ?_
  refine lv_icmp_ge (tgt := 23) hx hb dX5_next_8 (by decide) (fun c_1 => ?_) (fun c_1 => ?_)
  · have hw := hw.1 c_1
    refine lv_iconst (v := 0) hx hb dX5_next_23 (by decide) ?_
    exact w_iret hx hb hr hlocks hW hS ⟨rfl, hw⟩ dX5_next_24
  · have hw := hw.2 c_1
    refine lv_aload_n hx hb dX5_next_11 rfl (lv_at hl 0 rfl) ?_
    refine g_X5_23 hx hb hown hts hK hW HB.1 (hX 0 (by decide)) dX5_next_12 ?_
    refine lv_aload_n hx hb dX5_next_15 rfl (lv_at hl 0 rfl) ?_
    refine g_X5_186 hx hb hown hts hK hW HB.1 (hX 0 (by decide)) dX5_next_16 ?_
    obtain ⟨hin, hw⟩ := hw
    refine w_iald hx hb hK hW HB.2.2.2.2.2.1 (hX 5 (by decide)) hin dX5_next_19 ?_
    refine lv_goto (tgt := 24) hx hb dX5_next_20 (by decide) ?_
    exact w_iret hx hb hr hlocks hW hS ⟨rfl, hw⟩ dX5_next_24
set_option maxHeartbeats 4000000 in
set_option maxRecDepth 100000 in
theorem c_X5_lineBy {l : Launch} {g : GG} {lay : LY} {E0 : ES} {p1 : Int32} {K : Int32 → Prop} (hw : wp_X5_lineBy p1 K) : JMi l g lay yX5_lineBy wsX5_lineBy rmX5_lineBy [.int p1] E0 (fun r E1 => E1 = E0 ∧ K r) := by
  refine Met.ofW (cc := cX5_lineBy) (maxL := 1) (ret := (some .int)) (by decide) rfl ?_
  intro p e s m args below meth c s₁ B hml hv
  obtain ⟨rfl, hK, hW⟩ := hv
  have hx := B.exec
  have hb := B.bytes
  have hr := B.returns
  have hts := gd_of (atoms_spec (ws := wsX5_lineBy) B.pre)
  have hown : s.vm.findClass RX5 = some m.cls := findClass_of_methodNamed B.named
  have hlocks := B.notSynchronized
  have hS : va_S (Ab g) s.heap s.heap [] := va_S.rf
  have hl := lv_entry [.int p1] (n := 1) (Nat.le_of_ble_eq_true rfl)
  rw [lg_entry_eq]
  generalize (lg_sl [.int p1] ++ List.replicate (1 - (lg_sl [.int p1]).length) Slot.unset).toArray = ls at hl ⊢
  have hl : lv_has ls 1 [(0, .int p1)] := hl
  unfold wp_X5_lineBy at hw
  refine lv_iload_n hx hb dX5_lineBy_0 rfl (lv_at hl 0 rfl) ?_
  refine lv_bipush (v := 48) hx hb dX5_lineBy_1 (by decide) ?_
  refine lv_bipush (v := 57) hx hb dX5_lineBy_3 (by decide) ?_
  refine w_csi (As := [.int p1, .int 48, .int 57]) (rest := []) hx hb hml hown hts hK hW hS hl.1 (c_X5_in hw) (k_X5_33 hts ⟨Nat.le_of_ble_eq_true rfl, Nat.le_of_ble_eq_true rfl⟩) rfl rfl (Nat.le_of_ble_eq_true rfl) dX5_lineBy_5 ⟨Nat.zero_le _, Nat.zero_le _⟩ (fun r_1 Ez H locs hw2 hW hS => ?_)
  obtain ⟨ez, z_2, hw⟩ := hw2
  rw [ez] at hW
  refine lv_if_eq (tgt := 18) hx hb dX5_lineBy_8 (by decide) (fun c_3 => ?_) (fun c_3 => ?_)
  · have hw := hw.1 c_3
    refine lv_iload_n hx hb dX5_lineBy_18 rfl (lv_at hl 0 rfl) ?_
    refine lv_bipush (v := 97) hx hb dX5_lineBy_19 (by decide) ?_
    refine lv_bipush (v := 102) hx hb dX5_lineBy_21 (by decide) ?_
    refine w_csi (As := [.int p1, .int 97, .int 102]) (rest := []) hx hb hml hown hts hK hW hS hl.1 (c_X5_in hw) (k_X5_33 hts ⟨Nat.le_of_ble_eq_true rfl, Nat.le_of_ble_eq_true rfl⟩) rfl rfl (Nat.le_of_ble_eq_true rfl) dX5_lineBy_23 ⟨Nat.zero_le _, Nat.zero_le _⟩ (fun r_4 Ez H locs hw2 hW hS => ?_)
    obtain ⟨ez, z_5, hw⟩ := hw2
    rw [ez] at hW
    refine lv_if_eq (tgt := 39) hx hb dX5_lineBy_26 (by decide) (fun c_6 => ?_) (fun c_6 => ?_)
    · have hw := hw.1 c_6
      refine lv_bipush (v := (-6)) hx hb dX5_lineBy_39 (by decide) ?_
      exact w_iret hx hb hr hlocks hW hS ⟨rfl, hw⟩ dX5_lineBy_41
    · have hw := hw.2 c_6
      refine lv_iload_n hx hb dX5_lineBy_29 rfl (lv_at hl 0 rfl) ?_
      refine lv_bipush (v := 97) hx hb dX5_lineBy_30 (by decide) ?_
      refine lv_isub hx hb dX5_lineBy_32 ?_
      refine lv_bipush (v := 10) hx hb dX5_lineBy_33 (by decide) ?_
      refine lv_iadd hx hb dX5_lineBy_35 ?_
      refine lv_goto (tgt := 41) hx hb dX5_lineBy_36 (by decide) ?_
      exact w_iret hx hb hr hlocks hW hS ⟨rfl, hw⟩ dX5_lineBy_41
  · have hw := hw.2 c_3
    refine lv_iload_n hx hb dX5_lineBy_11 rfl (lv_at hl 0 rfl) ?_
    refine lv_bipush (v := 48) hx hb dX5_lineBy_12 (by decide) ?_
    refine lv_isub hx hb dX5_lineBy_14 ?_
    refine lv_goto (tgt := 41) hx hb dX5_lineBy_15 (by decide) ?_
    exact w_iret hx hb hr hlocks hW hS ⟨rfl, hw⟩ dX5_lineBy_41
set_option maxHeartbeats 4000000 in
set_option maxRecDepth 100000 in
theorem c_X5_readLine {l : Launch} {g : GG} {lay : LY} {E0 : ES} {o : Nat} {X : ES} {K : Int32 → ES → Prop} (hA : okL g lay) (HB : ML g lay o) (hX : ∀ k, k < 7 → E0 (o + k) = X k) (hw : wp_X5_readLine X K) : JMi l g lay yX5_readLine wsX5_readLine rmX5_readLine [.ref o] E0 (fun r E1 => ∃ X1 : ES, E1 = put 7 o X1 E0 ∧ K r X1) := by
  refine Met.ofW (cc := cX5_readLine) (maxL := 2) (ret := (some .int)) (by decide) rfl ?_
  intro p e s m args below meth c s₁ B hml hv
  obtain ⟨rfl, hK, hW⟩ := hv
  have hx := B.exec
  have hb := B.bytes
  have hr := B.returns
  have hts := gd_of (atoms_spec (ws := wsX5_readLine) B.pre)
  have hown : s.vm.findClass RX5 = some m.cls := findClass_of_methodNamed B.named
  have hlocks := B.notSynchronized
  have hS : va_S (Ab g) s.heap s.heap [] := va_S.rf
  have hW : Wd g lay (put 7 o X E0) s.heap := by rw [putSelf hX]; exact hW
  have hl := lv_entry [.ref o] (n := 2) (Nat.le_of_ble_eq_true rfl)
  rw [lg_entry_eq]
  generalize (lg_sl [.ref o] ++ List.replicate (2 - (lg_sl [.ref o]).length) Slot.unset).toArray = ls at hl ⊢
  have hl : lv_has ls 2 [(0, .ref o)] := hl
  unfold wp_X5_readLine at hw
  refine lv_aload_n hx hb dX5_readLine_0 rfl (lv_at hl 0 rfl) ?_
  refine w_cvi (As := []) (rest := []) hx hb hml hown hts hK hW hS hl.1 (c_X5_next hA HB (fun k hk => putAt hk)  hw) (k_X5_189 hts ⟨Nat.le_of_ble_eq_true rfl, Nat.le_of_ble_eq_true rfl⟩) (w_recv hK hW HB.1 (putAt (k := 0) (by decide)) rfl rfl) rfl rfl (Nat.le_of_ble_eq_true rfl) dX5_readLine_1 ⟨Nat.zero_le _, Nat.zero_le _⟩ (fun r_1 Ez H locs hw2 hW hS => ?_)
  obtain ⟨ez, hw⟩ := hw2
  rw [ez] at hW
  refine w_csi (As := [.int r_1]) (rest := []) hx hb hml hown hts hK hW hS hl.1 (c_X5_lineBy hw) (k_X5_193 hts ⟨Nat.le_of_ble_eq_true rfl, Nat.le_of_ble_eq_true rfl⟩) rfl rfl (Nat.le_of_ble_eq_true rfl) dX5_readLine_4 ⟨Nat.zero_le _, Nat.zero_le _⟩ (fun r_2 Ez H locs hw2 hW hS => ?_)
  obtain ⟨ez, hw⟩ := hw2
  rw [ez] at hW
  refine lv_istore_n (lv' := [(1, .int r_2), (0, .ref o)]) hx hb dX5_readLine_7 rfl hl (by decide) rfl (fun ls hl => ?_)
  refine lv_aload_n hx hb dX5_readLine_8 rfl (lv_at hl 1 rfl) ?_
  refine lv_aload_n hx hb dX5_readLine_9 rfl (lv_at hl 1 rfl) ?_
  refine g_X5_196 hx hb hown hts hK hW HB.1 (putAt (k := 0) (by decide)) dX5_readLine_10 ?_
  refine lv_if_ne (tgt := 20) hx hb dX5_readLine_13 (by decide) (fun c_3 => ?_) (fun c_3 => ?_)
  · have hw := hw.2 c_3
    refine lv_iconst (v := 1) hx hb dX5_readLine_20 (by decide) ?_
    refine lv_goto (tgt := 25) hx hb dX5_readLine_21 (by decide) ?_
    obtain ⟨X_4, eX_4⟩ : ∃ z : ES, z = va_up X 0 (upd (X 0) 7 1) := ⟨_, rfl⟩
    have hw := hw X_4 eX_4
    refine p_X5_196 (E1 := put 7 o X_4 E0) hx hb hown hts hK hA hW hS HB.1 (putAt (k := 0) (by decide)) (Or.inr rfl) dX5_readLine_25 (puE (k := 0) (by decide) eX_4) (fun H locs hW hS => ?_)
    refine lv_aload_n hx hb dX5_readLine_28 rfl (lv_at hl 1 rfl) ?_
    refine lv_dup hx hb dX5_readLine_29 rfl ?_
    refine g_X5_186 hx hb hown hts hK hW HB.1 (putAt (k := 0) (by decide)) dX5_readLine_30 ?_
    refine lv_aload_n hx hb dX5_readLine_33 rfl (lv_at hl 1 rfl) ?_
    refine g_X5_196 hx hb hown hts hK hW HB.1 (putAt (k := 0) (by decide)) dX5_readLine_34 ?_
    refine lv_if_eq (tgt := 44) hx hb dX5_readLine_37 (by decide) (fun c_5 => ?_) (fun c_5 => ?_)
    · have hw := hw.1 c_5
      refine lv_iconst (v := 1) hx hb dX5_readLine_44 (by decide) ?_
      refine lv_iadd hx hb dX5_readLine_45 ?_
      obtain ⟨X_6, eX_6⟩ : ∃ z : ES, z = va_up X_4 0 (upd (X_4 0) 6 (((X_4 0) 6) + 1)) := ⟨_, rfl⟩
      have hw := hw X_6 eX_6
      refine p_X5_186 (E1 := put 7 o X_6 E0) hx hb hown hts hK hA hW hS HB.1 (putAt (k := 0) (by decide)) dX5_readLine_46 (puE (k := 0) (by decide) eX_6) (fun H locs hW hS => ?_)
      refine lv_iload_n hx hb dX5_readLine_49 rfl (lv_at hl 0 rfl) ?_
      exact w_iret hx hb hr hlocks hW hS ⟨X_6, rfl, hw⟩ dX5_readLine_50
    · have hw := hw.2 c_5
      refine lv_iconst (v := 0) hx hb dX5_readLine_40 (by decide) ?_
      refine lv_goto (tgt := 45) hx hb dX5_readLine_41 (by decide) ?_
      refine lv_iadd hx hb dX5_readLine_45 ?_
      obtain ⟨X_7, eX_7⟩ : ∃ z : ES, z = va_up X_4 0 (upd (X_4 0) 6 (((X_4 0) 6) + 0)) := ⟨_, rfl⟩
      have hw := hw X_7 eX_7
      refine p_X5_186 (E1 := put 7 o X_7 E0) hx hb hown hts hK hA hW hS HB.1 (putAt (k := 0) (by decide)) dX5_readLine_46 (puE (k := 0) (by decide) eX_7) (fun H locs hW hS => ?_)
      refine lv_iload_n hx hb dX5_readLine_49 rfl (lv_at hl 0 rfl) ?_
      exact w_iret hx hb hr hlocks hW hS ⟨X_7, rfl, hw⟩ dX5_readLine_50
  · have hw := hw.1 c_3
    refine lv_iload_n hx hb dX5_readLine_16 rfl (lv_at hl 0 rfl) ?_
    refine lv_if_ge (tgt := 24) hx hb dX5_readLine_17 (by decide) (fun c_8 => ?_) (fun c_8 => ?_)
    · have hw := hw.1 c_8
      refine lv_iconst (v := 0) hx hb dX5_readLine_24 (by decide) ?_
      obtain ⟨X_9, eX_9⟩ : ∃ z : ES, z = va_up X 0 (upd (X 0) 7 0) := ⟨_, rfl⟩
      have hw := hw X_9 eX_9
      refine p_X5_196 (E1 := put 7 o X_9 E0) hx hb hown hts hK hA hW hS HB.1 (putAt (k := 0) (by decide)) (Or.inl rfl) dX5_readLine_25 (puE (k := 0) (by decide) eX_9) (fun H locs hW hS => ?_)
      refine lv_aload_n hx hb dX5_readLine_28 rfl (lv_at hl 1 rfl) ?_
      refine lv_dup hx hb dX5_readLine_29 rfl ?_
      refine g_X5_186 hx hb hown hts hK hW HB.1 (putAt (k := 0) (by decide)) dX5_readLine_30 ?_
      refine lv_aload_n hx hb dX5_readLine_33 rfl (lv_at hl 1 rfl) ?_
      refine g_X5_196 hx hb hown hts hK hW HB.1 (putAt (k := 0) (by decide)) dX5_readLine_34 ?_
      refine lv_if_eq (tgt := 44) hx hb dX5_readLine_37 (by decide) (fun c_10 => ?_) (fun c_10 => ?_)
      · have hw := hw.1 c_10
        refine lv_iconst (v := 1) hx hb dX5_readLine_44 (by decide) ?_
        refine lv_iadd hx hb dX5_readLine_45 ?_
        obtain ⟨X_11, eX_11⟩ : ∃ z : ES, z = va_up X_9 0 (upd (X_9 0) 6 (((X_9 0) 6) + 1)) := ⟨_, rfl⟩
        have hw := hw X_11 eX_11
        refine p_X5_186 (E1 := put 7 o X_11 E0) hx hb hown hts hK hA hW hS HB.1 (putAt (k := 0) (by decide)) dX5_readLine_46 (puE (k := 0) (by decide) eX_11) (fun H locs hW hS => ?_)
        refine lv_iload_n hx hb dX5_readLine_49 rfl (lv_at hl 0 rfl) ?_
        exact w_iret hx hb hr hlocks hW hS ⟨X_11, rfl, hw⟩ dX5_readLine_50
      · have hw := hw.2 c_10
        refine lv_iconst (v := 0) hx hb dX5_readLine_40 (by decide) ?_
        refine lv_goto (tgt := 45) hx hb dX5_readLine_41 (by decide) ?_
        refine lv_iadd hx hb dX5_readLine_45 ?_
        obtain ⟨X_12, eX_12⟩ : ∃ z : ES, z = va_up X_9 0 (upd (X_9 0) 6 (((X_9 0) 6) + 0)) := ⟨_, rfl⟩
        have hw := hw X_12 eX_12
        refine p_X5_186 (E1 := put 7 o X_12 E0) hx hb hown hts hK hA hW hS HB.1 (putAt (k := 0) (by decide)) dX5_readLine_46 (puE (k := 0) (by decide) eX_12) (fun H locs hW hS => ?_)
        refine lv_iload_n hx hb dX5_readLine_49 rfl (lv_at hl 0 rfl) ?_
        exact w_iret hx hb hr hlocks hW hS ⟨X_12, rfl, hw⟩ dX5_readLine_50
    · have hw := hw.2 c_8
      refine lv_iconst (v := 1) hx hb dX5_readLine_20 (by decide) ?_
      refine lv_goto (tgt := 25) hx hb dX5_readLine_21 (by decide) ?_
      obtain ⟨X_13, eX_13⟩ : ∃ z : ES, z = va_up X 0 (upd (X 0) 7 1) := ⟨_, rfl⟩
      have hw := hw X_13 eX_13
      refine p_X5_196 (E1 := put 7 o X_13 E0) hx hb hown hts hK hA hW hS HB.1 (putAt (k := 0) (by decide)) (Or.inr rfl) dX5_readLine_25 (puE (k := 0) (by decide) eX_13) (fun H locs hW hS => ?_)
      refine lv_aload_n hx hb dX5_readLine_28 rfl (lv_at hl 1 rfl) ?_
      refine lv_dup hx hb dX5_readLine_29 rfl ?_
      refine g_X5_186 hx hb hown hts hK hW HB.1 (putAt (k := 0) (by decide)) dX5_readLine_30 ?_
      refine lv_aload_n hx hb dX5_readLine_33 rfl (lv_at hl 1 rfl) ?_
      refine g_X5_196 hx hb hown hts hK hW HB.1 (putAt (k := 0) (by decide)) dX5_readLine_34 ?_
      refine lv_if_eq (tgt := 44) hx hb dX5_readLine_37 (by decide) (fun c_14 => ?_) (fun c_14 => ?_)
      · have hw := hw.1 c_14
        refine lv_iconst (v := 1) hx hb dX5_readLine_44 (by decide) ?_
        refine lv_iadd hx hb dX5_readLine_45 ?_
        obtain ⟨X_15, eX_15⟩ : ∃ z : ES, z = va_up X_13 0 (upd (X_13 0) 6 (((X_13 0) 6) + 1)) := ⟨_, rfl⟩
        have hw := hw X_15 eX_15
        refine p_X5_186 (E1 := put 7 o X_15 E0) hx hb hown hts hK hA hW hS HB.1 (putAt (k := 0) (by decide)) dX5_readLine_46 (puE (k := 0) (by decide) eX_15) (fun H locs hW hS => ?_)
        refine lv_iload_n hx hb dX5_readLine_49 rfl (lv_at hl 0 rfl) ?_
        exact w_iret hx hb hr hlocks hW hS ⟨X_15, rfl, hw⟩ dX5_readLine_50
      · have hw := hw.2 c_14
        refine lv_iconst (v := 0) hx hb dX5_readLine_40 (by decide) ?_
        refine lv_goto (tgt := 45) hx hb dX5_readLine_41 (by decide) ?_
        refine lv_iadd hx hb dX5_readLine_45 ?_
        obtain ⟨X_16, eX_16⟩ : ∃ z : ES, z = va_up X_13 0 (upd (X_13 0) 6 (((X_13 0) 6) + 0)) := ⟨_, rfl⟩
        have hw := hw X_16 eX_16
        refine p_X5_186 (E1 := put 7 o X_16 E0) hx hb hown hts hK hA hW hS HB.1 (putAt (k := 0) (by decide)) dX5_readLine_46 (puE (k := 0) (by decide) eX_16) (fun H locs hW hS => ?_)
        refine lv_iload_n hx hb dX5_readLine_49 rfl (lv_at hl 0 rfl) ?_
        exact w_iret hx hb hr hlocks hW hS ⟨X_16, rfl, hw⟩ dX5_readLine_50
set_option maxHeartbeats 4000000 in
set_option maxRecDepth 100000 in
theorem c_X5_readNumber {l : Launch} {g : GG} {lay : LY} {E0 : ES} {o : Nat} {X : ES} {K : Int32 → ES → Prop} (hA : okL g lay) (HB : ML g lay o) (hX : ∀ k, k < 7 → E0 (o + k) = X k) (hw : wp_X5_readNumber X K) : JMi l g lay yX5_readNumber wsX5_readNumber rmX5_readNumber [.ref o] E0 (fun r E1 => ∃ X1 : ES, E1 = put 7 o X1 E0 ∧ K r X1) := by
  refine Met.ofW (cc := cX5_readNumber) (maxL := 2) (ret := (some .int)) (by decide) rfl ?_
  intro p e s m args below meth c s₁ B hml hv
  obtain ⟨rfl, hK, hW⟩ := hv
  have hx := B.exec
  have hb := B.bytes
  have hr := B.returns
  have hts := gd_of (atoms_spec (ws := wsX5_readNumber) B.pre)
  have hown : s.vm.findClass RX5 = some m.cls := findClass_of_methodNamed B.named
  have hlocks := B.notSynchronized
  have hS : va_S (Ab g) s.heap s.heap [] := va_S.rf
  have hW : Wd g lay (put 7 o X E0) s.heap := by rw [putSelf hX]; exact hW
  have hl := lv_entry [.ref o] (n := 2) (Nat.le_of_ble_eq_true rfl)
  rw [lg_entry_eq]
  generalize (lg_sl [.ref o] ++ List.replicate (2 - (lg_sl [.ref o]).length) Slot.unset).toArray = ls at hl ⊢
  have hl : lv_has ls 2 [(0, .ref o)] := hl
  unfold wp_X5_readNumber at hw
  refine lv_aload_n hx hb dX5_readNumber_0 rfl (lv_at hl 0 rfl) ?_
  refine w_cvi (As := []) (rest := []) hx hb hml hown hts hK hW hS hl.1 (c_X5_next hA HB (fun k hk => putAt hk)  hw) (k_X5_189 hts ⟨Nat.le_of_ble_eq_true rfl, Nat.le_of_ble_eq_true rfl⟩) (w_recv hK hW HB.1 (putAt (k := 0) (by decide)) rfl rfl) rfl rfl (Nat.le_of_ble_eq_true rfl) dX5_readNumber_1 ⟨Nat.zero_le _, Nat.zero_le _⟩ (fun r_1 Ez H locs hw2 hW hS => ?_)
  obtain ⟨ez, hw⟩ := hw2
  rw [ez] at hW
  refine lv_bipush (v := 49) hx hb dX5_readNumber_4 (by decide) ?_
  refine lv_bipush (v := 57) hx hb dX5_readNumber_6 (by decide) ?_
  refine w_csi (As := [.int r_1, .int 49, .int 57]) (rest := []) hx hb hml hown hts hK hW hS hl.1 (c_X5_in hw) (k_X5_33 hts ⟨Nat.le_of_ble_eq_true rfl, Nat.le_of_ble_eq_true rfl⟩) rfl rfl (Nat.le_of_ble_eq_true rfl) dX5_readNumber_8 ⟨Nat.zero_le _, Nat.zero_le _⟩ (fun r_2 Ez H locs hw2 hW hS => ?_)
  obtain ⟨ez, z_3, hw⟩ := hw2
  rw [ez] at hW
  refine lv_if_ne (tgt := 21) hx hb dX5_readNumber_11 (by decide) (fun c_4 => ?_) (fun c_4 => ?_)
  · have hw := hw.2 c_4
    refine lv_aload_n hx hb dX5_readNumber_21 rfl (lv_at hl 0 rfl) ?_
    refine w_cvi (As := []) (rest := []) hx hb hml hown hts hK hW hS hl.1 (c_X5_next hA HB (fun k hk => putAt hk)  hw) (k_X5_189 hts ⟨Nat.le_of_ble_eq_true rfl, Nat.le_of_ble_eq_true rfl⟩) (w_recv hK hW HB.1 (putAt (k := 0) (by decide)) rfl rfl) rfl rfl (Nat.le_of_ble_eq_true rfl) dX5_readNumber_22 ⟨Nat.zero_le _, Nat.zero_le _⟩ (fun r_5 Ez H locs hw2 hW hS => ?_)
    obtain ⟨ez, hw⟩ := hw2
    rw [ez] at hW
    refine lv_bipush (v := 48) hx hb dX5_readNumber_25 (by decide) ?_
    refine lv_isub hx hb dX5_readNumber_27 ?_
    refine lv_topi (fun v_6 ev_6 => ?_)
    have hw := hw v_6 ev_6
    refine lv_istore_n (lv' := [(1, .int v_6), (0, .ref o)]) hx hb dX5_readNumber_28 rfl hl (by decide) rfl (fun ls hl => ?_)
    refine lv_aload_n hx hb dX5_readNumber_29 rfl (lv_at hl 1 rfl) ?_
    refine lv_dup hx hb dX5_readNumber_30 rfl ?_
    refine g_X5_186 hx hb hown hts hK hW HB.1 (putAt (k := 0) (by decide)) dX5_readNumber_31 ?_
    refine lv_iconst (v := 1) hx hb dX5_readNumber_34 (by decide) ?_
    refine lv_iadd hx hb dX5_readNumber_35 ?_
    obtain ⟨X_7, eX_7⟩ : ∃ z : ES, z = va_up X 0 (upd (X 0) 6 (((X 0) 6) + 1)) := ⟨_, rfl⟩
    have hw := hw X_7 eX_7
    refine p_X5_186 (E1 := put 7 o X_7 E0) hx hb hown hts hK hA hW hS HB.1 (putAt (k := 0) (by decide)) dX5_readNumber_36 (puE (k := 0) (by decide) eX_7) (fun H locs hW hS => ?_)
    obtain ⟨n_30, hw⟩ := hw
    refine w_loop (KT := Int32 → ES → Prop) (σ := Int32 × ES) (Wl := fun Kx_39 n_39 q => wpl_X5_readNumber_39 K Kx_39 n_39 q.1 q.2) (Pw := fun q => Wd g lay (put 7 o q.2 E0)) (lvf := fun q => [(0, .ref o), (1, .int q.1)]) (nL := 2) n_30 (v_6, X_7) hw hW hS (lv_sub hl [1, 0] rfl) (fun _ h => h) (fun Kx_39 eK_39 n_39 q H locs ls hw hW hS hl ih_39 => ?_)
    obtain ⟨i_8, X_9⟩ := q
    try dsimp only at hw
    rw [wpl_X5_readNumber_39] at hw
    have hl : lv_has ls 2 [(0, .ref o), (1, .int i_8)] := hl
    have hW : Wd g lay (put 7 o X_9 E0) H := hW
    refine lv_aload_n hx hb dX5_readNumber_39 rfl (lv_at hl 0 rfl) ?_
    refine w_cvi (As := []) (rest := []) hx hb hml hown hts hK hW hS hl.1 (c_X5_next hA HB (fun k hk => putAt hk)  hw) (k_X5_189 hts ⟨Nat.le_of_ble_eq_true rfl, Nat.le_of_ble_eq_true rfl⟩) (w_recv hK hW HB.1 (putAt (k := 0) (by decide)) rfl rfl) rfl rfl (Nat.le_of_ble_eq_true rfl) dX5_readNumber_40 ⟨Nat.zero_le _, Nat.zero_le _⟩ (fun r_21 Ez H locs hw2 hW hS => ?_)
    obtain ⟨ez, hw⟩ := hw2
    rw [ez] at hW
    refine lv_bipush (v := 48) hx hb dX5_readNumber_43 (by decide) ?_
    refine lv_bipush (v := 57) hx hb dX5_readNumber_45 (by decide) ?_
    refine w_csi (As := [.int r_21, .int 48, .int 57]) (rest := []) hx hb hml hown hts hK hW hS hl.1 (c_X5_in hw) (k_X5_33 hts ⟨Nat.le_of_ble_eq_true rfl, Nat.le_of_ble_eq_true rfl⟩) rfl rfl (Nat.le_of_ble_eq_true rfl) dX5_readNumber_47 ⟨Nat.zero_le _, Nat.zero_le _⟩ (fun r_22 Ez H locs hw2 hW hS => ?_)
    obtain ⟨ez, z_23, hw⟩ := hw2
    rw [ez] at hW
    refine lv_if_eq (tgt := 97) hx hb dX5_readNumber_50 (by decide) (fun c_24 => ?_) (fun c_24 => ?_)
    · have hw := hw.1 c_24
      rw [eK_39] at hw
      refine lv_iload_n hx hb dX5_readNumber_97 rfl (lv_at hl 1 rfl) ?_
      exact w_iret hx hb hr hlocks hW hS ⟨X_9, rfl, hw⟩ dX5_readNumber_98
    · have hw := hw.2 c_24
      refine lv_bipush (v := 10) hx hb dX5_readNumber_53 (by decide) ?_
      refine lv_iload_n hx hb dX5_readNumber_55 rfl (lv_at hl 1 rfl) ?_
      refine lv_imul hx hb dX5_readNumber_56 ?_
      refine lv_aload_n hx hb dX5_readNumber_57 rfl (lv_at hl 0 rfl) ?_
      refine w_cvi (As := []) (rest := [.int (10 * i_8)]) hx hb hml hown hts hK hW hS hl.1 (c_X5_next hA HB (fun k hk => putAt hk)  hw) (k_X5_189 hts ⟨Nat.le_of_ble_eq_true rfl, Nat.le_of_ble_eq_true rfl⟩) (w_recv hK hW HB.1 (putAt (k := 0) (by decide)) rfl rfl) rfl rfl (Nat.le_of_ble_eq_true rfl) dX5_readNumber_58 ⟨Nat.zero_le _, Nat.zero_le _⟩ (fun r_25 Ez H locs hw2 hW hS => ?_)
      obtain ⟨ez, hw⟩ := hw2
      rw [ez] at hW
      refine lv_iadd hx hb dX5_readNumber_61 ?_
      refine lv_bipush (v := 48) hx hb dX5_readNumber_62 (by decide) ?_
      refine lv_isub hx hb dX5_readNumber_64 ?_
      refine lv_sipush (v := 200) hx hb dX5_readNumber_65 (by decide) ?_
      refine lv_icmp_gt (tgt := 97) hx hb dX5_readNumber_68 (by decide) (fun c_26 => ?_) (fun c_26 => ?_)
      · have hw := hw.1 c_26
        rw [eK_39] at hw
        refine lv_iload_n hx hb dX5_readNumber_97 rfl (lv_at hl 1 rfl) ?_
        exact w_iret hx hb hr hlocks hW hS ⟨X_9, rfl, hw⟩ dX5_readNumber_98
      · have hw := hw.2 c_26
        refine lv_bipush (v := 10) hx hb dX5_readNumber_71 (by decide) ?_
        refine lv_iload_n hx hb dX5_readNumber_73 rfl (lv_at hl 1 rfl) ?_
        refine lv_imul hx hb dX5_readNumber_74 ?_
        refine lv_aload_n hx hb dX5_readNumber_75 rfl (lv_at hl 0 rfl) ?_
        refine w_cvi (As := []) (rest := [.int (10 * i_8)]) hx hb hml hown hts hK hW hS hl.1 (c_X5_next hA HB (fun k hk => putAt hk)  hw) (k_X5_189 hts ⟨Nat.le_of_ble_eq_true rfl, Nat.le_of_ble_eq_true rfl⟩) (w_recv hK hW HB.1 (putAt (k := 0) (by decide)) rfl rfl) rfl rfl (Nat.le_of_ble_eq_true rfl) dX5_readNumber_76 ⟨Nat.zero_le _, Nat.zero_le _⟩ (fun r_27 Ez H locs hw2 hW hS => ?_)
        obtain ⟨ez, hw⟩ := hw2
        rw [ez] at hW
        refine lv_iadd hx hb dX5_readNumber_79 ?_
        refine lv_bipush (v := 48) hx hb dX5_readNumber_80 (by decide) ?_
        refine lv_isub hx hb dX5_readNumber_82 ?_
        refine lv_topi (fun v_28 ev_28 => ?_)
        have hw := hw v_28 ev_28
        refine lv_istore_n (lv' := [(1, .int v_28), (0, .ref o)]) hx hb dX5_readNumber_83 rfl hl (by decide) rfl (fun ls hl => ?_)
        refine lv_aload_n hx hb dX5_readNumber_84 rfl (lv_at hl 1 rfl) ?_
        refine lv_dup hx hb dX5_readNumber_85 rfl ?_
        refine g_X5_186 hx hb hown hts hK hW HB.1 (putAt (k := 0) (by decide)) dX5_readNumber_86 ?_
        refine lv_iconst (v := 1) hx hb dX5_readNumber_89 (by decide) ?_
        refine lv_iadd hx hb dX5_readNumber_90 ?_
        obtain ⟨X_29, eX_29⟩ : ∃ z : ES, z = va_up X_9 0 (upd (X_9 0) 6 (((X_9 0) 6) + 1)) := ⟨_, rfl⟩
        have hw := hw X_29 eX_29
        refine p_X5_186 (E1 := put 7 o X_29 E0) hx hb hown hts hK hA hW hS HB.1 (putAt (k := 0) (by decide)) dX5_readNumber_91 (puE (k := 0) (by decide) eX_29) (fun H locs hW hS => ?_)
        refine lv_goto (tgt := 39) hx hb dX5_readNumber_94 (by decide) ?_
        exact ih_39 (v_28, X_29) _ _ _ hw hW hS (lv_sub hl [1, 0] rfl)
  · have hw := hw.1 c_4
    refine lv_aload_n hx hb dX5_readNumber_14 rfl (lv_at hl 0 rfl) ?_
    refine lv_iconst (v := 1) hx hb dX5_readNumber_15 (by decide) ?_
    obtain ⟨X_31, eX_31⟩ : ∃ z : ES, z = va_up X 0 (upd (X 0) 7 1) := ⟨_, rfl⟩
    have hw := hw X_31 eX_31
    refine p_X5_196 (E1 := put 7 o X_31 E0) hx hb hown hts hK hA hW hS HB.1 (putAt (k := 0) (by decide)) (Or.inr rfl) dX5_readNumber_16 (puE (k := 0) (by decide) eX_31) (fun H locs hW hS => ?_)
    refine lv_iconst (v := 0) hx hb dX5_readNumber_19 (by decide) ?_
    exact w_iret hx hb hr hlocks hW hS ⟨X_31, rfl, hw⟩ dX5_readNumber_20
set_option maxHeartbeats 4000000 in
set_option maxRecDepth 100000 in
theorem c_X5_readDigits {l : Launch} {g : GG} {lay : LY} {E0 : ES} {o : Nat} {X : ES} {p1 : Int32} {K : ES → Prop} (hA : okL g lay) (HB : ML g lay o) (hX : ∀ k, k < 7 → E0 (o + k) = X k) (hw : wp_X5_readDigits X p1 K) : JMv l g lay yX5_readDigits wsX5_readDigits rmX5_readDigits [.ref o, .int p1] E0 (fun E1 => ∃ X1 : ES, E1 = put 7 o X1 E0 ∧ K X1) := by
  refine Met.ofW (cc := cX5_readDigits) (maxL := 2) (ret := none) (by decide) rfl ?_
  intro p e s m args below meth c s₁ B hml hv
  obtain ⟨rfl, hK, hW⟩ := hv
  have hx := B.exec
  have hb := B.bytes
  have hr := B.returns
  have hts := gd_of (atoms_spec (ws := wsX5_readDigits) B.pre)
  have hown : s.vm.findClass RX5 = some m.cls := findClass_of_methodNamed B.named
  have hlocks := B.notSynchronized
  have hS : va_S (Ab g) s.heap s.heap [] := va_S.rf
  have hW : Wd g lay (put 7 o X E0) s.heap := by rw [putSelf hX]; exact hW
  have hl := lv_entry [.ref o, .int p1] (n := 2) (Nat.le_of_ble_eq_true rfl)
  rw [lg_entry_eq]
  generalize (lg_sl [.ref o, .int p1] ++ List.replicate (2 - (lg_sl [.ref o, .int p1]).length) Slot.unset).toArray = ls at hl ⊢
  have hl : lv_has ls 2 [(0, .ref o), (1, .int p1)] := hl
  unfold wp_X5_readDigits at hw
  refine lv_aload_n hx hb dX5_readDigits_0 rfl (lv_at hl 0 rfl) ?_
  refine g_X5_26 hx hb hown hts hK hW HB.1 (putAt (k := 0) (by decide)) dX5_readDigits_1 ?_
  refine lv_iload_n hx hb dX5_readDigits_4 rfl (lv_at hl 1 rfl) ?_
  refine lv_iconst (v := 2) hx hb dX5_readDigits_5 (by decide) ?_
  refine lv_iadd hx hb dX5_readDigits_6 ?_
  refine lv_aload_n hx hb dX5_readDigits_7 rfl (lv_at hl 0 rfl) ?_
  refine g_X5_186 hx hb hown hts hK hW HB.1 (putAt (k := 0) (by decide)) dX5_readDigits_8 ?_
  obtain ⟨hin, hw⟩ := hw
  obtain ⟨X_1, eX_1⟩ : ∃ z : ES, z = va_up X 6 (upd (X 6) (p1 + 2).toNatClampNeg ((X 0) 6)) := ⟨_, rfl⟩
  have hw := hw X_1 eX_1
  refine w_iast (E1 := put 7 o X_1 E0) hx hb hK hA hW hS HB.2.2.2.2.2.2 (putAt (k := 6) (by decide)) hin dX5_readDigits_11 (puE (k := 6) (by decide) eX_1) (fun H locs hW hS => ?_)
  obtain ⟨n_47, hw⟩ := hw
  refine w_loop (KT := ES → Prop) (σ := ES) (Wl := fun Kx_12 n_12 q => wpl_X5_readDigits_12 K Kx_12 n_12 q) (Pw := fun q => Wd g lay (put 7 o q E0)) (lvf := fun q => [(0, .ref o), (1, .int p1)]) (nL := 2) n_47 (X_1) hw hW hS (lv_sub hl [0, 1] rfl) (fun _ h => h) (fun Kx_12 eK_12 n_12 q H locs ls hw hW hS hl ih_12 => ?_)
  obtain ⟨X_2, rfl⟩ : ∃ z, z = q := ⟨_, rfl⟩
  try dsimp only at hw
  rw [wpl_X5_readDigits_12] at hw
  have hl : lv_has ls 2 [(0, .ref o), (1, .int p1)] := hl
  have hW : Wd g lay (put 7 o X_2 E0) H := hW
  refine lv_aload_n hx hb dX5_readDigits_12 rfl (lv_at hl 0 rfl) ?_
  refine g_X5_196 hx hb hown hts hK hW HB.1 (putAt (k := 0) (by decide)) dX5_readDigits_13 ?_
  refine lv_if_ne (tgt := 46) hx hb dX5_readDigits_16 (by decide) (fun c_29 => ?_) (fun c_29 => ?_)
  · have hw := hw.2 c_29
    rw [eK_12] at hw
    refine lv_aload_n hx hb dX5_readDigits_46 rfl (lv_at hl 0 rfl) ?_
    refine g_X5_26 hx hb hown hts hK hW HB.1 (putAt (k := 0) (by decide)) dX5_readDigits_47 ?_
    refine lv_iload_n hx hb dX5_readDigits_50 rfl (lv_at hl 1 rfl) ?_
    refine lv_iconst (v := 3) hx hb dX5_readDigits_51 (by decide) ?_
    refine lv_iadd hx hb dX5_readDigits_52 ?_
    refine lv_aload_n hx hb dX5_readDigits_53 rfl (lv_at hl 0 rfl) ?_
    refine g_X5_186 hx hb hown hts hK hW HB.1 (putAt (k := 0) (by decide)) dX5_readDigits_54 ?_
    refine lv_aload_n hx hb dX5_readDigits_57 rfl (lv_at hl 0 rfl) ?_
    refine g_X5_26 hx hb hown hts hK hW HB.1 (putAt (k := 0) (by decide)) dX5_readDigits_58 ?_
    refine lv_iload_n hx hb dX5_readDigits_61 rfl (lv_at hl 1 rfl) ?_
    refine lv_iconst (v := 2) hx hb dX5_readDigits_62 (by decide) ?_
    refine lv_iadd hx hb dX5_readDigits_63 ?_
    obtain ⟨hin, hw⟩ := hw
    refine w_iald hx hb hK hW HB.2.2.2.2.2.2 (putAt (k := 6) (by decide)) hin dX5_readDigits_64 ?_
    refine lv_isub hx hb dX5_readDigits_65 ?_
    obtain ⟨hin, hw⟩ := hw
    obtain ⟨X_30, eX_30⟩ : ∃ z : ES, z = va_up X_2 6 (upd (X_2 6) (p1 + 3).toNatClampNeg (((X_2 0) 6) - ((X_2 6) (p1 + 2).toNatClampNeg))) := ⟨_, rfl⟩
    have hw := hw X_30 eX_30
    refine w_iast (E1 := put 7 o X_30 E0) hx hb hK hA hW hS HB.2.2.2.2.2.2 (putAt (k := 6) (by decide)) hin dX5_readDigits_66 (puE (k := 6) (by decide) eX_30) (fun H locs hW hS => ?_)
    refine lv_aload_n hx hb dX5_readDigits_67 rfl (lv_at hl 0 rfl) ?_
    refine lv_aload_n hx hb dX5_readDigits_68 rfl (lv_at hl 0 rfl) ?_
    refine g_X5_196 hx hb hown hts hK hW HB.1 (putAt (k := 0) (by decide)) dX5_readDigits_69 ?_
    refine lv_if_ne (tgt := 86) hx hb dX5_readDigits_72 (by decide) (fun c_31 => ?_) (fun c_31 => ?_)
    · have hw := hw.2 c_31
      refine lv_iconst (v := 1) hx hb dX5_readDigits_86 (by decide) ?_
      refine lv_goto (tgt := 91) hx hb dX5_readDigits_87 (by decide) ?_
      obtain ⟨X_32, eX_32⟩ : ∃ z : ES, z = va_up X_30 0 (upd (X_30 0) 7 1) := ⟨_, rfl⟩
      have hw := hw X_32 eX_32
      refine p_X5_196 (E1 := put 7 o X_32 E0) hx hb hown hts hK hA hW hS HB.1 (putAt (k := 0) (by decide)) (Or.inr rfl) dX5_readDigits_91 (puE (k := 0) (by decide) eX_32) (fun H locs hW hS => ?_)
      exact w_vret hx hb hr hlocks hW hS ⟨X_32, rfl, hw⟩ dX5_readDigits_94
    · have hw := hw.1 c_31
      refine lv_aload_n hx hb dX5_readDigits_75 rfl (lv_at hl 0 rfl) ?_
      refine g_X5_26 hx hb hown hts hK hW HB.1 (putAt (k := 0) (by decide)) dX5_readDigits_76 ?_
      refine lv_iload_n hx hb dX5_readDigits_79 rfl (lv_at hl 1 rfl) ?_
      refine lv_iconst (v := 3) hx hb dX5_readDigits_80 (by decide) ?_
      refine lv_iadd hx hb dX5_readDigits_81 ?_
      obtain ⟨hin, hw⟩ := hw
      refine w_iald hx hb hK hW HB.2.2.2.2.2.2 (putAt (k := 6) (by decide)) hin dX5_readDigits_82 ?_
      refine lv_if_ne (tgt := 90) hx hb dX5_readDigits_83 (by decide) (fun c_33 => ?_) (fun c_33 => ?_)
      · have hw := hw.2 c_33
        refine lv_iconst (v := 0) hx hb dX5_readDigits_90 (by decide) ?_
        obtain ⟨X_34, eX_34⟩ : ∃ z : ES, z = va_up X_30 0 (upd (X_30 0) 7 0) := ⟨_, rfl⟩
        have hw := hw X_34 eX_34
        refine p_X5_196 (E1 := put 7 o X_34 E0) hx hb hown hts hK hA hW hS HB.1 (putAt (k := 0) (by decide)) (Or.inl rfl) dX5_readDigits_91 (puE (k := 0) (by decide) eX_34) (fun H locs hW hS => ?_)
        exact w_vret hx hb hr hlocks hW hS ⟨X_34, rfl, hw⟩ dX5_readDigits_94
      · have hw := hw.1 c_33
        refine lv_iconst (v := 1) hx hb dX5_readDigits_86 (by decide) ?_
        refine lv_goto (tgt := 91) hx hb dX5_readDigits_87 (by decide) ?_
        obtain ⟨X_35, eX_35⟩ : ∃ z : ES, z = va_up X_30 0 (upd (X_30 0) 7 1) := ⟨_, rfl⟩
        have hw := hw X_35 eX_35
        refine p_X5_196 (E1 := put 7 o X_35 E0) hx hb hown hts hK hA hW hS HB.1 (putAt (k := 0) (by decide)) (Or.inr rfl) dX5_readDigits_91 (puE (k := 0) (by decide) eX_35) (fun H locs hW hS => ?_)
        exact w_vret hx hb hr hlocks hW hS ⟨X_35, rfl, hw⟩ dX5_readDigits_94
  · have hw := hw.1 c_29
    refine lv_aload_n hx hb dX5_readDigits_19 rfl (lv_at hl 0 rfl) ?_
    refine w_cvi (As := []) (rest := []) hx hb hml hown hts hK hW hS hl.1 (c_X5_next hA HB (fun k hk => putAt hk)  hw) (k_X5_189 hts ⟨Nat.le_of_ble_eq_true rfl, Nat.le_of_ble_eq_true rfl⟩) (w_recv hK hW HB.1 (putAt (k := 0) (by decide)) rfl rfl) rfl rfl (Nat.le_of_ble_eq_true rfl) dX5_readDigits_20 ⟨Nat.zero_le _, Nat.zero_le _⟩ (fun r_36 Ez H locs hw2 hW hS => ?_)
    obtain ⟨ez, hw⟩ := hw2
    rw [ez] at hW
    refine lv_bipush (v := 48) hx hb dX5_readDigits_23 (by decide) ?_
    refine lv_bipush (v := 57) hx hb dX5_readDigits_25 (by decide) ?_
    refine w_csi (As := [.int r_36, .int 48, .int 57]) (rest := []) hx hb hml hown hts hK hW hS hl.1 (c_X5_in hw) (k_X5_33 hts ⟨Nat.le_of_ble_eq_true rfl, Nat.le_of_ble_eq_true rfl⟩) rfl rfl (Nat.le_of_ble_eq_true rfl) dX5_readDigits_27 ⟨Nat.zero_le _, Nat.zero_le _⟩ (fun r_37 Ez H locs hw2 hW hS => ?_)
    obtain ⟨ez, z_38, hw⟩ := hw2
    rw [ez] at hW
    refine lv_if_eq (tgt := 46) hx hb dX5_readDigits_30 (by decide) (fun c_39 => ?_) (fun c_39 => ?_)
    · have hw := hw.1 c_39
      rw [eK_12] at hw
      refine lv_aload_n hx hb dX5_readDigits_46 rfl (lv_at hl 0 rfl) ?_
      refine g_X5_26 hx hb hown hts hK hW HB.1 (putAt (k := 0) (by decide)) dX5_readDigits_47 ?_
      refine lv_iload_n hx hb dX5_readDigits_50 rfl (lv_at hl 1 rfl) ?_
      refine lv_iconst (v := 3) hx hb dX5_readDigits_51 (by decide) ?_
      refine lv_iadd hx hb dX5_readDigits_52 ?_
      refine lv_aload_n hx hb dX5_readDigits_53 rfl (lv_at hl 0 rfl) ?_
      refine g_X5_186 hx hb hown hts hK hW HB.1 (putAt (k := 0) (by decide)) dX5_readDigits_54 ?_
      refine lv_aload_n hx hb dX5_readDigits_57 rfl (lv_at hl 0 rfl) ?_
      refine g_X5_26 hx hb hown hts hK hW HB.1 (putAt (k := 0) (by decide)) dX5_readDigits_58 ?_
      refine lv_iload_n hx hb dX5_readDigits_61 rfl (lv_at hl 1 rfl) ?_
      refine lv_iconst (v := 2) hx hb dX5_readDigits_62 (by decide) ?_
      refine lv_iadd hx hb dX5_readDigits_63 ?_
      obtain ⟨hin, hw⟩ := hw
      refine w_iald hx hb hK hW HB.2.2.2.2.2.2 (putAt (k := 6) (by decide)) hin dX5_readDigits_64 ?_
      refine lv_isub hx hb dX5_readDigits_65 ?_
      obtain ⟨hin, hw⟩ := hw
      obtain ⟨X_40, eX_40⟩ : ∃ z : ES, z = va_up X_2 6 (upd (X_2 6) (p1 + 3).toNatClampNeg (((X_2 0) 6) - ((X_2 6) (p1 + 2).toNatClampNeg))) := ⟨_, rfl⟩
      have hw := hw X_40 eX_40
      refine w_iast (E1 := put 7 o X_40 E0) hx hb hK hA hW hS HB.2.2.2.2.2.2 (putAt (k := 6) (by decide)) hin dX5_readDigits_66 (puE (k := 6) (by decide) eX_40) (fun H locs hW hS => ?_)
      refine lv_aload_n hx hb dX5_readDigits_67 rfl (lv_at hl 0 rfl) ?_
      refine lv_aload_n hx hb dX5_readDigits_68 rfl (lv_at hl 0 rfl) ?_
      refine g_X5_196 hx hb hown hts hK hW HB.1 (putAt (k := 0) (by decide)) dX5_readDigits_69 ?_
      refine lv_if_ne (tgt := 86) hx hb dX5_readDigits_72 (by decide) (fun c_41 => ?_) (fun c_41 => ?_)
      · have hw := hw.2 c_41
        refine lv_iconst (v := 1) hx hb dX5_readDigits_86 (by decide) ?_
        refine lv_goto (tgt := 91) hx hb dX5_readDigits_87 (by decide) ?_
        obtain ⟨X_42, eX_42⟩ : ∃ z : ES, z = va_up X_40 0 (upd (X_40 0) 7 1) := ⟨_, rfl⟩
        have hw := hw X_42 eX_42
        refine p_X5_196 (E1 := put 7 o X_42 E0) hx hb hown hts hK hA hW hS HB.1 (putAt (k := 0) (by decide)) (Or.inr rfl) dX5_readDigits_91 (puE (k := 0) (by decide) eX_42) (fun H locs hW hS => ?_)
        exact w_vret hx hb hr hlocks hW hS ⟨X_42, rfl, hw⟩ dX5_readDigits_94
      · have hw := hw.1 c_41
        refine lv_aload_n hx hb dX5_readDigits_75 rfl (lv_at hl 0 rfl) ?_
        refine g_X5_26 hx hb hown hts hK hW HB.1 (putAt (k := 0) (by decide)) dX5_readDigits_76 ?_
        refine lv_iload_n hx hb dX5_readDigits_79 rfl (lv_at hl 1 rfl) ?_
        refine lv_iconst (v := 3) hx hb dX5_readDigits_80 (by decide) ?_
        refine lv_iadd hx hb dX5_readDigits_81 ?_
        obtain ⟨hin, hw⟩ := hw
        refine w_iald hx hb hK hW HB.2.2.2.2.2.2 (putAt (k := 6) (by decide)) hin dX5_readDigits_82 ?_
        refine lv_if_ne (tgt := 90) hx hb dX5_readDigits_83 (by decide) (fun c_43 => ?_) (fun c_43 => ?_)
        · have hw := hw.2 c_43
          refine lv_iconst (v := 0) hx hb dX5_readDigits_90 (by decide) ?_
          obtain ⟨X_44, eX_44⟩ : ∃ z : ES, z = va_up X_40 0 (upd (X_40 0) 7 0) := ⟨_, rfl⟩
          have hw := hw X_44 eX_44
          refine p_X5_196 (E1 := put 7 o X_44 E0) hx hb hown hts hK hA hW hS HB.1 (putAt (k := 0) (by decide)) (Or.inl rfl) dX5_readDigits_91 (puE (k := 0) (by decide) eX_44) (fun H locs hW hS => ?_)
          exact w_vret hx hb hr hlocks hW hS ⟨X_44, rfl, hw⟩ dX5_readDigits_94
        · have hw := hw.1 c_43
          refine lv_iconst (v := 1) hx hb dX5_readDigits_86 (by decide) ?_
          refine lv_goto (tgt := 91) hx hb dX5_readDigits_87 (by decide) ?_
          obtain ⟨X_45, eX_45⟩ : ∃ z : ES, z = va_up X_40 0 (upd (X_40 0) 7 1) := ⟨_, rfl⟩
          have hw := hw X_45 eX_45
          refine p_X5_196 (E1 := put 7 o X_45 E0) hx hb hown hts hK hA hW hS HB.1 (putAt (k := 0) (by decide)) (Or.inr rfl) dX5_readDigits_91 (puE (k := 0) (by decide) eX_45) (fun H locs hW hS => ?_)
          exact w_vret hx hb hr hlocks hW hS ⟨X_45, rfl, hw⟩ dX5_readDigits_94
    · have hw := hw.2 c_39
      refine lv_aload_n hx hb dX5_readDigits_33 rfl (lv_at hl 0 rfl) ?_
      refine lv_dup hx hb dX5_readDigits_34 rfl ?_
      refine g_X5_186 hx hb hown hts hK hW HB.1 (putAt (k := 0) (by decide)) dX5_readDigits_35 ?_
      refine lv_iconst (v := 1) hx hb dX5_readDigits_38 (by decide) ?_
      refine lv_iadd hx hb dX5_readDigits_39 ?_
      obtain ⟨X_46, eX_46⟩ : ∃ z : ES, z = va_up X_2 0 (upd (X_2 0) 6 (((X_2 0) 6) + 1)) := ⟨_, rfl⟩
      have hw := hw X_46 eX_46
      refine p_X5_186 (E1 := put 7 o X_46 E0) hx hb hown hts hK hA hW hS HB.1 (putAt (k := 0) (by decide)) dX5_readDigits_40 (puE (k := 0) (by decide) eX_46) (fun H locs hW hS => ?_)
      refine lv_goto (tgt := 12) hx hb dX5_readDigits_43 (by decide) ?_
      exact ih_12 (X_46) _ _ _ hw hW hS (lv_sub hl [0, 1] rfl)
set_option maxHeartbeats 4000000 in
set_option maxRecDepth 100000 in
theorem c_X5_readAct {l : Launch} {g : GG} {lay : LY} {E0 : ES} {o : Nat} {X : ES} {K : ES → Prop} (hA : okL g lay) (HB : ML g lay o) (hX : ∀ k, k < 7 → E0 (o + k) = X k) (hw : wp_X5_readAct X K) : JMv l g lay yX5_readAct wsX5_readAct rmX5_readAct [.ref o] E0 (fun E1 => ∃ X1 : ES, E1 = put 7 o X1 E0 ∧ K X1) := by
  refine Met.ofW (cc := cX5_readAct) (maxL := 3) (ret := none) (by decide) rfl ?_
  intro p e s m args below meth c s₁ B hml hv
  obtain ⟨rfl, hK, hW⟩ := hv
  have hx := B.exec
  have hb := B.bytes
  have hr := B.returns
  have hts := gd_of (atoms_spec (ws := wsX5_readAct) B.pre)
  have hown : s.vm.findClass RX5 = some m.cls := findClass_of_methodNamed B.named
  have hlocks := B.notSynchronized
  have hS : va_S (Ab g) s.heap s.heap [] := va_S.rf
  have hW : Wd g lay (put 7 o X E0) s.heap := by rw [putSelf hX]; exact hW
  have hl := lv_entry [.ref o] (n := 3) (Nat.le_of_ble_eq_true rfl)
  rw [lg_entry_eq]
  generalize (lg_sl [.ref o] ++ List.replicate (3 - (lg_sl [.ref o]).length) Slot.unset).toArray = ls at hl ⊢
  have hl : lv_has ls 3 [(0, .ref o)] := hl
  unfold wp_X5_readAct at hw
  refine lv_aload_n hx hb dX5_readAct_0 rfl (lv_at hl 0 rfl) ?_
  refine w_cvi (As := []) (rest := []) hx hb hml hown hts hK hW hS hl.1 (c_X5_next hA HB (fun k hk => putAt hk)  hw) (k_X5_189 hts ⟨Nat.le_of_ble_eq_true rfl, Nat.le_of_ble_eq_true rfl⟩) (w_recv hK hW HB.1 (putAt (k := 0) (by decide)) rfl rfl) rfl rfl (Nat.le_of_ble_eq_true rfl) dX5_readAct_1 ⟨Nat.zero_le _, Nat.zero_le _⟩ (fun r_1 Ez H locs hw2 hW hS => ?_)
  obtain ⟨ez, hw⟩ := hw2
  rw [ez] at hW
  refine lv_istore_n (lv' := [(1, .int r_1), (0, .ref o)]) hx hb dX5_readAct_4 rfl hl (by decide) rfl (fun ls hl => ?_)
  refine lv_iload_n hx hb dX5_readAct_5 rfl (lv_at hl 0 rfl) ?_
  refine lv_bipush (v := 108) hx hb dX5_readAct_6 (by decide) ?_
  refine lv_icmp_eq (tgt := 35) hx hb dX5_readAct_8 (by decide) (fun c_2 => ?_) (fun c_2 => ?_)
  · have hw := hw.1 c_2
    refine lv_aload_n hx hb dX5_readAct_35 rfl (lv_at hl 1 rfl) ?_
    refine lv_dup hx hb dX5_readAct_36 rfl ?_
    refine g_X5_186 hx hb hown hts hK hW HB.1 (putAt (k := 0) (by decide)) dX5_readAct_37 ?_
    refine lv_iconst (v := 1) hx hb dX5_readAct_40 (by decide) ?_
    refine lv_iadd hx hb dX5_readAct_41 ?_
    obtain ⟨X_3, eX_3⟩ : ∃ z : ES, z = va_up X 0 (upd (X 0) 6 (((X 0) 6) + 1)) := ⟨_, rfl⟩
    have hw := hw X_3 eX_3
    refine p_X5_186 (E1 := put 7 o X_3 E0) hx hb hown hts hK hA hW hS HB.1 (putAt (k := 0) (by decide)) dX5_readAct_42 (puE (k := 0) (by decide) eX_3) (fun H locs hW hS => ?_)
    refine lv_iconst (v := 4) hx hb dX5_readAct_45 (by decide) ?_
    refine lv_aload_n hx hb dX5_readAct_46 rfl (lv_at hl 1 rfl) ?_
    refine g_X5_200 hx hb hown hts hK hW HB.1 (putAt (k := 0) (by decide)) dX5_readAct_47 ?_
    refine lv_imul hx hb dX5_readAct_50 ?_
    refine lv_topi (fun v_4 ev_4 => ?_)
    have hw := hw v_4 ev_4
    refine lv_istore_n (lv' := [(2, .int v_4), (1, .int r_1), (0, .ref o)]) hx hb dX5_readAct_51 rfl hl (by decide) rfl (fun ls hl => ?_)
    refine lv_aload_n hx hb dX5_readAct_52 rfl (lv_at hl 2 rfl) ?_
    refine g_X5_26 hx hb hown hts hK hW HB.1 (putAt (k := 0) (by decide)) dX5_readAct_53 ?_
    refine lv_iload_n hx hb dX5_readAct_56 rfl (lv_at hl 0 rfl) ?_
    refine lv_iload_n hx hb dX5_readAct_57 rfl (lv_at hl 1 rfl) ?_
    obtain ⟨hin, hw⟩ := hw
    obtain ⟨X_5, eX_5⟩ : ∃ z : ES, z = va_up X_3 6 (upd (X_3 6) v_4.toNatClampNeg r_1) := ⟨_, rfl⟩
    have hw := hw X_5 eX_5
    refine w_iast (E1 := put 7 o X_5 E0) hx hb hK hA hW hS HB.2.2.2.2.2.2 (putAt (k := 6) (by decide)) hin dX5_readAct_58 (puE (k := 6) (by decide) eX_5) (fun H locs hW hS => ?_)
    refine lv_aload_n hx hb dX5_readAct_59 rfl (lv_at hl 2 rfl) ?_
    refine g_X5_26 hx hb hown hts hK hW HB.1 (putAt (k := 0) (by decide)) dX5_readAct_60 ?_
    refine lv_iload_n hx hb dX5_readAct_63 rfl (lv_at hl 0 rfl) ?_
    refine lv_iconst (v := 1) hx hb dX5_readAct_64 (by decide) ?_
    refine lv_iadd hx hb dX5_readAct_65 ?_
    refine lv_iload_n hx hb dX5_readAct_66 rfl (lv_at hl 1 rfl) ?_
    refine lv_bipush (v := 116) hx hb dX5_readAct_67 (by decide) ?_
    refine lv_icmp_ne (tgt := 79) hx hb dX5_readAct_69 (by decide) (fun c_6 => ?_) (fun c_6 => ?_)
    · have hw := hw.2 c_6
      refine lv_aload_n hx hb dX5_readAct_79 rfl (lv_at hl 2 rfl) ?_
      refine w_cvi (As := []) (rest := [.int (v_4 + 1), .ref (o + 6)]) hx hb hml hown hts hK hW hS hl.1 (c_X5_readLine hA HB (fun k hk => putAt hk)  hw) (k_X5_206 hts ⟨Nat.le_of_ble_eq_true rfl, Nat.le_of_ble_eq_true rfl⟩) (w_recv hK hW HB.1 (putAt (k := 0) (by decide)) rfl rfl) rfl rfl (Nat.le_of_ble_eq_true rfl) dX5_readAct_80 ⟨Nat.zero_le _, Nat.zero_le _⟩ (fun r_7 Ez H locs hw2 hW hS => ?_)
      obtain ⟨X_8, ez, hw⟩ := hw2
      rw [ez, putPut] at hW
      obtain ⟨hin, hw⟩ := hw
      obtain ⟨X_9, eX_9⟩ : ∃ z : ES, z = va_up X_8 6 (upd (X_8 6) (v_4 + 1).toNatClampNeg r_7) := ⟨_, rfl⟩
      have hw := hw X_9 eX_9
      refine w_iast (E1 := put 7 o X_9 E0) hx hb hK hA hW hS HB.2.2.2.2.2.2 (putAt (k := 6) (by decide)) hin dX5_readAct_83 (puE (k := 6) (by decide) eX_9) (fun H locs hW hS => ?_)
      refine lv_iload_n hx hb dX5_readAct_84 rfl (lv_at hl 1 rfl) ?_
      refine lv_bipush (v := 100) hx hb dX5_readAct_85 (by decide) ?_
      refine lv_icmp_ne (tgt := 95) hx hb dX5_readAct_87 (by decide) (fun c_10 => ?_) (fun c_10 => ?_)
      · have hw := hw.2 c_10
        refine lv_aload_n hx hb dX5_readAct_95 rfl (lv_at hl 2 rfl) ?_
        refine lv_dup hx hb dX5_readAct_96 rfl ?_
        refine g_X5_200 hx hb hown hts hK hW HB.1 (putAt (k := 0) (by decide)) dX5_readAct_97 ?_
        refine lv_iconst (v := 1) hx hb dX5_readAct_100 (by decide) ?_
        refine lv_iadd hx hb dX5_readAct_101 ?_
        obtain ⟨X_11, eX_11⟩ : ∃ z : ES, z = va_up X_9 0 (upd (X_9 0) 9 (((X_9 0) 9) + 1)) := ⟨_, rfl⟩
        have hw := hw X_11 eX_11
        refine p_X5_200 (E1 := put 7 o X_11 E0) hx hb hown hts hK hA hW hS HB.1 (putAt (k := 0) (by decide)) dX5_readAct_102 (puE (k := 0) (by decide) eX_11) (fun H locs hW hS => ?_)
        exact w_vret hx hb hr hlocks hW hS ⟨X_11, rfl, hw⟩ dX5_readAct_105
      · have hw := hw.1 c_10
        refine lv_aload_n hx hb dX5_readAct_90 rfl (lv_at hl 2 rfl) ?_
        refine lv_iload_n hx hb dX5_readAct_91 rfl (lv_at hl 0 rfl) ?_
        refine w_cvv (As := [.int v_4]) (rest := []) hx hb hml hown hts hK hW hS hl.1 (c_X5_readDigits hA HB (fun k hk => putAt hk)  hw) (k_X5_209 hts ⟨Nat.le_of_ble_eq_true rfl, Nat.le_of_ble_eq_true rfl⟩) (w_recv hK hW HB.1 (putAt (k := 0) (by decide)) rfl rfl) rfl rfl (Nat.le_of_ble_eq_true rfl) dX5_readAct_92 ⟨Nat.zero_le _, Nat.zero_le _⟩ (fun Ez H locs hw2 hW hS => ?_)
        obtain ⟨X_12, ez, hw⟩ := hw2
        rw [ez, putPut] at hW
        refine lv_aload_n hx hb dX5_readAct_95 rfl (lv_at hl 2 rfl) ?_
        refine lv_dup hx hb dX5_readAct_96 rfl ?_
        refine g_X5_200 hx hb hown hts hK hW HB.1 (putAt (k := 0) (by decide)) dX5_readAct_97 ?_
        refine lv_iconst (v := 1) hx hb dX5_readAct_100 (by decide) ?_
        refine lv_iadd hx hb dX5_readAct_101 ?_
        obtain ⟨X_13, eX_13⟩ : ∃ z : ES, z = va_up X_12 0 (upd (X_12 0) 9 (((X_12 0) 9) + 1)) := ⟨_, rfl⟩
        have hw := hw X_13 eX_13
        refine p_X5_200 (E1 := put 7 o X_13 E0) hx hb hown hts hK hA hW hS HB.1 (putAt (k := 0) (by decide)) dX5_readAct_102 (puE (k := 0) (by decide) eX_13) (fun H locs hW hS => ?_)
        exact w_vret hx hb hr hlocks hW hS ⟨X_13, rfl, hw⟩ dX5_readAct_105
    · have hw := hw.1 c_6
      refine lv_aload_n hx hb dX5_readAct_72 rfl (lv_at hl 2 rfl) ?_
      refine w_cvi (As := []) (rest := [.int (v_4 + 1), .ref (o + 6)]) hx hb hml hown hts hK hW hS hl.1 (c_X5_readNumber hA HB (fun k hk => putAt hk)  hw) (k_X5_203 hts ⟨Nat.le_of_ble_eq_true rfl, Nat.le_of_ble_eq_true rfl⟩) (w_recv hK hW HB.1 (putAt (k := 0) (by decide)) rfl rfl) rfl rfl (Nat.le_of_ble_eq_true rfl) dX5_readAct_73 ⟨Nat.zero_le _, Nat.zero_le _⟩ (fun r_14 Ez H locs hw2 hW hS => ?_)
      obtain ⟨X_15, ez, hw⟩ := hw2
      rw [ez, putPut] at hW
      refine lv_goto (tgt := 83) hx hb dX5_readAct_76 (by decide) ?_
      obtain ⟨hin, hw⟩ := hw
      obtain ⟨X_16, eX_16⟩ : ∃ z : ES, z = va_up X_15 6 (upd (X_15 6) (v_4 + 1).toNatClampNeg r_14) := ⟨_, rfl⟩
      have hw := hw X_16 eX_16
      refine w_iast (E1 := put 7 o X_16 E0) hx hb hK hA hW hS HB.2.2.2.2.2.2 (putAt (k := 6) (by decide)) hin dX5_readAct_83 (puE (k := 6) (by decide) eX_16) (fun H locs hW hS => ?_)
      refine lv_iload_n hx hb dX5_readAct_84 rfl (lv_at hl 1 rfl) ?_
      refine lv_bipush (v := 100) hx hb dX5_readAct_85 (by decide) ?_
      refine lv_icmp_ne (tgt := 95) hx hb dX5_readAct_87 (by decide) (fun c_17 => ?_) (fun c_17 => ?_)
      · have hw := hw.2 c_17
        refine lv_aload_n hx hb dX5_readAct_95 rfl (lv_at hl 2 rfl) ?_
        refine lv_dup hx hb dX5_readAct_96 rfl ?_
        refine g_X5_200 hx hb hown hts hK hW HB.1 (putAt (k := 0) (by decide)) dX5_readAct_97 ?_
        refine lv_iconst (v := 1) hx hb dX5_readAct_100 (by decide) ?_
        refine lv_iadd hx hb dX5_readAct_101 ?_
        obtain ⟨X_18, eX_18⟩ : ∃ z : ES, z = va_up X_16 0 (upd (X_16 0) 9 (((X_16 0) 9) + 1)) := ⟨_, rfl⟩
        have hw := hw X_18 eX_18
        refine p_X5_200 (E1 := put 7 o X_18 E0) hx hb hown hts hK hA hW hS HB.1 (putAt (k := 0) (by decide)) dX5_readAct_102 (puE (k := 0) (by decide) eX_18) (fun H locs hW hS => ?_)
        exact w_vret hx hb hr hlocks hW hS ⟨X_18, rfl, hw⟩ dX5_readAct_105
      · have hw := hw.1 c_17
        refine lv_aload_n hx hb dX5_readAct_90 rfl (lv_at hl 2 rfl) ?_
        refine lv_iload_n hx hb dX5_readAct_91 rfl (lv_at hl 0 rfl) ?_
        refine w_cvv (As := [.int v_4]) (rest := []) hx hb hml hown hts hK hW hS hl.1 (c_X5_readDigits hA HB (fun k hk => putAt hk)  hw) (k_X5_209 hts ⟨Nat.le_of_ble_eq_true rfl, Nat.le_of_ble_eq_true rfl⟩) (w_recv hK hW HB.1 (putAt (k := 0) (by decide)) rfl rfl) rfl rfl (Nat.le_of_ble_eq_true rfl) dX5_readAct_92 ⟨Nat.zero_le _, Nat.zero_le _⟩ (fun Ez H locs hw2 hW hS => ?_)
        obtain ⟨X_19, ez, hw⟩ := hw2
        rw [ez, putPut] at hW
        refine lv_aload_n hx hb dX5_readAct_95 rfl (lv_at hl 2 rfl) ?_
        refine lv_dup hx hb dX5_readAct_96 rfl ?_
        refine g_X5_200 hx hb hown hts hK hW HB.1 (putAt (k := 0) (by decide)) dX5_readAct_97 ?_
        refine lv_iconst (v := 1) hx hb dX5_readAct_100 (by decide) ?_
        refine lv_iadd hx hb dX5_readAct_101 ?_
        obtain ⟨X_20, eX_20⟩ : ∃ z : ES, z = va_up X_19 0 (upd (X_19 0) 9 (((X_19 0) 9) + 1)) := ⟨_, rfl⟩
        have hw := hw X_20 eX_20
        refine p_X5_200 (E1 := put 7 o X_20 E0) hx hb hown hts hK hA hW hS HB.1 (putAt (k := 0) (by decide)) dX5_readAct_102 (puE (k := 0) (by decide) eX_20) (fun H locs hW hS => ?_)
        exact w_vret hx hb hr hlocks hW hS ⟨X_20, rfl, hw⟩ dX5_readAct_105
  · have hw := hw.2 c_2
    refine lv_iload_n hx hb dX5_readAct_11 rfl (lv_at hl 0 rfl) ?_
    refine lv_bipush (v := 104) hx hb dX5_readAct_12 (by decide) ?_
    refine lv_icmp_eq (tgt := 35) hx hb dX5_readAct_14 (by decide) (fun c_21 => ?_) (fun c_21 => ?_)
    · have hw := hw.1 c_21
      refine lv_aload_n hx hb dX5_readAct_35 rfl (lv_at hl 1 rfl) ?_
      refine lv_dup hx hb dX5_readAct_36 rfl ?_
      refine g_X5_186 hx hb hown hts hK hW HB.1 (putAt (k := 0) (by decide)) dX5_readAct_37 ?_
      refine lv_iconst (v := 1) hx hb dX5_readAct_40 (by decide) ?_
      refine lv_iadd hx hb dX5_readAct_41 ?_
      obtain ⟨X_22, eX_22⟩ : ∃ z : ES, z = va_up X 0 (upd (X 0) 6 (((X 0) 6) + 1)) := ⟨_, rfl⟩
      have hw := hw X_22 eX_22
      refine p_X5_186 (E1 := put 7 o X_22 E0) hx hb hown hts hK hA hW hS HB.1 (putAt (k := 0) (by decide)) dX5_readAct_42 (puE (k := 0) (by decide) eX_22) (fun H locs hW hS => ?_)
      refine lv_iconst (v := 4) hx hb dX5_readAct_45 (by decide) ?_
      refine lv_aload_n hx hb dX5_readAct_46 rfl (lv_at hl 1 rfl) ?_
      refine g_X5_200 hx hb hown hts hK hW HB.1 (putAt (k := 0) (by decide)) dX5_readAct_47 ?_
      refine lv_imul hx hb dX5_readAct_50 ?_
      refine lv_topi (fun v_23 ev_23 => ?_)
      have hw := hw v_23 ev_23
      refine lv_istore_n (lv' := [(2, .int v_23), (1, .int r_1), (0, .ref o)]) hx hb dX5_readAct_51 rfl hl (by decide) rfl (fun ls hl => ?_)
      refine lv_aload_n hx hb dX5_readAct_52 rfl (lv_at hl 2 rfl) ?_
      refine g_X5_26 hx hb hown hts hK hW HB.1 (putAt (k := 0) (by decide)) dX5_readAct_53 ?_
      refine lv_iload_n hx hb dX5_readAct_56 rfl (lv_at hl 0 rfl) ?_
      refine lv_iload_n hx hb dX5_readAct_57 rfl (lv_at hl 1 rfl) ?_
      obtain ⟨hin, hw⟩ := hw
      obtain ⟨X_24, eX_24⟩ : ∃ z : ES, z = va_up X_22 6 (upd (X_22 6) v_23.toNatClampNeg r_1) := ⟨_, rfl⟩
      have hw := hw X_24 eX_24
      refine w_iast (E1 := put 7 o X_24 E0) hx hb hK hA hW hS HB.2.2.2.2.2.2 (putAt (k := 6) (by decide)) hin dX5_readAct_58 (puE (k := 6) (by decide) eX_24) (fun H locs hW hS => ?_)
      refine lv_aload_n hx hb dX5_readAct_59 rfl (lv_at hl 2 rfl) ?_
      refine g_X5_26 hx hb hown hts hK hW HB.1 (putAt (k := 0) (by decide)) dX5_readAct_60 ?_
      refine lv_iload_n hx hb dX5_readAct_63 rfl (lv_at hl 0 rfl) ?_
      refine lv_iconst (v := 1) hx hb dX5_readAct_64 (by decide) ?_
      refine lv_iadd hx hb dX5_readAct_65 ?_
      refine lv_iload_n hx hb dX5_readAct_66 rfl (lv_at hl 1 rfl) ?_
      refine lv_bipush (v := 116) hx hb dX5_readAct_67 (by decide) ?_
      refine lv_icmp_ne (tgt := 79) hx hb dX5_readAct_69 (by decide) (fun c_25 => ?_) (fun c_25 => ?_)
      · have hw := hw.2 c_25
        refine lv_aload_n hx hb dX5_readAct_79 rfl (lv_at hl 2 rfl) ?_
        refine w_cvi (As := []) (rest := [.int (v_23 + 1), .ref (o + 6)]) hx hb hml hown hts hK hW hS hl.1 (c_X5_readLine hA HB (fun k hk => putAt hk)  hw) (k_X5_206 hts ⟨Nat.le_of_ble_eq_true rfl, Nat.le_of_ble_eq_true rfl⟩) (w_recv hK hW HB.1 (putAt (k := 0) (by decide)) rfl rfl) rfl rfl (Nat.le_of_ble_eq_true rfl) dX5_readAct_80 ⟨Nat.zero_le _, Nat.zero_le _⟩ (fun r_26 Ez H locs hw2 hW hS => ?_)
        obtain ⟨X_27, ez, hw⟩ := hw2
        rw [ez, putPut] at hW
        obtain ⟨hin, hw⟩ := hw
        obtain ⟨X_28, eX_28⟩ : ∃ z : ES, z = va_up X_27 6 (upd (X_27 6) (v_23 + 1).toNatClampNeg r_26) := ⟨_, rfl⟩
        have hw := hw X_28 eX_28
        refine w_iast (E1 := put 7 o X_28 E0) hx hb hK hA hW hS HB.2.2.2.2.2.2 (putAt (k := 6) (by decide)) hin dX5_readAct_83 (puE (k := 6) (by decide) eX_28) (fun H locs hW hS => ?_)
        refine lv_iload_n hx hb dX5_readAct_84 rfl (lv_at hl 1 rfl) ?_
        refine lv_bipush (v := 100) hx hb dX5_readAct_85 (by decide) ?_
        refine lv_icmp_ne (tgt := 95) hx hb dX5_readAct_87 (by decide) (fun c_29 => ?_) (fun c_29 => ?_)
        · have hw := hw.2 c_29
          refine lv_aload_n hx hb dX5_readAct_95 rfl (lv_at hl 2 rfl) ?_
          refine lv_dup hx hb dX5_readAct_96 rfl ?_
          refine g_X5_200 hx hb hown hts hK hW HB.1 (putAt (k := 0) (by decide)) dX5_readAct_97 ?_
          refine lv_iconst (v := 1) hx hb dX5_readAct_100 (by decide) ?_
          refine lv_iadd hx hb dX5_readAct_101 ?_
          obtain ⟨X_30, eX_30⟩ : ∃ z : ES, z = va_up X_28 0 (upd (X_28 0) 9 (((X_28 0) 9) + 1)) := ⟨_, rfl⟩
          have hw := hw X_30 eX_30
          refine p_X5_200 (E1 := put 7 o X_30 E0) hx hb hown hts hK hA hW hS HB.1 (putAt (k := 0) (by decide)) dX5_readAct_102 (puE (k := 0) (by decide) eX_30) (fun H locs hW hS => ?_)
          exact w_vret hx hb hr hlocks hW hS ⟨X_30, rfl, hw⟩ dX5_readAct_105
        · have hw := hw.1 c_29
          refine lv_aload_n hx hb dX5_readAct_90 rfl (lv_at hl 2 rfl) ?_
          refine lv_iload_n hx hb dX5_readAct_91 rfl (lv_at hl 0 rfl) ?_
          refine w_cvv (As := [.int v_23]) (rest := []) hx hb hml hown hts hK hW hS hl.1 (c_X5_readDigits hA HB (fun k hk => putAt hk)  hw) (k_X5_209 hts ⟨Nat.le_of_ble_eq_true rfl, Nat.le_of_ble_eq_true rfl⟩) (w_recv hK hW HB.1 (putAt (k := 0) (by decide)) rfl rfl) rfl rfl (Nat.le_of_ble_eq_true rfl) dX5_readAct_92 ⟨Nat.zero_le _, Nat.zero_le _⟩ (fun Ez H locs hw2 hW hS => ?_)
          obtain ⟨X_31, ez, hw⟩ := hw2
          rw [ez, putPut] at hW
          refine lv_aload_n hx hb dX5_readAct_95 rfl (lv_at hl 2 rfl) ?_
          refine lv_dup hx hb dX5_readAct_96 rfl ?_
          refine g_X5_200 hx hb hown hts hK hW HB.1 (putAt (k := 0) (by decide)) dX5_readAct_97 ?_
          refine lv_iconst (v := 1) hx hb dX5_readAct_100 (by decide) ?_
          refine lv_iadd hx hb dX5_readAct_101 ?_
          obtain ⟨X_32, eX_32⟩ : ∃ z : ES, z = va_up X_31 0 (upd (X_31 0) 9 (((X_31 0) 9) + 1)) := ⟨_, rfl⟩
          have hw := hw X_32 eX_32
          refine p_X5_200 (E1 := put 7 o X_32 E0) hx hb hown hts hK hA hW hS HB.1 (putAt (k := 0) (by decide)) dX5_readAct_102 (puE (k := 0) (by decide) eX_32) (fun H locs hW hS => ?_)
          exact w_vret hx hb hr hlocks hW hS ⟨X_32, rfl, hw⟩ dX5_readAct_105
      · have hw := hw.1 c_25
        refine lv_aload_n hx hb dX5_readAct_72 rfl (lv_at hl 2 rfl) ?_
        refine w_cvi (As := []) (rest := [.int (v_23 + 1), .ref (o + 6)]) hx hb hml hown hts hK hW hS hl.1 (c_X5_readNumber hA HB (fun k hk => putAt hk)  hw) (k_X5_203 hts ⟨Nat.le_of_ble_eq_true rfl, Nat.le_of_ble_eq_true rfl⟩) (w_recv hK hW HB.1 (putAt (k := 0) (by decide)) rfl rfl) rfl rfl (Nat.le_of_ble_eq_true rfl) dX5_readAct_73 ⟨Nat.zero_le _, Nat.zero_le _⟩ (fun r_33 Ez H locs hw2 hW hS => ?_)
        obtain ⟨X_34, ez, hw⟩ := hw2
        rw [ez, putPut] at hW
        refine lv_goto (tgt := 83) hx hb dX5_readAct_76 (by decide) ?_
        obtain ⟨hin, hw⟩ := hw
        obtain ⟨X_35, eX_35⟩ : ∃ z : ES, z = va_up X_34 6 (upd (X_34 6) (v_23 + 1).toNatClampNeg r_33) := ⟨_, rfl⟩
        have hw := hw X_35 eX_35
        refine w_iast (E1 := put 7 o X_35 E0) hx hb hK hA hW hS HB.2.2.2.2.2.2 (putAt (k := 6) (by decide)) hin dX5_readAct_83 (puE (k := 6) (by decide) eX_35) (fun H locs hW hS => ?_)
        refine lv_iload_n hx hb dX5_readAct_84 rfl (lv_at hl 1 rfl) ?_
        refine lv_bipush (v := 100) hx hb dX5_readAct_85 (by decide) ?_
        refine lv_icmp_ne (tgt := 95) hx hb dX5_readAct_87 (by decide) (fun c_36 => ?_) (fun c_36 => ?_)
        · have hw := hw.2 c_36
          refine lv_aload_n hx hb dX5_readAct_95 rfl (lv_at hl 2 rfl) ?_
          refine lv_dup hx hb dX5_readAct_96 rfl ?_
          refine g_X5_200 hx hb hown hts hK hW HB.1 (putAt (k := 0) (by decide)) dX5_readAct_97 ?_
          refine lv_iconst (v := 1) hx hb dX5_readAct_100 (by decide) ?_
          refine lv_iadd hx hb dX5_readAct_101 ?_
          obtain ⟨X_37, eX_37⟩ : ∃ z : ES, z = va_up X_35 0 (upd (X_35 0) 9 (((X_35 0) 9) + 1)) := ⟨_, rfl⟩
          have hw := hw X_37 eX_37
          refine p_X5_200 (E1 := put 7 o X_37 E0) hx hb hown hts hK hA hW hS HB.1 (putAt (k := 0) (by decide)) dX5_readAct_102 (puE (k := 0) (by decide) eX_37) (fun H locs hW hS => ?_)
          exact w_vret hx hb hr hlocks hW hS ⟨X_37, rfl, hw⟩ dX5_readAct_105
        · have hw := hw.1 c_36
          refine lv_aload_n hx hb dX5_readAct_90 rfl (lv_at hl 2 rfl) ?_
          refine lv_iload_n hx hb dX5_readAct_91 rfl (lv_at hl 0 rfl) ?_
          refine w_cvv (As := [.int v_23]) (rest := []) hx hb hml hown hts hK hW hS hl.1 (c_X5_readDigits hA HB (fun k hk => putAt hk)  hw) (k_X5_209 hts ⟨Nat.le_of_ble_eq_true rfl, Nat.le_of_ble_eq_true rfl⟩) (w_recv hK hW HB.1 (putAt (k := 0) (by decide)) rfl rfl) rfl rfl (Nat.le_of_ble_eq_true rfl) dX5_readAct_92 ⟨Nat.zero_le _, Nat.zero_le _⟩ (fun Ez H locs hw2 hW hS => ?_)
          obtain ⟨X_38, ez, hw⟩ := hw2
          rw [ez, putPut] at hW
          refine lv_aload_n hx hb dX5_readAct_95 rfl (lv_at hl 2 rfl) ?_
          refine lv_dup hx hb dX5_readAct_96 rfl ?_
          refine g_X5_200 hx hb hown hts hK hW HB.1 (putAt (k := 0) (by decide)) dX5_readAct_97 ?_
          refine lv_iconst (v := 1) hx hb dX5_readAct_100 (by decide) ?_
          refine lv_iadd hx hb dX5_readAct_101 ?_
          obtain ⟨X_39, eX_39⟩ : ∃ z : ES, z = va_up X_38 0 (upd (X_38 0) 9 (((X_38 0) 9) + 1)) := ⟨_, rfl⟩
          have hw := hw X_39 eX_39
          refine p_X5_200 (E1 := put 7 o X_39 E0) hx hb hown hts hK hA hW hS HB.1 (putAt (k := 0) (by decide)) dX5_readAct_102 (puE (k := 0) (by decide) eX_39) (fun H locs hW hS => ?_)
          exact w_vret hx hb hr hlocks hW hS ⟨X_39, rfl, hw⟩ dX5_readAct_105
    · have hw := hw.2 c_21
      refine lv_iload_n hx hb dX5_readAct_17 rfl (lv_at hl 0 rfl) ?_
      refine lv_bipush (v := 100) hx hb dX5_readAct_18 (by decide) ?_
      refine lv_icmp_eq (tgt := 35) hx hb dX5_readAct_20 (by decide) (fun c_40 => ?_) (fun c_40 => ?_)
      · have hw := hw.1 c_40
        refine lv_aload_n hx hb dX5_readAct_35 rfl (lv_at hl 1 rfl) ?_
        refine lv_dup hx hb dX5_readAct_36 rfl ?_
        refine g_X5_186 hx hb hown hts hK hW HB.1 (putAt (k := 0) (by decide)) dX5_readAct_37 ?_
        refine lv_iconst (v := 1) hx hb dX5_readAct_40 (by decide) ?_
        refine lv_iadd hx hb dX5_readAct_41 ?_
        obtain ⟨X_41, eX_41⟩ : ∃ z : ES, z = va_up X 0 (upd (X 0) 6 (((X 0) 6) + 1)) := ⟨_, rfl⟩
        have hw := hw X_41 eX_41
        refine p_X5_186 (E1 := put 7 o X_41 E0) hx hb hown hts hK hA hW hS HB.1 (putAt (k := 0) (by decide)) dX5_readAct_42 (puE (k := 0) (by decide) eX_41) (fun H locs hW hS => ?_)
        refine lv_iconst (v := 4) hx hb dX5_readAct_45 (by decide) ?_
        refine lv_aload_n hx hb dX5_readAct_46 rfl (lv_at hl 1 rfl) ?_
        refine g_X5_200 hx hb hown hts hK hW HB.1 (putAt (k := 0) (by decide)) dX5_readAct_47 ?_
        refine lv_imul hx hb dX5_readAct_50 ?_
        refine lv_topi (fun v_42 ev_42 => ?_)
        have hw := hw v_42 ev_42
        refine lv_istore_n (lv' := [(2, .int v_42), (1, .int r_1), (0, .ref o)]) hx hb dX5_readAct_51 rfl hl (by decide) rfl (fun ls hl => ?_)
        refine lv_aload_n hx hb dX5_readAct_52 rfl (lv_at hl 2 rfl) ?_
        refine g_X5_26 hx hb hown hts hK hW HB.1 (putAt (k := 0) (by decide)) dX5_readAct_53 ?_
        refine lv_iload_n hx hb dX5_readAct_56 rfl (lv_at hl 0 rfl) ?_
        refine lv_iload_n hx hb dX5_readAct_57 rfl (lv_at hl 1 rfl) ?_
        obtain ⟨hin, hw⟩ := hw
        obtain ⟨X_43, eX_43⟩ : ∃ z : ES, z = va_up X_41 6 (upd (X_41 6) v_42.toNatClampNeg r_1) := ⟨_, rfl⟩
        have hw := hw X_43 eX_43
        refine w_iast (E1 := put 7 o X_43 E0) hx hb hK hA hW hS HB.2.2.2.2.2.2 (putAt (k := 6) (by decide)) hin dX5_readAct_58 (puE (k := 6) (by decide) eX_43) (fun H locs hW hS => ?_)
        refine lv_aload_n hx hb dX5_readAct_59 rfl (lv_at hl 2 rfl) ?_
        refine g_X5_26 hx hb hown hts hK hW HB.1 (putAt (k := 0) (by decide)) dX5_readAct_60 ?_
        refine lv_iload_n hx hb dX5_readAct_63 rfl (lv_at hl 0 rfl) ?_
        refine lv_iconst (v := 1) hx hb dX5_readAct_64 (by decide) ?_
        refine lv_iadd hx hb dX5_readAct_65 ?_
        refine lv_iload_n hx hb dX5_readAct_66 rfl (lv_at hl 1 rfl) ?_
        refine lv_bipush (v := 116) hx hb dX5_readAct_67 (by decide) ?_
        refine lv_icmp_ne (tgt := 79) hx hb dX5_readAct_69 (by decide) (fun c_44 => ?_) (fun c_44 => ?_)
        · have hw := hw.2 c_44
          refine lv_aload_n hx hb dX5_readAct_79 rfl (lv_at hl 2 rfl) ?_
          refine w_cvi (As := []) (rest := [.int (v_42 + 1), .ref (o + 6)]) hx hb hml hown hts hK hW hS hl.1 (c_X5_readLine hA HB (fun k hk => putAt hk)  hw) (k_X5_206 hts ⟨Nat.le_of_ble_eq_true rfl, Nat.le_of_ble_eq_true rfl⟩) (w_recv hK hW HB.1 (putAt (k := 0) (by decide)) rfl rfl) rfl rfl (Nat.le_of_ble_eq_true rfl) dX5_readAct_80 ⟨Nat.zero_le _, Nat.zero_le _⟩ (fun r_45 Ez H locs hw2 hW hS => ?_)
          obtain ⟨X_46, ez, hw⟩ := hw2
          rw [ez, putPut] at hW
          obtain ⟨hin, hw⟩ := hw
          obtain ⟨X_47, eX_47⟩ : ∃ z : ES, z = va_up X_46 6 (upd (X_46 6) (v_42 + 1).toNatClampNeg r_45) := ⟨_, rfl⟩
          have hw := hw X_47 eX_47
          refine w_iast (E1 := put 7 o X_47 E0) hx hb hK hA hW hS HB.2.2.2.2.2.2 (putAt (k := 6) (by decide)) hin dX5_readAct_83 (puE (k := 6) (by decide) eX_47) (fun H locs hW hS => ?_)
          refine lv_iload_n hx hb dX5_readAct_84 rfl (lv_at hl 1 rfl) ?_
          refine lv_bipush (v := 100) hx hb dX5_readAct_85 (by decide) ?_
          refine lv_icmp_ne (tgt := 95) hx hb dX5_readAct_87 (by decide) (fun c_48 => ?_) (fun c_48 => ?_)
          · have hw := hw.2 c_48
            refine lv_aload_n hx hb dX5_readAct_95 rfl (lv_at hl 2 rfl) ?_
            refine lv_dup hx hb dX5_readAct_96 rfl ?_
            refine g_X5_200 hx hb hown hts hK hW HB.1 (putAt (k := 0) (by decide)) dX5_readAct_97 ?_
            refine lv_iconst (v := 1) hx hb dX5_readAct_100 (by decide) ?_
            refine lv_iadd hx hb dX5_readAct_101 ?_
            obtain ⟨X_49, eX_49⟩ : ∃ z : ES, z = va_up X_47 0 (upd (X_47 0) 9 (((X_47 0) 9) + 1)) := ⟨_, rfl⟩
            have hw := hw X_49 eX_49
            refine p_X5_200 (E1 := put 7 o X_49 E0) hx hb hown hts hK hA hW hS HB.1 (putAt (k := 0) (by decide)) dX5_readAct_102 (puE (k := 0) (by decide) eX_49) (fun H locs hW hS => ?_)
            exact w_vret hx hb hr hlocks hW hS ⟨X_49, rfl, hw⟩ dX5_readAct_105
          · have hw := hw.1 c_48
            refine lv_aload_n hx hb dX5_readAct_90 rfl (lv_at hl 2 rfl) ?_
            refine lv_iload_n hx hb dX5_readAct_91 rfl (lv_at hl 0 rfl) ?_
            refine w_cvv (As := [.int v_42]) (rest := []) hx hb hml hown hts hK hW hS hl.1 (c_X5_readDigits hA HB (fun k hk => putAt hk)  hw) (k_X5_209 hts ⟨Nat.le_of_ble_eq_true rfl, Nat.le_of_ble_eq_true rfl⟩) (w_recv hK hW HB.1 (putAt (k := 0) (by decide)) rfl rfl) rfl rfl (Nat.le_of_ble_eq_true rfl) dX5_readAct_92 ⟨Nat.zero_le _, Nat.zero_le _⟩ (fun Ez H locs hw2 hW hS => ?_)
            obtain ⟨X_50, ez, hw⟩ := hw2
            rw [ez, putPut] at hW
            refine lv_aload_n hx hb dX5_readAct_95 rfl (lv_at hl 2 rfl) ?_
            refine lv_dup hx hb dX5_readAct_96 rfl ?_
            refine g_X5_200 hx hb hown hts hK hW HB.1 (putAt (k := 0) (by decide)) dX5_readAct_97 ?_
            refine lv_iconst (v := 1) hx hb dX5_readAct_100 (by decide) ?_
            refine lv_iadd hx hb dX5_readAct_101 ?_
            obtain ⟨X_51, eX_51⟩ : ∃ z : ES, z = va_up X_50 0 (upd (X_50 0) 9 (((X_50 0) 9) + 1)) := ⟨_, rfl⟩
            have hw := hw X_51 eX_51
            refine p_X5_200 (E1 := put 7 o X_51 E0) hx hb hown hts hK hA hW hS HB.1 (putAt (k := 0) (by decide)) dX5_readAct_102 (puE (k := 0) (by decide) eX_51) (fun H locs hW hS => ?_)
            exact w_vret hx hb hr hlocks hW hS ⟨X_51, rfl, hw⟩ dX5_readAct_105
        · have hw := hw.1 c_44
          refine lv_aload_n hx hb dX5_readAct_72 rfl (lv_at hl 2 rfl) ?_
          refine w_cvi (As := []) (rest := [.int (v_42 + 1), .ref (o + 6)]) hx hb hml hown hts hK hW hS hl.1 (c_X5_readNumber hA HB (fun k hk => putAt hk)  hw) (k_X5_203 hts ⟨Nat.le_of_ble_eq_true rfl, Nat.le_of_ble_eq_true rfl⟩) (w_recv hK hW HB.1 (putAt (k := 0) (by decide)) rfl rfl) rfl rfl (Nat.le_of_ble_eq_true rfl) dX5_readAct_73 ⟨Nat.zero_le _, Nat.zero_le _⟩ (fun r_52 Ez H locs hw2 hW hS => ?_)
          obtain ⟨X_53, ez, hw⟩ := hw2
          rw [ez, putPut] at hW
          refine lv_goto (tgt := 83) hx hb dX5_readAct_76 (by decide) ?_
          obtain ⟨hin, hw⟩ := hw
          obtain ⟨X_54, eX_54⟩ : ∃ z : ES, z = va_up X_53 6 (upd (X_53 6) (v_42 + 1).toNatClampNeg r_52) := ⟨_, rfl⟩
          have hw := hw X_54 eX_54
          refine w_iast (E1 := put 7 o X_54 E0) hx hb hK hA hW hS HB.2.2.2.2.2.2 (putAt (k := 6) (by decide)) hin dX5_readAct_83 (puE (k := 6) (by decide) eX_54) (fun H locs hW hS => ?_)
          refine lv_iload_n hx hb dX5_readAct_84 rfl (lv_at hl 1 rfl) ?_
          refine lv_bipush (v := 100) hx hb dX5_readAct_85 (by decide) ?_
          refine lv_icmp_ne (tgt := 95) hx hb dX5_readAct_87 (by decide) (fun c_55 => ?_) (fun c_55 => ?_)
          · have hw := hw.2 c_55
            refine lv_aload_n hx hb dX5_readAct_95 rfl (lv_at hl 2 rfl) ?_
            refine lv_dup hx hb dX5_readAct_96 rfl ?_
            refine g_X5_200 hx hb hown hts hK hW HB.1 (putAt (k := 0) (by decide)) dX5_readAct_97 ?_
            refine lv_iconst (v := 1) hx hb dX5_readAct_100 (by decide) ?_
            refine lv_iadd hx hb dX5_readAct_101 ?_
            obtain ⟨X_56, eX_56⟩ : ∃ z : ES, z = va_up X_54 0 (upd (X_54 0) 9 (((X_54 0) 9) + 1)) := ⟨_, rfl⟩
            have hw := hw X_56 eX_56
            refine p_X5_200 (E1 := put 7 o X_56 E0) hx hb hown hts hK hA hW hS HB.1 (putAt (k := 0) (by decide)) dX5_readAct_102 (puE (k := 0) (by decide) eX_56) (fun H locs hW hS => ?_)
            exact w_vret hx hb hr hlocks hW hS ⟨X_56, rfl, hw⟩ dX5_readAct_105
          · have hw := hw.1 c_55
            refine lv_aload_n hx hb dX5_readAct_90 rfl (lv_at hl 2 rfl) ?_
            refine lv_iload_n hx hb dX5_readAct_91 rfl (lv_at hl 0 rfl) ?_
            refine w_cvv (As := [.int v_42]) (rest := []) hx hb hml hown hts hK hW hS hl.1 (c_X5_readDigits hA HB (fun k hk => putAt hk)  hw) (k_X5_209 hts ⟨Nat.le_of_ble_eq_true rfl, Nat.le_of_ble_eq_true rfl⟩) (w_recv hK hW HB.1 (putAt (k := 0) (by decide)) rfl rfl) rfl rfl (Nat.le_of_ble_eq_true rfl) dX5_readAct_92 ⟨Nat.zero_le _, Nat.zero_le _⟩ (fun Ez H locs hw2 hW hS => ?_)
            obtain ⟨X_57, ez, hw⟩ := hw2
            rw [ez, putPut] at hW
            refine lv_aload_n hx hb dX5_readAct_95 rfl (lv_at hl 2 rfl) ?_
            refine lv_dup hx hb dX5_readAct_96 rfl ?_
            refine g_X5_200 hx hb hown hts hK hW HB.1 (putAt (k := 0) (by decide)) dX5_readAct_97 ?_
            refine lv_iconst (v := 1) hx hb dX5_readAct_100 (by decide) ?_
            refine lv_iadd hx hb dX5_readAct_101 ?_
            obtain ⟨X_58, eX_58⟩ : ∃ z : ES, z = va_up X_57 0 (upd (X_57 0) 9 (((X_57 0) 9) + 1)) := ⟨_, rfl⟩
            have hw := hw X_58 eX_58
            refine p_X5_200 (E1 := put 7 o X_58 E0) hx hb hown hts hK hA hW hS HB.1 (putAt (k := 0) (by decide)) dX5_readAct_102 (puE (k := 0) (by decide) eX_58) (fun H locs hW hS => ?_)
            exact w_vret hx hb hr hlocks hW hS ⟨X_58, rfl, hw⟩ dX5_readAct_105
      · have hw := hw.2 c_40
        refine lv_iload_n hx hb dX5_readAct_23 rfl (lv_at hl 0 rfl) ?_
        refine lv_bipush (v := 116) hx hb dX5_readAct_24 (by decide) ?_
        refine lv_icmp_eq (tgt := 35) hx hb dX5_readAct_26 (by decide) (fun c_59 => ?_) (fun c_59 => ?_)
        · have hw := hw.1 c_59
          refine lv_aload_n hx hb dX5_readAct_35 rfl (lv_at hl 1 rfl) ?_
          refine lv_dup hx hb dX5_readAct_36 rfl ?_
          refine g_X5_186 hx hb hown hts hK hW HB.1 (putAt (k := 0) (by decide)) dX5_readAct_37 ?_
          refine lv_iconst (v := 1) hx hb dX5_readAct_40 (by decide) ?_
          refine lv_iadd hx hb dX5_readAct_41 ?_
          obtain ⟨X_60, eX_60⟩ : ∃ z : ES, z = va_up X 0 (upd (X 0) 6 (((X 0) 6) + 1)) := ⟨_, rfl⟩
          have hw := hw X_60 eX_60
          refine p_X5_186 (E1 := put 7 o X_60 E0) hx hb hown hts hK hA hW hS HB.1 (putAt (k := 0) (by decide)) dX5_readAct_42 (puE (k := 0) (by decide) eX_60) (fun H locs hW hS => ?_)
          refine lv_iconst (v := 4) hx hb dX5_readAct_45 (by decide) ?_
          refine lv_aload_n hx hb dX5_readAct_46 rfl (lv_at hl 1 rfl) ?_
          refine g_X5_200 hx hb hown hts hK hW HB.1 (putAt (k := 0) (by decide)) dX5_readAct_47 ?_
          refine lv_imul hx hb dX5_readAct_50 ?_
          refine lv_topi (fun v_61 ev_61 => ?_)
          have hw := hw v_61 ev_61
          refine lv_istore_n (lv' := [(2, .int v_61), (1, .int r_1), (0, .ref o)]) hx hb dX5_readAct_51 rfl hl (by decide) rfl (fun ls hl => ?_)
          refine lv_aload_n hx hb dX5_readAct_52 rfl (lv_at hl 2 rfl) ?_
          refine g_X5_26 hx hb hown hts hK hW HB.1 (putAt (k := 0) (by decide)) dX5_readAct_53 ?_
          refine lv_iload_n hx hb dX5_readAct_56 rfl (lv_at hl 0 rfl) ?_
          refine lv_iload_n hx hb dX5_readAct_57 rfl (lv_at hl 1 rfl) ?_
          obtain ⟨hin, hw⟩ := hw
          obtain ⟨X_62, eX_62⟩ : ∃ z : ES, z = va_up X_60 6 (upd (X_60 6) v_61.toNatClampNeg r_1) := ⟨_, rfl⟩
          have hw := hw X_62 eX_62
          refine w_iast (E1 := put 7 o X_62 E0) hx hb hK hA hW hS HB.2.2.2.2.2.2 (putAt (k := 6) (by decide)) hin dX5_readAct_58 (puE (k := 6) (by decide) eX_62) (fun H locs hW hS => ?_)
          refine lv_aload_n hx hb dX5_readAct_59 rfl (lv_at hl 2 rfl) ?_
          refine g_X5_26 hx hb hown hts hK hW HB.1 (putAt (k := 0) (by decide)) dX5_readAct_60 ?_
          refine lv_iload_n hx hb dX5_readAct_63 rfl (lv_at hl 0 rfl) ?_
          refine lv_iconst (v := 1) hx hb dX5_readAct_64 (by decide) ?_
          refine lv_iadd hx hb dX5_readAct_65 ?_
          refine lv_iload_n hx hb dX5_readAct_66 rfl (lv_at hl 1 rfl) ?_
          refine lv_bipush (v := 116) hx hb dX5_readAct_67 (by decide) ?_
          refine lv_icmp_ne (tgt := 79) hx hb dX5_readAct_69 (by decide) (fun c_63 => ?_) (fun c_63 => ?_)
          · have hw := hw.2 c_63
            refine lv_aload_n hx hb dX5_readAct_79 rfl (lv_at hl 2 rfl) ?_
            refine w_cvi (As := []) (rest := [.int (v_61 + 1), .ref (o + 6)]) hx hb hml hown hts hK hW hS hl.1 (c_X5_readLine hA HB (fun k hk => putAt hk)  hw) (k_X5_206 hts ⟨Nat.le_of_ble_eq_true rfl, Nat.le_of_ble_eq_true rfl⟩) (w_recv hK hW HB.1 (putAt (k := 0) (by decide)) rfl rfl) rfl rfl (Nat.le_of_ble_eq_true rfl) dX5_readAct_80 ⟨Nat.zero_le _, Nat.zero_le _⟩ (fun r_64 Ez H locs hw2 hW hS => ?_)
            obtain ⟨X_65, ez, hw⟩ := hw2
            rw [ez, putPut] at hW
            obtain ⟨hin, hw⟩ := hw
            obtain ⟨X_66, eX_66⟩ : ∃ z : ES, z = va_up X_65 6 (upd (X_65 6) (v_61 + 1).toNatClampNeg r_64) := ⟨_, rfl⟩
            have hw := hw X_66 eX_66
            refine w_iast (E1 := put 7 o X_66 E0) hx hb hK hA hW hS HB.2.2.2.2.2.2 (putAt (k := 6) (by decide)) hin dX5_readAct_83 (puE (k := 6) (by decide) eX_66) (fun H locs hW hS => ?_)
            refine lv_iload_n hx hb dX5_readAct_84 rfl (lv_at hl 1 rfl) ?_
            refine lv_bipush (v := 100) hx hb dX5_readAct_85 (by decide) ?_
            refine lv_icmp_ne (tgt := 95) hx hb dX5_readAct_87 (by decide) (fun c_67 => ?_) (fun c_67 => ?_)
            · have hw := hw.2 c_67
              refine lv_aload_n hx hb dX5_readAct_95 rfl (lv_at hl 2 rfl) ?_
              refine lv_dup hx hb dX5_readAct_96 rfl ?_
              refine g_X5_200 hx hb hown hts hK hW HB.1 (putAt (k := 0) (by decide)) dX5_readAct_97 ?_
              refine lv_iconst (v := 1) hx hb dX5_readAct_100 (by decide) ?_
              refine lv_iadd hx hb dX5_readAct_101 ?_
              obtain ⟨X_68, eX_68⟩ : ∃ z : ES, z = va_up X_66 0 (upd (X_66 0) 9 (((X_66 0) 9) + 1)) := ⟨_, rfl⟩
              have hw := hw X_68 eX_68
              refine p_X5_200 (E1 := put 7 o X_68 E0) hx hb hown hts hK hA hW hS HB.1 (putAt (k := 0) (by decide)) dX5_readAct_102 (puE (k := 0) (by decide) eX_68) (fun H locs hW hS => ?_)
              exact w_vret hx hb hr hlocks hW hS ⟨X_68, rfl, hw⟩ dX5_readAct_105
            · have hw := hw.1 c_67
              refine lv_aload_n hx hb dX5_readAct_90 rfl (lv_at hl 2 rfl) ?_
              refine lv_iload_n hx hb dX5_readAct_91 rfl (lv_at hl 0 rfl) ?_
              refine w_cvv (As := [.int v_61]) (rest := []) hx hb hml hown hts hK hW hS hl.1 (c_X5_readDigits hA HB (fun k hk => putAt hk)  hw) (k_X5_209 hts ⟨Nat.le_of_ble_eq_true rfl, Nat.le_of_ble_eq_true rfl⟩) (w_recv hK hW HB.1 (putAt (k := 0) (by decide)) rfl rfl) rfl rfl (Nat.le_of_ble_eq_true rfl) dX5_readAct_92 ⟨Nat.zero_le _, Nat.zero_le _⟩ (fun Ez H locs hw2 hW hS => ?_)
              obtain ⟨X_69, ez, hw⟩ := hw2
              rw [ez, putPut] at hW
              refine lv_aload_n hx hb dX5_readAct_95 rfl (lv_at hl 2 rfl) ?_
              refine lv_dup hx hb dX5_readAct_96 rfl ?_
              refine g_X5_200 hx hb hown hts hK hW HB.1 (putAt (k := 0) (by decide)) dX5_readAct_97 ?_
              refine lv_iconst (v := 1) hx hb dX5_readAct_100 (by decide) ?_
              refine lv_iadd hx hb dX5_readAct_101 ?_
              obtain ⟨X_70, eX_70⟩ : ∃ z : ES, z = va_up X_69 0 (upd (X_69 0) 9 (((X_69 0) 9) + 1)) := ⟨_, rfl⟩
              have hw := hw X_70 eX_70
              refine p_X5_200 (E1 := put 7 o X_70 E0) hx hb hown hts hK hA hW hS HB.1 (putAt (k := 0) (by decide)) dX5_readAct_102 (puE (k := 0) (by decide) eX_70) (fun H locs hW hS => ?_)
              exact w_vret hx hb hr hlocks hW hS ⟨X_70, rfl, hw⟩ dX5_readAct_105
          · have hw := hw.1 c_63
            refine lv_aload_n hx hb dX5_readAct_72 rfl (lv_at hl 2 rfl) ?_
            refine w_cvi (As := []) (rest := [.int (v_61 + 1), .ref (o + 6)]) hx hb hml hown hts hK hW hS hl.1 (c_X5_readNumber hA HB (fun k hk => putAt hk)  hw) (k_X5_203 hts ⟨Nat.le_of_ble_eq_true rfl, Nat.le_of_ble_eq_true rfl⟩) (w_recv hK hW HB.1 (putAt (k := 0) (by decide)) rfl rfl) rfl rfl (Nat.le_of_ble_eq_true rfl) dX5_readAct_73 ⟨Nat.zero_le _, Nat.zero_le _⟩ (fun r_71 Ez H locs hw2 hW hS => ?_)
            obtain ⟨X_72, ez, hw⟩ := hw2
            rw [ez, putPut] at hW
            refine lv_goto (tgt := 83) hx hb dX5_readAct_76 (by decide) ?_
            obtain ⟨hin, hw⟩ := hw
            obtain ⟨X_73, eX_73⟩ : ∃ z : ES, z = va_up X_72 6 (upd (X_72 6) (v_61 + 1).toNatClampNeg r_71) := ⟨_, rfl⟩
            have hw := hw X_73 eX_73
            refine w_iast (E1 := put 7 o X_73 E0) hx hb hK hA hW hS HB.2.2.2.2.2.2 (putAt (k := 6) (by decide)) hin dX5_readAct_83 (puE (k := 6) (by decide) eX_73) (fun H locs hW hS => ?_)
            refine lv_iload_n hx hb dX5_readAct_84 rfl (lv_at hl 1 rfl) ?_
            refine lv_bipush (v := 100) hx hb dX5_readAct_85 (by decide) ?_
            refine lv_icmp_ne (tgt := 95) hx hb dX5_readAct_87 (by decide) (fun c_74 => ?_) (fun c_74 => ?_)
            · have hw := hw.2 c_74
              refine lv_aload_n hx hb dX5_readAct_95 rfl (lv_at hl 2 rfl) ?_
              refine lv_dup hx hb dX5_readAct_96 rfl ?_
              refine g_X5_200 hx hb hown hts hK hW HB.1 (putAt (k := 0) (by decide)) dX5_readAct_97 ?_
              refine lv_iconst (v := 1) hx hb dX5_readAct_100 (by decide) ?_
              refine lv_iadd hx hb dX5_readAct_101 ?_
              obtain ⟨X_75, eX_75⟩ : ∃ z : ES, z = va_up X_73 0 (upd (X_73 0) 9 (((X_73 0) 9) + 1)) := ⟨_, rfl⟩
              have hw := hw X_75 eX_75
              refine p_X5_200 (E1 := put 7 o X_75 E0) hx hb hown hts hK hA hW hS HB.1 (putAt (k := 0) (by decide)) dX5_readAct_102 (puE (k := 0) (by decide) eX_75) (fun H locs hW hS => ?_)
              exact w_vret hx hb hr hlocks hW hS ⟨X_75, rfl, hw⟩ dX5_readAct_105
            · have hw := hw.1 c_74
              refine lv_aload_n hx hb dX5_readAct_90 rfl (lv_at hl 2 rfl) ?_
              refine lv_iload_n hx hb dX5_readAct_91 rfl (lv_at hl 0 rfl) ?_
              refine w_cvv (As := [.int v_61]) (rest := []) hx hb hml hown hts hK hW hS hl.1 (c_X5_readDigits hA HB (fun k hk => putAt hk)  hw) (k_X5_209 hts ⟨Nat.le_of_ble_eq_true rfl, Nat.le_of_ble_eq_true rfl⟩) (w_recv hK hW HB.1 (putAt (k := 0) (by decide)) rfl rfl) rfl rfl (Nat.le_of_ble_eq_true rfl) dX5_readAct_92 ⟨Nat.zero_le _, Nat.zero_le _⟩ (fun Ez H locs hw2 hW hS => ?_)
              obtain ⟨X_76, ez, hw⟩ := hw2
              rw [ez, putPut] at hW
              refine lv_aload_n hx hb dX5_readAct_95 rfl (lv_at hl 2 rfl) ?_
              refine lv_dup hx hb dX5_readAct_96 rfl ?_
              refine g_X5_200 hx hb hown hts hK hW HB.1 (putAt (k := 0) (by decide)) dX5_readAct_97 ?_
              refine lv_iconst (v := 1) hx hb dX5_readAct_100 (by decide) ?_
              refine lv_iadd hx hb dX5_readAct_101 ?_
              obtain ⟨X_77, eX_77⟩ : ∃ z : ES, z = va_up X_76 0 (upd (X_76 0) 9 (((X_76 0) 9) + 1)) := ⟨_, rfl⟩
              have hw := hw X_77 eX_77
              refine p_X5_200 (E1 := put 7 o X_77 E0) hx hb hown hts hK hA hW hS HB.1 (putAt (k := 0) (by decide)) dX5_readAct_102 (puE (k := 0) (by decide) eX_77) (fun H locs hW hS => ?_)
              exact w_vret hx hb hr hlocks hW hS ⟨X_77, rfl, hw⟩ dX5_readAct_105
        · have hw := hw.2 c_59
          refine lv_aload_n hx hb dX5_readAct_29 rfl (lv_at hl 1 rfl) ?_
          refine lv_iconst (v := 1) hx hb dX5_readAct_30 (by decide) ?_
          obtain ⟨X_78, eX_78⟩ : ∃ z : ES, z = va_up X 0 (upd (X 0) 7 1) := ⟨_, rfl⟩
          have hw := hw X_78 eX_78
          refine p_X5_196 (E1 := put 7 o X_78 E0) hx hb hown hts hK hA hW hS HB.1 (putAt (k := 0) (by decide)) (Or.inr rfl) dX5_readAct_31 (puE (k := 0) (by decide) eX_78) (fun H locs hW hS => ?_)
          exact w_vret hx hb hr hlocks hW hS ⟨X_78, rfl, hw⟩ dX5_readAct_34
set_option maxHeartbeats 4000000 in
set_option maxRecDepth 100000 in
theorem c_X5_fault {l : Launch} {g : GG} {lay : LY} {E0 : ES} {o : Nat} {X : ES} {K : Int32 → ES → Prop} (hA : okL g lay) (HB : ML g lay o) (hX : ∀ k, k < 7 → E0 (o + k) = X k) (hw : wp_X5_fault X K) : JMi l g lay yX5_fault wsX5_fault rmX5_fault [.ref o] E0 (fun r E1 => ∃ X1 : ES, E1 = put 7 o X1 E0 ∧ K r X1) := by
  refine Met.ofW (cc := cX5_fault) (maxL := 1) (ret := (some .int)) (by decide) rfl ?_
  intro p e s m args below meth c s₁ B hml hv
  obtain ⟨rfl, hK, hW⟩ := hv
  have hx := B.exec
  have hb := B.bytes
  have hr := B.returns
  have hts := gd_of (atoms_spec (ws := wsX5_fault) B.pre)
  have hown : s.vm.findClass RX5 = some m.cls := findClass_of_methodNamed B.named
  have hlocks := B.notSynchronized
  have hS : va_S (Ab g) s.heap s.heap [] := va_S.rf
  have hW : Wd g lay (put 7 o X E0) s.heap := by rw [putSelf hX]; exact hW
  have hl := lv_entry [.ref o] (n := 1) (Nat.le_of_ble_eq_true rfl)
  rw [lg_entry_eq]
  generalize (lg_sl [.ref o] ++ List.replicate (1 - (lg_sl [.ref o]).length) Slot.unset).toArray = ls at hl ⊢
  have hl : lv_has ls 1 [(0, .ref o)] := hl
  unfold wp_X5_fault at hw
  refine lv_aload_n hx hb dX5_fault_0 rfl (lv_at hl 0 rfl) ?_
  refine lv_iconst (v := 0) hx hb dX5_fault_1 (by decide) ?_
  obtain ⟨X_1, eX_1⟩ : ∃ z : ES, z = va_up X 0 (upd (X 0) 6 0) := ⟨_, rfl⟩
  have hw := hw X_1 eX_1
  refine p_X5_186 (E1 := put 7 o X_1 E0) hx hb hown hts hK hA hW hS HB.1 (putAt (k := 0) (by decide)) dX5_fault_2 (puE (k := 0) (by decide) eX_1) (fun H locs hW hS => ?_)
  refine lv_aload_n hx hb dX5_fault_5 rfl (lv_at hl 0 rfl) ?_
  refine lv_iconst (v := 0) hx hb dX5_fault_6 (by decide) ?_
  obtain ⟨X_2, eX_2⟩ : ∃ z : ES, z = va_up X_1 0 (upd (X_1 0) 7 0) := ⟨_, rfl⟩
  have hw := hw X_2 eX_2
  refine p_X5_196 (E1 := put 7 o X_2 E0) hx hb hown hts hK hA hW hS HB.1 (putAt (k := 0) (by decide)) (Or.inl rfl) dX5_fault_7 (puE (k := 0) (by decide) eX_2) (fun H locs hW hS => ?_)
  refine lv_aload_n hx hb dX5_fault_10 rfl (lv_at hl 0 rfl) ?_
  refine lv_iconst (v := 0) hx hb dX5_fault_11 (by decide) ?_
  obtain ⟨X_3, eX_3⟩ : ∃ z : ES, z = va_up X_2 0 (upd (X_2 0) 9 0) := ⟨_, rfl⟩
  have hw := hw X_3 eX_3
  refine p_X5_200 (E1 := put 7 o X_3 E0) hx hb hown hts hK hA hW hS HB.1 (putAt (k := 0) (by decide)) dX5_fault_12 (puE (k := 0) (by decide) eX_3) (fun H locs hW hS => ?_)
  refine lv_aload_n hx hb dX5_fault_15 rfl (lv_at hl 0 rfl) ?_
  refine w_cvv (As := []) (rest := []) hx hb hml hown hts hK hW hS hl.1 (c_X5_readAct hA HB (fun k hk => putAt hk)  hw) (k_X5_212 hts ⟨Nat.le_of_ble_eq_true rfl, Nat.le_of_ble_eq_true rfl⟩) (w_recv hK hW HB.1 (putAt (k := 0) (by decide)) rfl rfl) rfl rfl (Nat.le_of_ble_eq_true rfl) dX5_fault_16 ⟨Nat.zero_le _, Nat.zero_le _⟩ (fun Ez H locs hw2 hW hS => ?_)
  obtain ⟨X_4, ez, hw⟩ := hw2
  rw [ez, putPut] at hW
  obtain ⟨n_27, hw⟩ := hw
  refine w_loop (KT := ES → Prop) (σ := ES) (Wl := fun Kx_19 n_19 q => wpl_X5_fault_19 K Kx_19 n_19 q) (Pw := fun q => Wd g lay (put 7 o q E0)) (lvf := fun q => [(0, .ref o)]) (nL := 1) n_27 (X_4) hw hW hS (lv_sub hl [0] rfl) (fun _ h => h) (fun Kx_19 eK_19 n_19 q H locs ls hw hW hS hl ih_19 => ?_)
  obtain ⟨X_5, rfl⟩ : ∃ z, z = q := ⟨_, rfl⟩
  try dsimp only at hw
  rw [wpl_X5_fault_19] at hw
  have hl : lv_has ls 1 [(0, .ref o)] := hl
  have hW : Wd g lay (put 7 o X_5 E0) H := hW
  refine lv_aload_n hx hb dX5_fault_19 rfl (lv_at hl 0 rfl) ?_
  refine g_X5_196 hx hb hown hts hK hW HB.1 (putAt (k := 0) (by decide)) dX5_fault_20 ?_
  refine lv_if_ne (tgt := 52) hx hb dX5_fault_23 (by decide) (fun c_18 => ?_) (fun c_18 => ?_)
  · have hw := hw.2 c_18
    rw [eK_19] at hw
    refine lv_aload_n hx hb dX5_fault_52 rfl (lv_at hl 0 rfl) ?_
    refine g_X5_196 hx hb hown hts hK hW HB.1 (putAt (k := 0) (by decide)) dX5_fault_53 ?_
    refine lv_if_ne (tgt := 70) hx hb dX5_fault_56 (by decide) (fun c_19 => ?_) (fun c_19 => ?_)
    · have hw := hw.2 c_19
      refine lv_aload_n hx hb dX5_fault_70 rfl (lv_at hl 0 rfl) ?_
      refine g_X5_186 hx hb hown hts hK hW HB.1 (putAt (k := 0) (by decide)) dX5_fault_71 ?_
      refine lv_goto (tgt := 79) hx hb dX5_fault_74 (by decide) ?_
      exact w_iret hx hb hr hlocks hW hS ⟨X_5, rfl, hw⟩ dX5_fault_79
    · have hw := hw.1 c_19
      refine lv_aload_n hx hb dX5_fault_59 rfl (lv_at hl 0 rfl) ?_
      refine g_X5_186 hx hb hown hts hK hW HB.1 (putAt (k := 0) (by decide)) dX5_fault_60 ?_
      refine lv_aload_n hx hb dX5_fault_63 rfl (lv_at hl 0 rfl) ?_
      refine g_X5_165 hx hb hown hts hK hW HB.1 (putAt (k := 0) (by decide)) dX5_fault_64 ?_
      refine lv_icmp_ge (tgt := 77) hx hb dX5_fault_67 (by decide) (fun c_20 => ?_) (fun c_20 => ?_)
      · have hw := hw.1 c_20
        refine lv_bipush (v := (-6)) hx hb dX5_fault_77 (by decide) ?_
        exact w_iret hx hb hr hlocks hW hS ⟨X_5, rfl, hw⟩ dX5_fault_79
      · have hw := hw.2 c_20
        refine lv_aload_n hx hb dX5_fault_70 rfl (lv_at hl 0 rfl) ?_
        refine g_X5_186 hx hb hown hts hK hW HB.1 (putAt (k := 0) (by decide)) dX5_fault_71 ?_
        refine lv_goto (tgt := 79) hx hb dX5_fault_74 (by decide) ?_
        exact w_iret hx hb hr hlocks hW hS ⟨X_5, rfl, hw⟩ dX5_fault_79
  · have hw := hw.1 c_18
    refine lv_aload_n hx hb dX5_fault_26 rfl (lv_at hl 0 rfl) ?_
    refine w_cvi (As := []) (rest := []) hx hb hml hown hts hK hW hS hl.1 (c_X5_next hA HB (fun k hk => putAt hk)  hw) (k_X5_189 hts ⟨Nat.le_of_ble_eq_true rfl, Nat.le_of_ble_eq_true rfl⟩) (w_recv hK hW HB.1 (putAt (k := 0) (by decide)) rfl rfl) rfl rfl (Nat.le_of_ble_eq_true rfl) dX5_fault_27 ⟨Nat.zero_le _, Nat.zero_le _⟩ (fun r_21 Ez H locs hw2 hW hS => ?_)
    obtain ⟨ez, hw⟩ := hw2
    rw [ez] at hW
    refine lv_bipush (v := 44) hx hb dX5_fault_30 (by decide) ?_
    refine lv_icmp_ne (tgt := 52) hx hb dX5_fault_32 (by decide) (fun c_22 => ?_) (fun c_22 => ?_)
    · have hw := hw.2 c_22
      rw [eK_19] at hw
      refine lv_aload_n hx hb dX5_fault_52 rfl (lv_at hl 0 rfl) ?_
      refine g_X5_196 hx hb hown hts hK hW HB.1 (putAt (k := 0) (by decide)) dX5_fault_53 ?_
      refine lv_if_ne (tgt := 70) hx hb dX5_fault_56 (by decide) (fun c_23 => ?_) (fun c_23 => ?_)
      · have hw := hw.2 c_23
        refine lv_aload_n hx hb dX5_fault_70 rfl (lv_at hl 0 rfl) ?_
        refine g_X5_186 hx hb hown hts hK hW HB.1 (putAt (k := 0) (by decide)) dX5_fault_71 ?_
        refine lv_goto (tgt := 79) hx hb dX5_fault_74 (by decide) ?_
        exact w_iret hx hb hr hlocks hW hS ⟨X_5, rfl, hw⟩ dX5_fault_79
      · have hw := hw.1 c_23
        refine lv_aload_n hx hb dX5_fault_59 rfl (lv_at hl 0 rfl) ?_
        refine g_X5_186 hx hb hown hts hK hW HB.1 (putAt (k := 0) (by decide)) dX5_fault_60 ?_
        refine lv_aload_n hx hb dX5_fault_63 rfl (lv_at hl 0 rfl) ?_
        refine g_X5_165 hx hb hown hts hK hW HB.1 (putAt (k := 0) (by decide)) dX5_fault_64 ?_
        refine lv_icmp_ge (tgt := 77) hx hb dX5_fault_67 (by decide) (fun c_24 => ?_) (fun c_24 => ?_)
        · have hw := hw.1 c_24
          refine lv_bipush (v := (-6)) hx hb dX5_fault_77 (by decide) ?_
          exact w_iret hx hb hr hlocks hW hS ⟨X_5, rfl, hw⟩ dX5_fault_79
        · have hw := hw.2 c_24
          refine lv_aload_n hx hb dX5_fault_70 rfl (lv_at hl 0 rfl) ?_
          refine g_X5_186 hx hb hown hts hK hW HB.1 (putAt (k := 0) (by decide)) dX5_fault_71 ?_
          refine lv_goto (tgt := 79) hx hb dX5_fault_74 (by decide) ?_
          exact w_iret hx hb hr hlocks hW hS ⟨X_5, rfl, hw⟩ dX5_fault_79
    · have hw := hw.1 c_22
      refine lv_aload_n hx hb dX5_fault_35 rfl (lv_at hl 0 rfl) ?_
      refine lv_dup hx hb dX5_fault_36 rfl ?_
      refine g_X5_186 hx hb hown hts hK hW HB.1 (putAt (k := 0) (by decide)) dX5_fault_37 ?_
      refine lv_iconst (v := 1) hx hb dX5_fault_40 (by decide) ?_
      refine lv_iadd hx hb dX5_fault_41 ?_
      obtain ⟨X_25, eX_25⟩ : ∃ z : ES, z = va_up X_5 0 (upd (X_5 0) 6 (((X_5 0) 6) + 1)) := ⟨_, rfl⟩
      have hw := hw X_25 eX_25
      refine p_X5_186 (E1 := put 7 o X_25 E0) hx hb hown hts hK hA hW hS HB.1 (putAt (k := 0) (by decide)) dX5_fault_42 (puE (k := 0) (by decide) eX_25) (fun H locs hW hS => ?_)
      refine lv_aload_n hx hb dX5_fault_45 rfl (lv_at hl 0 rfl) ?_
      refine w_cvv (As := []) (rest := []) hx hb hml hown hts hK hW hS hl.1 (c_X5_readAct hA HB (fun k hk => putAt hk)  hw) (k_X5_212 hts ⟨Nat.le_of_ble_eq_true rfl, Nat.le_of_ble_eq_true rfl⟩) (w_recv hK hW HB.1 (putAt (k := 0) (by decide)) rfl rfl) rfl rfl (Nat.le_of_ble_eq_true rfl) dX5_fault_46 ⟨Nat.zero_le _, Nat.zero_le _⟩ (fun Ez H locs hw2 hW hS => ?_)
      obtain ⟨X_26, ez, hw⟩ := hw2
      rw [ez, putPut] at hW
      refine lv_goto (tgt := 19) hx hb dX5_fault_49 (by decide) ?_
      exact ih_19 (X_26) _ _ _ hw hW hS (lv_sub hl [0] rfl)
set_option maxHeartbeats 4000000 in
set_option maxRecDepth 100000 in
theorem c_X5_dials {l : Launch} {g : GG} {lay : LY} {E0 : ES} {o : Nat} {X : ES} {p1 : Int32} {K : Int32 → ES → Prop} (hA : okL g lay) (HB : ML g lay o) (hX : ∀ k, k < 7 → E0 (o + k) = X k) (hw : wp_X5_dials X p1 K) : JMi l g lay yX5_dials wsX5_dials rmX5_dials [.ref o, .int p1] E0 (fun r E1 => ∃ X1 : ES, E1 = put 7 o X1 E0 ∧ (r = 0 ∨ r = 1) ∧ K r X1) := by
  refine Met.ofW (cc := cX5_dials) (maxL := 4) (ret := (some .boolean)) (by decide) rfl ?_
  intro p e s m args below meth c s₁ B hml hv
  obtain ⟨rfl, hK, hW⟩ := hv
  have hx := B.exec
  have hb := B.bytes
  have hr := B.returns
  have hts := gd_of (atoms_spec (ws := wsX5_dials) B.pre)
  have hown : s.vm.findClass RX5 = some m.cls := findClass_of_methodNamed B.named
  have hlocks := B.notSynchronized
  have hS : va_S (Ab g) s.heap s.heap [] := va_S.rf
  have hW : Wd g lay (put 7 o X E0) s.heap := by rw [putSelf hX]; exact hW
  have hl := lv_entry [.ref o, .int p1] (n := 4) (Nat.le_of_ble_eq_true rfl)
  rw [lg_entry_eq]
  generalize (lg_sl [.ref o, .int p1] ++ List.replicate (4 - (lg_sl [.ref o, .int p1]).length) Slot.unset).toArray = ls at hl ⊢
  have hl : lv_has ls 4 [(0, .ref o), (1, .int p1)] := hl
  unfold wp_X5_dials at hw
  refine lv_iconst (v := 1) hx hb dX5_dials_0 (by decide) ?_
  refine lv_istore_n (lv' := [(2, .int 1), (0, .ref o), (1, .int p1)]) hx hb dX5_dials_1 rfl hl (by decide) rfl (fun ls hl => ?_)
  refine lv_iconst (v := 0) hx hb dX5_dials_2 (by decide) ?_
  refine lv_istore_n (lv' := [(3, .int 0), (2, .int 1), (0, .ref o), (1, .int p1)]) hx hb dX5_dials_3 rfl hl (by decide) rfl (fun ls hl => ?_)
  obtain ⟨n_22, hw⟩ := hw
  refine w_loop (KT := Int32 → Int32 → ES → Prop) (σ := Int32 × Int32 × ES) (Wl := fun Kx_4 n_4 q => wpl_X5_dials_4 p1 K Kx_4 n_4 q.1 q.2.1 q.2.2) (Pw := fun q => Wd g lay (put 7 o q.2.2 E0)) (lvf := fun q => [(0, .ref o), (1, .int p1), (2, .int q.1), (3, .int q.2.1)]) (nL := 4) n_22 (1, 0, X) hw hW hS (lv_sub hl [2, 3, 1, 0] rfl) (fun _ h => h) (fun Kx_4 eK_4 n_4 q H locs ls hw hW hS hl ih_4 => ?_)
  obtain ⟨i_1, i_2, X_3⟩ := q
  try dsimp only at hw
  rw [wpl_X5_dials_4] at hw
  have hl : lv_has ls 4 [(0, .ref o), (1, .int p1), (2, .int i_1), (3, .int i_2)] := hl
  have hW : Wd g lay (put 7 o X_3 E0) H := hW
  refine lv_iload_n hx hb dX5_dials_4 rfl (lv_at hl 3 rfl) ?_
  refine lv_aload_n hx hb dX5_dials_5 rfl (lv_at hl 0 rfl) ?_
  refine g_X5_26 hx hb hown hts hK hW HB.1 (putAt (k := 0) (by decide)) dX5_dials_6 ?_
  refine lv_iload_n hx hb dX5_dials_9 rfl (lv_at hl 1 rfl) ?_
  refine lv_iconst (v := 3) hx hb dX5_dials_10 (by decide) ?_
  refine lv_iadd hx hb dX5_dials_11 ?_
  obtain ⟨hin, hw⟩ := hw
  refine w_iald hx hb hK hW HB.2.2.2.2.2.2 (putAt (k := 6) (by decide)) hin dX5_dials_12 ?_
  refine lv_icmp_ge (tgt := 65) hx hb dX5_dials_13 (by decide) (fun c_15 => ?_) (fun c_15 => ?_)
  · have hw := hw.1 c_15
    rw [eK_4] at hw
    refine lv_iload_n hx hb dX5_dials_65 rfl (lv_at hl 2 rfl) ?_
    obtain ⟨hz, hw⟩ := hw
    exact w_zret hx hb hr hlocks hW hS hz ⟨X_3, rfl, hz, hw⟩ dX5_dials_66
  · have hw := hw.2 c_15
    refine lv_iload_n hx hb dX5_dials_16 rfl (lv_at hl 2 rfl) ?_
    refine lv_if_eq (tgt := 65) hx hb dX5_dials_17 (by decide) (fun c_16 => ?_) (fun c_16 => ?_)
    · have hw := hw.1 c_16
      rw [eK_4] at hw
      refine lv_iload_n hx hb dX5_dials_65 rfl (lv_at hl 2 rfl) ?_
      obtain ⟨hz, hw⟩ := hw
      exact w_zret hx hb hr hlocks hW hS hz ⟨X_3, rfl, hz, hw⟩ dX5_dials_66
    · have hw := hw.2 c_16
      refine lv_aload_n hx hb dX5_dials_20 rfl (lv_at hl 0 rfl) ?_
      refine lv_aload_n hx hb dX5_dials_21 rfl (lv_at hl 0 rfl) ?_
      refine g_X5_26 hx hb hown hts hK hW HB.1 (putAt (k := 0) (by decide)) dX5_dials_22 ?_
      refine lv_iload_n hx hb dX5_dials_25 rfl (lv_at hl 1 rfl) ?_
      refine lv_iconst (v := 1) hx hb dX5_dials_26 (by decide) ?_
      refine lv_iadd hx hb dX5_dials_27 ?_
      obtain ⟨hin, hw⟩ := hw
      refine w_iald hx hb hK hW HB.2.2.2.2.2.2 (putAt (k := 6) (by decide)) hin dX5_dials_28 ?_
      refine lv_aload_n hx hb dX5_dials_29 rfl (lv_at hl 0 rfl) ?_
      refine g_X5_23 hx hb hown hts hK hW HB.1 (putAt (k := 0) (by decide)) dX5_dials_30 ?_
      refine lv_aload_n hx hb dX5_dials_33 rfl (lv_at hl 0 rfl) ?_
      refine g_X5_26 hx hb hown hts hK hW HB.1 (putAt (k := 0) (by decide)) dX5_dials_34 ?_
      refine lv_iload_n hx hb dX5_dials_37 rfl (lv_at hl 1 rfl) ?_
      refine lv_iconst (v := 2) hx hb dX5_dials_38 (by decide) ?_
      refine lv_iadd hx hb dX5_dials_39 ?_
      obtain ⟨hin, hw⟩ := hw
      refine w_iald hx hb hK hW HB.2.2.2.2.2.2 (putAt (k := 6) (by decide)) hin dX5_dials_40 ?_
      refine lv_iload_n hx hb dX5_dials_41 rfl (lv_at hl 3 rfl) ?_
      refine lv_iadd hx hb dX5_dials_42 ?_
      obtain ⟨hin, hw⟩ := hw
      refine w_iald hx hb hK hW HB.2.2.2.2.2.1 (putAt (k := 5) (by decide)) hin dX5_dials_43 ?_
      refine lv_bipush (v := 48) hx hb dX5_dials_44 (by decide) ?_
      refine lv_isub hx hb dX5_dials_46 ?_
      refine w_cvi (As := [.int ((X_3 6) (p1 + 1).toNatClampNeg), .int (((X_3 5) (((X_3 6) (p1 + 2).toNatClampNeg) + i_2).toNatClampNeg) - 48)]) (rest := []) hx hb hml hown hts hK hW hS hl.1 (c_X5_dial hA HB (fun k hk => putAt hk)  hw) (k_X5_181 hts ⟨Nat.le_of_ble_eq_true rfl, Nat.le_of_ble_eq_true rfl⟩) (w_recv hK hW HB.1 (putAt (k := 0) (by decide)) rfl rfl) rfl rfl (Nat.le_of_ble_eq_true rfl) dX5_dials_47 ⟨Nat.zero_le _, Nat.zero_le _⟩ (fun r_17 Ez H locs hw2 hW hS => ?_)
      obtain ⟨X_18, ez, hw⟩ := hw2
      rw [ez, putPut] at hW
      refine lv_if_lt (tgt := 57) hx hb dX5_dials_50 (by decide) (fun c_19 => ?_) (fun c_19 => ?_)
      · have hw := hw.1 c_19
        refine lv_iconst (v := 0) hx hb dX5_dials_57 (by decide) ?_
        refine lv_istore_n (lv' := [(2, .int 0), (0, .ref o), (1, .int p1), (3, .int i_2)]) hx hb dX5_dials_58 rfl hl (by decide) rfl (fun ls hl => ?_)
        obtain ⟨v_20, ev_20⟩ : ∃ z : Int32, z = i_2 + 1 := ⟨_, rfl⟩
        have hw := hw v_20 ev_20
        refine lv_iinc (v := v_20) (lv' := [(3, .int v_20), (2, .int 0), (0, .ref o), (1, .int p1)]) hx hb dX5_dials_59 hl (k := 3) rfl (by rw [ev_20]; rfl) (by decide) rfl (fun ls hl => ?_)
        refine lv_goto (tgt := 4) hx hb dX5_dials_62 (by decide) ?_
        exact ih_4 (0, v_20, X_18) _ _ _ hw hW hS (lv_sub hl [2, 3, 1, 0] rfl)
      · have hw := hw.2 c_19
        refine lv_iconst (v := 1) hx hb dX5_dials_53 (by decide) ?_
        refine lv_goto (tgt := 58) hx hb dX5_dials_54 (by decide) ?_
        refine lv_istore_n (lv' := [(2, .int 1), (0, .ref o), (1, .int p1), (3, .int i_2)]) hx hb dX5_dials_58 rfl hl (by decide) rfl (fun ls hl => ?_)
        obtain ⟨v_21, ev_21⟩ : ∃ z : Int32, z = i_2 + 1 := ⟨_, rfl⟩
        have hw := hw v_21 ev_21
        refine lv_iinc (v := v_21) (lv' := [(3, .int v_21), (2, .int 1), (0, .ref o), (1, .int p1)]) hx hb dX5_dials_59 hl (k := 3) rfl (by rw [ev_21]; rfl) (by decide) rfl (fun ls hl => ?_)
        refine lv_goto (tgt := 4) hx hb dX5_dials_62 (by decide) ?_
        exact ih_4 (1, v_21, X_18) _ _ _ hw hW hS (lv_sub hl [2, 3, 1, 0] rfl)
set_option maxHeartbeats 4000000 in
set_option maxRecDepth 100000 in
theorem c_X5_does {l : Launch} {g : GG} {lay : LY} {E0 : ES} {o : Nat} {X : ES} {p1 : Int32} {K : Int32 → ES → Prop} (hA : okL g lay) (HB : ML g lay o) (hX : ∀ k, k < 7 → E0 (o + k) = X k) (hw : wp_X5_does X p1 K) : JMi l g lay yX5_does wsX5_does rmX5_does [.ref o, .int p1] E0 (fun r E1 => ∃ X1 : ES, E1 = put 7 o X1 E0 ∧ (r = 0 ∨ r = 1) ∧ K r X1) := by
  refine Met.ofW (cc := cX5_does) (maxL := 2) (ret := (some .boolean)) (by decide) rfl ?_
  intro p e s m args below meth c s₁ B hml hv
  obtain ⟨rfl, hK, hW⟩ := hv
  have hx := B.exec
  have hb := B.bytes
  have hr := B.returns
  have hts := gd_of (atoms_spec (ws := wsX5_does) B.pre)
  have hown : s.vm.findClass RX5 = some m.cls := findClass_of_methodNamed B.named
  have hlocks := B.notSynchronized
  have hS : va_S (Ab g) s.heap s.heap [] := va_S.rf
  have hW : Wd g lay (put 7 o X E0) s.heap := by rw [putSelf hX]; exact hW
  have hl := lv_entry [.ref o, .int p1] (n := 2) (Nat.le_of_ble_eq_true rfl)
  rw [lg_entry_eq]
  generalize (lg_sl [.ref o, .int p1] ++ List.replicate (2 - (lg_sl [.ref o, .int p1]).length) Slot.unset).toArray = ls at hl ⊢
  have hl : lv_has ls 2 [(0, .ref o), (1, .int p1)] := hl
  unfold wp_X5_does at hw
  refine lv_aload_n hx hb dX5_does_0 rfl (lv_at hl 0 rfl) ?_
  refine g_X5_26 hx hb hown hts hK hW HB.1 (putAt (k := 0) (by decide)) dX5_does_1 ?_
  refine lv_iload_n hx hb dX5_does_4 rfl (lv_at hl 1 rfl) ?_
  obtain ⟨hin, hw⟩ := hw
  refine w_iald hx hb hK hW HB.2.2.2.2.2.2 (putAt (k := 6) (by decide)) hin dX5_does_5 ?_
  by_cases c_1 : ((X 6) p1.toNatClampNeg) = 100
  · have hw := hw.1 c_1
    refine lv_lookup (tgt := 82) hx hb dX5_does_6 (by decide) (by rw [c_1] <;> rfl) (by decide) ?_
    refine lv_aload_n hx hb dX5_does_82 rfl (lv_at hl 0 rfl) ?_
    refine lv_iload_n hx hb dX5_does_83 rfl (lv_at hl 1 rfl) ?_
    refine w_cvi (As := [.int p1]) (rest := []) hx hb hml hown hts hK hW hS hl.1 (c_X5_dials hA HB (fun k hk => putAt hk)  hw) (k_X5_218 hts ⟨Nat.le_of_ble_eq_true rfl, Nat.le_of_ble_eq_true rfl⟩) (w_recv hK hW HB.1 (putAt (k := 0) (by decide)) rfl rfl) rfl rfl (Nat.le_of_ble_eq_true rfl) dX5_does_84 ⟨Nat.zero_le _, Nat.zero_le _⟩ (fun r_2 Ez H locs hw2 hW hS => ?_)
    obtain ⟨X_4, ez, z_3, hw⟩ := hw2
    rw [ez, putPut] at hW
    exact w_zret hx hb hr hlocks hW hS z_3 ⟨X_4, rfl, z_3, hw⟩ dX5_does_87
  · have hw := hw.2 c_1
    by_cases c_5 : ((X 6) p1.toNatClampNeg) = 104
    · have hw := hw.1 c_5
      refine lv_lookup (tgt := 61) hx hb dX5_does_6 (by decide) (by rw [c_5] <;> rfl) (by decide) ?_
      refine lv_aload_n hx hb dX5_does_61 rfl (lv_at hl 0 rfl) ?_
      refine lv_aload_n hx hb dX5_does_62 rfl (lv_at hl 0 rfl) ?_
      refine g_X5_26 hx hb hown hts hK hW HB.1 (putAt (k := 0) (by decide)) dX5_does_63 ?_
      refine lv_iload_n hx hb dX5_does_66 rfl (lv_at hl 1 rfl) ?_
      refine lv_iconst (v := 1) hx hb dX5_does_67 (by decide) ?_
      refine lv_iadd hx hb dX5_does_68 ?_
      obtain ⟨hin, hw⟩ := hw
      refine w_iald hx hb hK hW HB.2.2.2.2.2.2 (putAt (k := 6) (by decide)) hin dX5_does_69 ?_
      refine w_cvi (As := [.int ((X 6) (p1 + 1).toNatClampNeg)]) (rest := []) hx hb hml hown hts hK hW hS hl.1 (c_X5_hang hA HB (fun k hk => putAt hk)  hw) (k_X5_215 hts ⟨Nat.le_of_ble_eq_true rfl, Nat.le_of_ble_eq_true rfl⟩) (w_recv hK hW HB.1 (putAt (k := 0) (by decide)) rfl rfl) rfl rfl (Nat.le_of_ble_eq_true rfl) dX5_does_70 ⟨Nat.zero_le _, Nat.zero_le _⟩ (fun r_6 Ez H locs hw2 hW hS => ?_)
      obtain ⟨X_7, ez, hw⟩ := hw2
      rw [ez, putPut] at hW
      refine lv_if_lt (tgt := 80) hx hb dX5_does_73 (by decide) (fun c_8 => ?_) (fun c_8 => ?_)
      · have hw := hw.1 c_8
        refine lv_iconst (v := 0) hx hb dX5_does_80 (by decide) ?_
        exact w_zret hx hb hr hlocks hW hS (Or.inl rfl) ⟨X_7, rfl, (Or.inl rfl), hw⟩ dX5_does_81
      · have hw := hw.2 c_8
        refine lv_iconst (v := 1) hx hb dX5_does_76 (by decide) ?_
        refine lv_goto (tgt := 81) hx hb dX5_does_77 (by decide) ?_
        exact w_zret hx hb hr hlocks hW hS (Or.inr rfl) ⟨X_7, rfl, (Or.inr rfl), hw⟩ dX5_does_81
    · have hw := hw.2 c_5
      by_cases c_9 : ((X 6) p1.toNatClampNeg) = 108
      · have hw := hw.1 c_9
        refine lv_lookup (tgt := 40) hx hb dX5_does_6 (by decide) (by rw [c_9] <;> rfl) (by decide) ?_
        refine lv_aload_n hx hb dX5_does_40 rfl (lv_at hl 0 rfl) ?_
        refine lv_aload_n hx hb dX5_does_41 rfl (lv_at hl 0 rfl) ?_
        refine g_X5_26 hx hb hown hts hK hW HB.1 (putAt (k := 0) (by decide)) dX5_does_42 ?_
        refine lv_iload_n hx hb dX5_does_45 rfl (lv_at hl 1 rfl) ?_
        refine lv_iconst (v := 1) hx hb dX5_does_46 (by decide) ?_
        refine lv_iadd hx hb dX5_does_47 ?_
        obtain ⟨hin, hw⟩ := hw
        refine w_iald hx hb hK hW HB.2.2.2.2.2.2 (putAt (k := 6) (by decide)) hin dX5_does_48 ?_
        refine w_cvi (As := [.int ((X 6) (p1 + 1).toNatClampNeg)]) (rest := []) hx hb hml hown hts hK hW hS hl.1 (c_X5_lift hA HB (fun k hk => putAt hk)  hw) (k_X5_175 hts ⟨Nat.le_of_ble_eq_true rfl, Nat.le_of_ble_eq_true rfl⟩) (w_recv hK hW HB.1 (putAt (k := 0) (by decide)) rfl rfl) rfl rfl (Nat.le_of_ble_eq_true rfl) dX5_does_49 ⟨Nat.zero_le _, Nat.zero_le _⟩ (fun r_10 Ez H locs hw2 hW hS => ?_)
        obtain ⟨X_11, ez, hw⟩ := hw2
        rw [ez, putPut] at hW
        refine lv_if_lt (tgt := 59) hx hb dX5_does_52 (by decide) (fun c_12 => ?_) (fun c_12 => ?_)
        · have hw := hw.1 c_12
          refine lv_iconst (v := 0) hx hb dX5_does_59 (by decide) ?_
          exact w_zret hx hb hr hlocks hW hS (Or.inl rfl) ⟨X_11, rfl, (Or.inl rfl), hw⟩ dX5_does_60
        · have hw := hw.2 c_12
          refine lv_iconst (v := 1) hx hb dX5_does_55 (by decide) ?_
          refine lv_goto (tgt := 60) hx hb dX5_does_56 (by decide) ?_
          exact w_zret hx hb hr hlocks hW hS (Or.inr rfl) ⟨X_11, rfl, (Or.inr rfl), hw⟩ dX5_does_60
      · have hw := hw.2 c_9
        refine lv_lookup (off := 82) (tgt := 88) hx hb dX5_does_6 (by decide) (by show Op.lookupswitch.offset [(100, 76), (104, 55), (108, 34)] _ _ = _; rw [lv_osw (a := 100) c_1 (by decide), lv_osw (a := 104) c_5 (by decide), lv_osw (a := 108) c_9 (by decide)] <;> rfl) (by decide) ?_
        refine lv_aload_n hx hb dX5_does_88 rfl (lv_at hl 0 rfl) ?_
        refine lv_aload_n hx hb dX5_does_89 rfl (lv_at hl 0 rfl) ?_
        refine g_X5_26 hx hb hown hts hK hW HB.1 (putAt (k := 0) (by decide)) dX5_does_90 ?_
        refine lv_iload_n hx hb dX5_does_93 rfl (lv_at hl 1 rfl) ?_
        refine lv_iconst (v := 1) hx hb dX5_does_94 (by decide) ?_
        refine lv_iadd hx hb dX5_does_95 ?_
        obtain ⟨hin, hw⟩ := hw
        refine w_iald hx hb hK hW HB.2.2.2.2.2.2 (putAt (k := 6) (by decide)) hin dX5_does_96 ?_
        refine w_cvi (As := [.int ((X 6) (p1 + 1).toNatClampNeg)]) (rest := []) hx hb hml hown hts hK hW hS hl.1 (c_X5_tick hA HB (fun k hk => putAt hk)  hw) (k_X5_221 hts ⟨Nat.le_of_ble_eq_true rfl, Nat.le_of_ble_eq_true rfl⟩) (w_recv hK hW HB.1 (putAt (k := 0) (by decide)) rfl rfl) rfl rfl (Nat.le_of_ble_eq_true rfl) dX5_does_97 ⟨Nat.zero_le _, Nat.zero_le _⟩ (fun r_13 Ez H locs hw2 hW hS => ?_)
        obtain ⟨X_14, ez, hw⟩ := hw2
        rw [ez, putPut] at hW
        refine lv_if_lt (tgt := 107) hx hb dX5_does_100 (by decide) (fun c_15 => ?_) (fun c_15 => ?_)
        · have hw := hw.1 c_15
          refine lv_iconst (v := 0) hx hb dX5_does_107 (by decide) ?_
          exact w_zret hx hb hr hlocks hW hS (Or.inl rfl) ⟨X_14, rfl, (Or.inl rfl), hw⟩ dX5_does_108
        · have hw := hw.2 c_15
          refine lv_iconst (v := 1) hx hb dX5_does_103 (by decide) ?_
          refine lv_goto (tgt := 108) hx hb dX5_does_104 (by decide) ?_
          exact w_zret hx hb hr hlocks hW hS (Or.inr rfl) ⟨X_14, rfl, (Or.inr rfl), hw⟩ dX5_does_108
set_option maxHeartbeats 4000000 in
set_option maxRecDepth 100000 in
theorem c_X5_carryOut {l : Launch} {g : GG} {lay : LY} {E0 : ES} {o : Nat} {X : ES} {K : Int32 → ES → Prop} (hA : okL g lay) (HB : ML g lay o) (hX : ∀ k, k < 7 → E0 (o + k) = X k) (hw : wp_X5_carryOut X K) : JMi l g lay yX5_carryOut wsX5_carryOut rmX5_carryOut [.ref o] E0 (fun r E1 => ∃ X1 : ES, E1 = put 7 o X1 E0 ∧ K r X1) := by
  refine Met.ofW (cc := cX5_carryOut) (maxL := 2) (ret := (some .int)) (by decide) rfl ?_
  intro p e s m args below meth c s₁ B hml hv
  obtain ⟨rfl, hK, hW⟩ := hv
  have hx := B.exec
  have hb := B.bytes
  have hr := B.returns
  have hts := gd_of (atoms_spec (ws := wsX5_carryOut) B.pre)
  have hown : s.vm.findClass RX5 = some m.cls := findClass_of_methodNamed B.named
  have hlocks := B.notSynchronized
  have hS : va_S (Ab g) s.heap s.heap [] := va_S.rf
  have hW : Wd g lay (put 7 o X E0) s.heap := by rw [putSelf hX]; exact hW
  have hl := lv_entry [.ref o] (n := 2) (Nat.le_of_ble_eq_true rfl)
  rw [lg_entry_eq]
  generalize (lg_sl [.ref o] ++ List.replicate (2 - (lg_sl [.ref o]).length) Slot.unset).toArray = ls at hl ⊢
  have hl : lv_has ls 2 [(0, .ref o)] := hl
  unfold wp_X5_carryOut at hw
  refine lv_aload_n hx hb dX5_carryOut_0 rfl (lv_at hl 0 rfl) ?_
  refine w_cvi (As := []) (rest := []) hx hb hml hown hts hK hW hS hl.1 (c_X5_fault hA HB (fun k hk => putAt hk)  hw) (k_X5_224 hts ⟨Nat.le_of_ble_eq_true rfl, Nat.le_of_ble_eq_true rfl⟩) (w_recv hK hW HB.1 (putAt (k := 0) (by decide)) rfl rfl) rfl rfl (Nat.le_of_ble_eq_true rfl) dX5_carryOut_1 ⟨Nat.zero_le _, Nat.zero_le _⟩ (fun r_1 Ez H locs hw2 hW hS => ?_)
  obtain ⟨X_2, ez, hw⟩ := hw2
  rw [ez, putPut] at hW
  refine lv_bipush (v := (-6)) hx hb dX5_carryOut_4 (by decide) ?_
  refine lv_icmp_eq (tgt := 12) hx hb dX5_carryOut_6 (by decide) (fun c_3 => ?_) (fun c_3 => ?_)
  · have hw := hw.1 c_3
    refine lv_iconst (v := 0) hx hb dX5_carryOut_12 (by decide) ?_
    refine lv_istore_n (lv' := [(1, .int 0), (0, .ref o)]) hx hb dX5_carryOut_13 rfl hl (by decide) rfl (fun ls hl => ?_)
    obtain ⟨n_25, hw⟩ := hw
    refine w_loop (KT := Int32 → ES → Prop) (σ := Int32 × ES) (Wl := fun Kx_14 n_14 q => wpl_X5_carryOut_14 K Kx_14 n_14 q.1 q.2) (Pw := fun q => Wd g lay (put 7 o q.2 E0)) (lvf := fun q => [(0, .ref o), (1, .int q.1)]) (nL := 2) n_25 (0, X_2) hw hW hS (lv_sub hl [1, 0] rfl) (fun _ h => h) (fun Kx_14 eK_14 n_14 q H locs ls hw hW hS hl ih_14 => ?_)
    obtain ⟨i_4, X_5⟩ := q
    try dsimp only at hw
    rw [wpl_X5_carryOut_14] at hw
    have hl : lv_has ls 2 [(0, .ref o), (1, .int i_4)] := hl
    have hW : Wd g lay (put 7 o X_5 E0) H := hW
    refine lv_iload_n hx hb dX5_carryOut_14 rfl (lv_at hl 1 rfl) ?_
    refine lv_aload_n hx hb dX5_carryOut_15 rfl (lv_at hl 0 rfl) ?_
    refine g_X5_200 hx hb hown hts hK hW HB.1 (putAt (k := 0) (by decide)) dX5_carryOut_16 ?_
    refine lv_icmp_ge (tgt := 38) hx hb dX5_carryOut_19 (by decide) (fun c_17 => ?_) (fun c_17 => ?_)
    · have hw := hw.1 c_17
      rw [eK_14] at hw
      refine lv_aload_n hx hb dX5_carryOut_38 rfl (lv_at hl 0 rfl) ?_
      refine lv_iconst (v := 0) hx hb dX5_carryOut_39 (by decide) ?_
      obtain ⟨X_18, eX_18⟩ : ∃ z : ES, z = va_up X_5 0 (upd (X_5 0) 5 0) := ⟨_, rfl⟩
      have hw := hw X_18 eX_18
      refine p_X5_165 (E1 := put 7 o X_18 E0) hx hb hown hts hK hA hW hS HB.1 (putAt (k := 0) (by decide)) dX5_carryOut_40 (puE (k := 0) (by decide) eX_18) (fun H locs hW hS => ?_)
      refine lv_iload_n hx hb dX5_carryOut_43 rfl (lv_at hl 1 rfl) ?_
      exact w_iret hx hb hr hlocks hW hS ⟨X_18, rfl, hw⟩ dX5_carryOut_44
    · have hw := hw.2 c_17
      refine lv_aload_n hx hb dX5_carryOut_22 rfl (lv_at hl 0 rfl) ?_
      refine lv_iconst (v := 4) hx hb dX5_carryOut_23 (by decide) ?_
      refine lv_iload_n hx hb dX5_carryOut_24 rfl (lv_at hl 1 rfl) ?_
      refine lv_imul hx hb dX5_carryOut_25 ?_
      refine w_cvi (As := [.int (4 * i_4)]) (rest := []) hx hb hml hown hts hK hW hS hl.1 (c_X5_does hA HB (fun k hk => putAt hk)  hw) (k_X5_227 hts ⟨Nat.le_of_ble_eq_true rfl, Nat.le_of_ble_eq_true rfl⟩) (w_recv hK hW HB.1 (putAt (k := 0) (by decide)) rfl rfl) rfl rfl (Nat.le_of_ble_eq_true rfl) dX5_carryOut_26 ⟨Nat.zero_le _, Nat.zero_le _⟩ (fun r_19 Ez H locs hw2 hW hS => ?_)
      obtain ⟨X_21, ez, z_20, hw⟩ := hw2
      rw [ez, putPut] at hW
      refine lv_if_eq (tgt := 38) hx hb dX5_carryOut_29 (by decide) (fun c_22 => ?_) (fun c_22 => ?_)
      · have hw := hw.1 c_22
        rw [eK_14] at hw
        refine lv_aload_n hx hb dX5_carryOut_38 rfl (lv_at hl 0 rfl) ?_
        refine lv_iconst (v := 0) hx hb dX5_carryOut_39 (by decide) ?_
        obtain ⟨X_23, eX_23⟩ : ∃ z : ES, z = va_up X_21 0 (upd (X_21 0) 5 0) := ⟨_, rfl⟩
        have hw := hw X_23 eX_23
        refine p_X5_165 (E1 := put 7 o X_23 E0) hx hb hown hts hK hA hW hS HB.1 (putAt (k := 0) (by decide)) dX5_carryOut_40 (puE (k := 0) (by decide) eX_23) (fun H locs hW hS => ?_)
        refine lv_iload_n hx hb dX5_carryOut_43 rfl (lv_at hl 1 rfl) ?_
        exact w_iret hx hb hr hlocks hW hS ⟨X_23, rfl, hw⟩ dX5_carryOut_44
      · have hw := hw.2 c_22
        obtain ⟨v_24, ev_24⟩ : ∃ z : Int32, z = i_4 + 1 := ⟨_, rfl⟩
        have hw := hw v_24 ev_24
        refine lv_iinc (v := v_24) (lv' := [(1, .int v_24), (0, .ref o)]) hx hb dX5_carryOut_32 hl (k := 1) rfl (by rw [ev_24]; rfl) (by decide) rfl (fun ls hl => ?_)
        refine lv_goto (tgt := 14) hx hb dX5_carryOut_35 (by decide) ?_
        exact ih_14 (v_24, X_21) _ _ _ hw hW hS (lv_sub hl [1, 0] rfl)
  · have hw := hw.2 c_3
    refine lv_bipush (v := (-3)) hx hb dX5_carryOut_9 (by decide) ?_
    exact w_iret hx hb hr hlocks hW hS ⟨X_2, rfl, hw⟩ dX5_carryOut_11
set_option maxHeartbeats 4000000 in
set_option maxRecDepth 100000 in
theorem c_X5_save {l : Launch} {g : GG} {lay : LY} {E0 : ES} {o : Nat} {X : ES} {p1 : Int32} {K : Int32 → ES → Prop} (hA : okL g lay) (HB : ML g lay o) (hX : ∀ k, k < 7 → E0 (o + k) = X k) (hw : wp_X5_save X p1 K) : JMi l g lay yX5_save wsX5_save rmX5_save [.ref o, .int p1] E0 (fun r E1 => ∃ X1 : ES, E1 = put 7 o X1 E0 ∧ K r X1) := by
  refine Met.ofW (cc := cX5_save) (maxL := 3) (ret := (some .int)) (by decide) rfl ?_
  intro p e s m args below meth c s₁ B hml hv
  obtain ⟨rfl, hK, hW⟩ := hv
  have hx := B.exec
  have hb := B.bytes
  have hr := B.returns
  have hts := gd_of (atoms_spec (ws := wsX5_save) B.pre)
  have hown : s.vm.findClass RX5 = some m.cls := findClass_of_methodNamed B.named
  have hlocks := B.notSynchronized
  have hS : va_S (Ab g) s.heap s.heap [] := va_S.rf
  have hW : Wd g lay (put 7 o X E0) s.heap := by rw [putSelf hX]; exact hW
  have hl := lv_entry [.ref o, .int p1] (n := 3) (Nat.le_of_ble_eq_true rfl)
  rw [lg_entry_eq]
  generalize (lg_sl [.ref o, .int p1] ++ List.replicate (3 - (lg_sl [.ref o, .int p1]).length) Slot.unset).toArray = ls at hl ⊢
  have hl : lv_has ls 3 [(0, .ref o), (1, .int p1)] := hl
  unfold wp_X5_save at hw
  refine lv_iload_n hx hb dX5_save_0 rfl (lv_at hl 1 rfl) ?_
  refine lv_iconst (v := 0) hx hb dX5_save_1 (by decide) ?_
  refine lv_iconst (v := 1) hx hb dX5_save_2 (by decide) ?_
  refine w_csi (As := [.int p1, .int 0, .int 1]) (rest := []) hx hb hml hown hts hK hW hS hl.1 (c_X5_in hw) (k_X5_33 hts ⟨Nat.le_of_ble_eq_true rfl, Nat.le_of_ble_eq_true rfl⟩) rfl rfl (Nat.le_of_ble_eq_true rfl) dX5_save_3 ⟨Nat.zero_le _, Nat.zero_le _⟩ (fun r_1 Ez H locs hw2 hW hS => ?_)
  obtain ⟨ez, z_2, hw⟩ := hw2
  rw [ez] at hW
  refine lv_if_ne (tgt := 12) hx hb dX5_save_6 (by decide) (fun c_3 => ?_) (fun c_3 => ?_)
  · have hw := hw.2 c_3
    refine lv_iconst (v := 0) hx hb dX5_save_12 (by decide) ?_
    refine lv_istore_n (lv' := [(2, .int 0), (0, .ref o), (1, .int p1)]) hx hb dX5_save_13 rfl hl (by decide) rfl (fun ls hl => ?_)
    obtain ⟨n_18, hw⟩ := hw
    refine w_loop (KT := Int32 → ES → Prop) (σ := Int32 × ES) (Wl := fun Kx_14 n_14 q => wpl_X5_save_14 p1 K Kx_14 n_14 q.1 q.2) (Pw := fun q => Wd g lay (put 7 o q.2 E0)) (lvf := fun q => [(0, .ref o), (1, .int p1), (2, .int q.1)]) (nL := 3) n_18 (0, X) hw hW hS (lv_sub hl [1, 2, 0] rfl) (fun _ h => h) (fun Kx_14 eK_14 n_14 q H locs ls hw hW hS hl ih_14 => ?_)
    obtain ⟨i_4, X_5⟩ := q
    try dsimp only at hw
    rw [wpl_X5_save_14] at hw
    have hl : lv_has ls 3 [(0, .ref o), (1, .int p1), (2, .int i_4)] := hl
    have hW : Wd g lay (put 7 o X_5 E0) H := hW
    refine lv_iload_n hx hb dX5_save_14 rfl (lv_at hl 2 rfl) ?_
    refine lv_sipush (v := 233) hx hb dX5_save_15 (by decide) ?_
    refine lv_icmp_ge (tgt := 45) hx hb dX5_save_18 (by decide) (fun c_14 => ?_) (fun c_14 => ?_)
    · have hw := hw.1 c_14
      rw [eK_14] at hw
      refine lv_aload_n hx hb dX5_save_45 rfl (lv_at hl 0 rfl) ?_
      refine g_X5_19 hx hb hown hts hK hW HB.1 (putAt (k := 0) (by decide)) dX5_save_46 ?_
      refine lv_iload_n hx hb dX5_save_49 rfl (lv_at hl 1 rfl) ?_
      refine lv_iconst (v := 1) hx hb dX5_save_50 (by decide) ?_
      obtain ⟨hin, hw⟩ := hw
      obtain ⟨X_15, eX_15⟩ : ∃ z : ES, z = va_up X_5 4 (upd (X_5 4) p1.toNatClampNeg 1) := ⟨_, rfl⟩
      have hw := hw X_15 eX_15
      refine w_zast (E1 := put 7 o X_15 E0) hx hb hK hA hW hS HB.2.2.2.2.1 (putAt (k := 4) (by decide)) (Or.inr rfl) hin dX5_save_51 (puE (k := 4) (by decide) eX_15) (fun H locs hW hS => ?_)
      refine lv_aload_n hx hb dX5_save_52 rfl (lv_at hl 0 rfl) ?_
      refine g_X5_7 hx hb hown hts hK hW HB.1 (putAt (k := 0) (by decide)) dX5_save_53 ?_
      refine lv_iconst (v := 0) hx hb dX5_save_56 (by decide) ?_
      obtain ⟨hin, hw⟩ := hw
      refine w_iald hx hb hK hW HB.2.1 (putAt (k := 1) (by decide)) hin dX5_save_57 ?_
      exact w_iret hx hb hr hlocks hW hS ⟨X_15, rfl, hw⟩ dX5_save_58
    · have hw := hw.2 c_14
      refine lv_aload_n hx hb dX5_save_21 rfl (lv_at hl 0 rfl) ?_
      refine g_X5_16 hx hb hown hts hK hW HB.1 (putAt (k := 0) (by decide)) dX5_save_22 ?_
      refine lv_sipush (v := 233) hx hb dX5_save_25 (by decide) ?_
      refine lv_iload_n hx hb dX5_save_28 rfl (lv_at hl 1 rfl) ?_
      refine lv_imul hx hb dX5_save_29 ?_
      refine lv_iload_n hx hb dX5_save_30 rfl (lv_at hl 2 rfl) ?_
      refine lv_iadd hx hb dX5_save_31 ?_
      refine lv_aload_n hx hb dX5_save_32 rfl (lv_at hl 0 rfl) ?_
      refine g_X5_7 hx hb hown hts hK hW HB.1 (putAt (k := 0) (by decide)) dX5_save_33 ?_
      refine lv_iload_n hx hb dX5_save_36 rfl (lv_at hl 2 rfl) ?_
      obtain ⟨hin, hw⟩ := hw
      refine w_iald hx hb hK hW HB.2.1 (putAt (k := 1) (by decide)) hin dX5_save_37 ?_
      obtain ⟨hin, hw⟩ := hw
      obtain ⟨X_16, eX_16⟩ : ∃ z : ES, z = va_up X_5 3 (upd (X_5 3) ((233 * p1) + i_4).toNatClampNeg ((X_5 1) i_4.toNatClampNeg)) := ⟨_, rfl⟩
      have hw := hw X_16 eX_16
      refine w_iast (E1 := put 7 o X_16 E0) hx hb hK hA hW hS HB.2.2.2.1 (putAt (k := 3) (by decide)) hin dX5_save_38 (puE (k := 3) (by decide) eX_16) (fun H locs hW hS => ?_)
      obtain ⟨v_17, ev_17⟩ : ∃ z : Int32, z = i_4 + 1 := ⟨_, rfl⟩
      have hw := hw v_17 ev_17
      refine lv_iinc (v := v_17) (lv' := [(2, .int v_17), (0, .ref o), (1, .int p1)]) hx hb dX5_save_39 hl (k := 2) rfl (by rw [ev_17]; rfl) (by decide) rfl (fun ls hl => ?_)
      refine lv_goto (tgt := 14) hx hb dX5_save_42 (by decide) ?_
      exact ih_14 (v_17, X_16) _ _ _ hw hW hS (lv_sub hl [1, 2, 0] rfl)
  · have hw := hw.1 c_3
    refine lv_bipush (v := (-2)) hx hb dX5_save_9 (by decide) ?_
    exact w_iret hx hb hr hlocks hW hS ⟨X, rfl, hw⟩ dX5_save_11
set_option maxHeartbeats 4000000 in
set_option maxRecDepth 100000 in
theorem c_X5_restore {l : Launch} {g : GG} {lay : LY} {E0 : ES} {o : Nat} {X : ES} {p1 : Int32} {K : Int32 → ES → Prop} (hA : okL g lay) (HB : ML g lay o) (hX : ∀ k, k < 7 → E0 (o + k) = X k) (hw : wp_X5_restore X p1 K) : JMi l g lay yX5_restore wsX5_restore rmX5_restore [.ref o, .int p1] E0 (fun r E1 => ∃ X1 : ES, E1 = put 7 o X1 E0 ∧ K r X1) := by
  refine Met.ofW (cc := cX5_restore) (maxL := 3) (ret := (some .int)) (by decide) rfl ?_
  intro p e s m args below meth c s₁ B hml hv
  obtain ⟨rfl, hK, hW⟩ := hv
  have hx := B.exec
  have hb := B.bytes
  have hr := B.returns
  have hts := gd_of (atoms_spec (ws := wsX5_restore) B.pre)
  have hown : s.vm.findClass RX5 = some m.cls := findClass_of_methodNamed B.named
  have hlocks := B.notSynchronized
  have hS : va_S (Ab g) s.heap s.heap [] := va_S.rf
  have hW : Wd g lay (put 7 o X E0) s.heap := by rw [putSelf hX]; exact hW
  have hl := lv_entry [.ref o, .int p1] (n := 3) (Nat.le_of_ble_eq_true rfl)
  rw [lg_entry_eq]
  generalize (lg_sl [.ref o, .int p1] ++ List.replicate (3 - (lg_sl [.ref o, .int p1]).length) Slot.unset).toArray = ls at hl ⊢
  have hl : lv_has ls 3 [(0, .ref o), (1, .int p1)] := hl
  unfold wp_X5_restore at hw
  refine lv_iload_n hx hb dX5_restore_0 rfl (lv_at hl 1 rfl) ?_
  refine lv_iconst (v := 0) hx hb dX5_restore_1 (by decide) ?_
  refine lv_iconst (v := 1) hx hb dX5_restore_2 (by decide) ?_
  refine w_csi (As := [.int p1, .int 0, .int 1]) (rest := []) hx hb hml hown hts hK hW hS hl.1 (c_X5_in hw) (k_X5_33 hts ⟨Nat.le_of_ble_eq_true rfl, Nat.le_of_ble_eq_true rfl⟩) rfl rfl (Nat.le_of_ble_eq_true rfl) dX5_restore_3 ⟨Nat.zero_le _, Nat.zero_le _⟩ (fun r_1 Ez H locs hw2 hW hS => ?_)
  obtain ⟨ez, z_2, hw⟩ := hw2
  rw [ez] at hW
  refine lv_if_ne (tgt := 12) hx hb dX5_restore_6 (by decide) (fun c_3 => ?_) (fun c_3 => ?_)
  · have hw := hw.2 c_3
    refine lv_aload_n hx hb dX5_restore_12 rfl (lv_at hl 0 rfl) ?_
    refine g_X5_19 hx hb hown hts hK hW HB.1 (putAt (k := 0) (by decide)) dX5_restore_13 ?_
    refine lv_iload_n hx hb dX5_restore_16 rfl (lv_at hl 1 rfl) ?_
    obtain ⟨hin, hw⟩ := hw
    refine w_zald hx hb hK hW HB.2.2.2.2.1 (putAt (k := 4) (by decide)) hin dX5_restore_17 ?_
    refine lv_if_ne (tgt := 24) hx hb dX5_restore_18 (by decide) (fun c_4 => ?_) (fun c_4 => ?_)
    · have hw := hw.2 c_4
      refine lv_iconst (v := 0) hx hb dX5_restore_24 (by decide) ?_
      refine lv_istore_n (lv' := [(2, .int 0), (0, .ref o), (1, .int p1)]) hx hb dX5_restore_25 rfl hl (by decide) rfl (fun ls hl => ?_)
      obtain ⟨n_16, hw⟩ := hw
      refine w_loop (KT := Int32 → ES → Prop) (σ := Int32 × ES) (Wl := fun Kx_26 n_26 q => wpl_X5_restore_26 p1 K Kx_26 n_26 q.1 q.2) (Pw := fun q => Wd g lay (put 7 o q.2 E0)) (lvf := fun q => [(0, .ref o), (1, .int p1), (2, .int q.1)]) (nL := 3) n_16 (0, X) hw hW hS (lv_sub hl [1, 2, 0] rfl) (fun _ h => h) (fun Kx_26 eK_26 n_26 q H locs ls hw hW hS hl ih_26 => ?_)
      obtain ⟨i_5, X_6⟩ := q
      try dsimp only at hw
      rw [wpl_X5_restore_26] at hw
      have hl : lv_has ls 3 [(0, .ref o), (1, .int p1), (2, .int i_5)] := hl
      have hW : Wd g lay (put 7 o X_6 E0) H := hW
      refine lv_iload_n hx hb dX5_restore_26 rfl (lv_at hl 2 rfl) ?_
      refine lv_sipush (v := 233) hx hb dX5_restore_27 (by decide) ?_
      refine lv_icmp_ge (tgt := 57) hx hb dX5_restore_30 (by decide) (fun c_13 => ?_) (fun c_13 => ?_)
      · have hw := hw.1 c_13
        rw [eK_26] at hw
        refine lv_aload_n hx hb dX5_restore_57 rfl (lv_at hl 0 rfl) ?_
        refine g_X5_7 hx hb hown hts hK hW HB.1 (putAt (k := 0) (by decide)) dX5_restore_58 ?_
        refine lv_iconst (v := 0) hx hb dX5_restore_61 (by decide) ?_
        obtain ⟨hin, hw⟩ := hw
        refine w_iald hx hb hK hW HB.2.1 (putAt (k := 1) (by decide)) hin dX5_restore_62 ?_
        exact w_iret hx hb hr hlocks hW hS ⟨X_6, rfl, hw⟩ dX5_restore_63
      · have hw := hw.2 c_13
        refine lv_aload_n hx hb dX5_restore_33 rfl (lv_at hl 0 rfl) ?_
        refine g_X5_7 hx hb hown hts hK hW HB.1 (putAt (k := 0) (by decide)) dX5_restore_34 ?_
        refine lv_iload_n hx hb dX5_restore_37 rfl (lv_at hl 2 rfl) ?_
        refine lv_aload_n hx hb dX5_restore_38 rfl (lv_at hl 0 rfl) ?_
        refine g_X5_16 hx hb hown hts hK hW HB.1 (putAt (k := 0) (by decide)) dX5_restore_39 ?_
        refine lv_sipush (v := 233) hx hb dX5_restore_42 (by decide) ?_
        refine lv_iload_n hx hb dX5_restore_45 rfl (lv_at hl 1 rfl) ?_
        refine lv_imul hx hb dX5_restore_46 ?_
        refine lv_iload_n hx hb dX5_restore_47 rfl (lv_at hl 2 rfl) ?_
        refine lv_iadd hx hb dX5_restore_48 ?_
        obtain ⟨hin, hw⟩ := hw
        refine w_iald hx hb hK hW HB.2.2.2.1 (putAt (k := 3) (by decide)) hin dX5_restore_49 ?_
        obtain ⟨hin, hw⟩ := hw
        obtain ⟨X_14, eX_14⟩ : ∃ z : ES, z = va_up X_6 1 (upd (X_6 1) i_5.toNatClampNeg ((X_6 3) ((233 * p1) + i_5).toNatClampNeg)) := ⟨_, rfl⟩
        have hw := hw X_14 eX_14
        refine w_iast (E1 := put 7 o X_14 E0) hx hb hK hA hW hS HB.2.1 (putAt (k := 1) (by decide)) hin dX5_restore_50 (puE (k := 1) (by decide) eX_14) (fun H locs hW hS => ?_)
        obtain ⟨v_15, ev_15⟩ : ∃ z : Int32, z = i_5 + 1 := ⟨_, rfl⟩
        have hw := hw v_15 ev_15
        refine lv_iinc (v := v_15) (lv' := [(2, .int v_15), (0, .ref o), (1, .int p1)]) hx hb dX5_restore_51 hl (k := 2) rfl (by rw [ev_15]; rfl) (by decide) rfl (fun ls hl => ?_)
        refine lv_goto (tgt := 26) hx hb dX5_restore_54 (by decide) ?_
        exact ih_26 (v_15, X_14) _ _ _ hw hW hS (lv_sub hl [1, 2, 0] rfl)
    · have hw := hw.1 c_4
      refine lv_bipush (v := (-5)) hx hb dX5_restore_21 (by decide) ?_
      exact w_iret hx hb hr hlocks hW hS ⟨X, rfl, hw⟩ dX5_restore_23
  · have hw := hw.1 c_3
    refine lv_bipush (v := (-2)) hx hb dX5_restore_9 (by decide) ?_
    exact w_iret hx hb hr hlocks hW hS ⟨X, rfl, hw⟩ dX5_restore_11
