set_option maxHeartbeats 4000000 in
set_option maxRecDepth 100000 in
theorem c_X4_setUp {l : Launch} {g : GG} {lay : LY} {E0 : ES} {o : Nat} {sv : Nat → Option Nat} {p1 : Int32} {p2 : Int32} {K : Int32 → ES → Prop} (hA : okL g lay) (HR : RL4 g lay o sv) (hw : wp_X4_setUp o E0 p1 p2 K) : JMi l g lay yX4_setUp wsX4_setUp rmX4_setUp [.ref o, .int p1, .int p2] E0 (fun r E1 => K r E1) := by
  refine Met.ofW (cc := cX4_setUp) (maxL := 4) (ret := (some .int)) (by decide) rfl ?_
  intro p e s m args below meth c s₁ B hml hv
  obtain ⟨rfl, hK, hW⟩ := hv
  have hx := B.exec
  have hb := B.bytes
  have hr := B.returns
  have hts := gd_of (atoms_spec (ws := wsX4_setUp) B.pre)
  have hown : s.vm.findClass RX4 = some m.cls := findClass_of_methodNamed B.named
  have hlocks := B.notSynchronized
  have hS : va_S (Ab g) s.heap s.heap [] := va_S.rf
  have hl := lv_entry [.ref o, .int p1, .int p2] (n := 4) (Nat.le_of_ble_eq_true rfl)
  rw [lg_entry_eq]
  generalize (lg_sl [.ref o, .int p1, .int p2] ++ List.replicate (4 - (lg_sl [.ref o, .int p1, .int p2]).length) Slot.unset).toArray = ls at hl ⊢
  have hl : lv_has ls 4 [(0, .ref o), (1, .int p1), (2, .int p2)] := hl
  unfold wp_X4_setUp at hw
  refine lv_iload_n hx hb dX4_setUp_0 rfl (lv_at hl 1 rfl) ?_
  refine lv_iconst (v := 1) hx hb dX4_setUp_1 (by decide) ?_
  refine lv_iconst (v := 4) hx hb dX4_setUp_2 (by decide) ?_
  refine w_csi (As := [.int p1, .int 1, .int 4]) (rest := []) hx hb hml hown hts hK hW hS hl.1 (c_X4_isWithin hw) (k_X4_30 hts ⟨Nat.le_of_ble_eq_true rfl, Nat.le_of_ble_eq_true rfl⟩) rfl rfl (Nat.le_of_ble_eq_true rfl) dX4_setUp_3 ⟨Nat.zero_le _, Nat.zero_le _⟩ (fun r_1 Ez H locs hw2 hW hS => ?_)
  obtain ⟨ez, z_2, hw⟩ := hw2
  rw [ez] at hW
  refine lv_if_eq (tgt := 18) hx hb dX4_setUp_6 (by decide) (fun c_3 => ?_) (fun c_3 => ?_)
  · have hw := hw.1 c_3
    refine lv_bipush (v := (-2)) hx hb dX4_setUp_18 (by decide) ?_
    exact w_iret hx hb hr hlocks hW hS hw dX4_setUp_20
  · have hw := hw.2 c_3
    refine lv_iload_n hx hb dX4_setUp_9 rfl (lv_at hl 2 rfl) ?_
    refine lv_iconst (v := 1) hx hb dX4_setUp_10 (by decide) ?_
    refine lv_iconst (v := 3) hx hb dX4_setUp_11 (by decide) ?_
    refine w_csi (As := [.int p2, .int 1, .int 3]) (rest := []) hx hb hml hown hts hK hW hS hl.1 (c_X4_isWithin hw) (k_X4_30 hts ⟨Nat.le_of_ble_eq_true rfl, Nat.le_of_ble_eq_true rfl⟩) rfl rfl (Nat.le_of_ble_eq_true rfl) dX4_setUp_12 ⟨Nat.zero_le _, Nat.zero_le _⟩ (fun r_4 Ez H locs hw2 hW hS => ?_)
    obtain ⟨ez, z_5, hw⟩ := hw2
    rw [ez] at hW
    refine lv_if_ne (tgt := 21) hx hb dX4_setUp_15 (by decide) (fun c_6 => ?_) (fun c_6 => ?_)
    · have hw := hw.2 c_6
      refine lv_aload_n hx hb dX4_setUp_21 rfl (lv_at hl 0 rfl) ?_
      refine g_X4_10 hx hb hown hts hK hW HR.1 rfl dX4_setUp_22 ?_
      refine g_X4_34 hx hb hown hts hK hW HR.2.1.1 rfl dX4_setUp_25 ?_
      refine lv_topi (fun v_7 ev_7 => ?_)
      have hw := hw v_7 ev_7
      refine lv_istore_n (lv' := [(3, .int v_7), (0, .ref o), (1, .int p1), (2, .int p2)]) hx hb dX4_setUp_28 rfl hl (by decide) rfl (fun ls hl => ?_)
      refine lv_aload_n hx hb dX4_setUp_29 rfl (lv_at hl 1 rfl) ?_
      refine g_X4_10 hx hb hown hts hK hW HR.1 rfl dX4_setUp_30 ?_
      refine lv_iload_n hx hb dX4_setUp_33 rfl (lv_at hl 2 rfl) ?_
      refine lv_iload_n hx hb dX4_setUp_34 rfl (lv_at hl 3 rfl) ?_
      refine w_cvv (As := [.int p1, .int p2]) (rest := []) hx hb hml hown hts hK hW hS hl.1 (c_X0_renew hA HR.2.1 (fun _ _ => rfl)  hw) (k_X4_38 hts ⟨Nat.le_of_ble_eq_true rfl, Nat.le_of_ble_eq_true rfl⟩) (w_recv hK hW HR.2.1.1 rfl rfl rfl) rfl rfl (Nat.le_of_ble_eq_true rfl) dX4_setUp_35 ⟨Nat.zero_le _, Nat.zero_le _⟩ (fun Ez H locs hw2 hW hS => ?_)
      obtain ⟨Y_8, ez, hw⟩ := hw2
      rw [ez] at hW
      obtain ⟨X_9, eX_9⟩ : ∃ z : ES, z = put 26 (o + 1) Y_8 E0 := ⟨_, rfl⟩
      have hw := hw X_9 eX_9
      rw [← eX_9] at hW
      refine lv_iload_n hx hb dX4_setUp_38 rfl (lv_at hl 0 rfl) ?_
      exact w_iret hx hb hr hlocks hW hS hw dX4_setUp_39
    · have hw := hw.1 c_6
      refine lv_bipush (v := (-2)) hx hb dX4_setUp_18 (by decide) ?_
      exact w_iret hx hb hr hlocks hW hS hw dX4_setUp_20
set_option maxHeartbeats 4000000 in
set_option maxRecDepth 100000 in
theorem c_X4_lift {l : Launch} {g : GG} {lay : LY} {E0 : ES} {o : Nat} {sv : Nat → Option Nat} {p1 : Int32} {K : Int32 → ES → Prop} (hA : okL g lay) (HR : RL4 g lay o sv) (hw : wp_X4_lift o E0 p1 K) : JMi l g lay yX4_lift wsX4_lift rmX4_lift [.ref o, .int p1] E0 (fun r E1 => K r E1) := by
  refine Met.ofW (cc := cX4_lift) (maxL := 2) (ret := (some .int)) (by decide) rfl ?_
  intro p e s m args below meth c s₁ B hml hv
  obtain ⟨rfl, hK, hW⟩ := hv
  have hx := B.exec
  have hb := B.bytes
  have hr := B.returns
  have hts := gd_of (atoms_spec (ws := wsX4_lift) B.pre)
  have hown : s.vm.findClass RX4 = some m.cls := findClass_of_methodNamed B.named
  have hlocks := B.notSynchronized
  have hS : va_S (Ab g) s.heap s.heap [] := va_S.rf
  have hl := lv_entry [.ref o, .int p1] (n := 2) (Nat.le_of_ble_eq_true rfl)
  rw [lg_entry_eq]
  generalize (lg_sl [.ref o, .int p1] ++ List.replicate (2 - (lg_sl [.ref o, .int p1]).length) Slot.unset).toArray = ls at hl ⊢
  have hl : lv_has ls 2 [(0, .ref o), (1, .int p1)] := hl
  unfold wp_X4_lift at hw
  refine lv_iload_n hx hb dX4_lift_0 rfl (lv_at hl 1 rfl) ?_
  refine w_csi (As := [.int p1]) (rest := []) hx hb hml hown hts hK hW hS hl.1 (c_X4_isLine hw) (k_X4_50 hts ⟨Nat.le_of_ble_eq_true rfl, Nat.le_of_ble_eq_true rfl⟩) rfl rfl (Nat.le_of_ble_eq_true rfl) dX4_lift_1 ⟨Nat.zero_le _, Nat.zero_le _⟩ (fun r_1 Ez H locs hw2 hW hS => ?_)
  obtain ⟨ez, z_2, hw⟩ := hw2
  rw [ez] at hW
  refine lv_if_eq (tgt := 18) hx hb dX4_lift_4 (by decide) (fun c_3 => ?_) (fun c_3 => ?_)
  · have hw := hw.1 c_3
    refine lv_iconst (v := (-1)) hx hb dX4_lift_18 (by decide) ?_
    exact w_iret hx hb hr hlocks hW hS hw dX4_lift_19
  · have hw := hw.2 c_3
    refine lv_aload_n hx hb dX4_lift_7 rfl (lv_at hl 0 rfl) ?_
    refine g_X4_10 hx hb hown hts hK hW HR.1 rfl dX4_lift_8 ?_
    refine lv_iload_n hx hb dX4_lift_11 rfl (lv_at hl 1 rfl) ?_
    refine w_cvi (As := [.int p1]) (rest := []) hx hb hml hown hts hK hW hS hl.1 (c_X0_liftLine hA HR.2.1 (fun _ _ => rfl)  hw) (k_X4_54 hts ⟨Nat.le_of_ble_eq_true rfl, Nat.le_of_ble_eq_true rfl⟩) (w_recv hK hW HR.2.1.1 rfl rfl rfl) rfl rfl (Nat.le_of_ble_eq_true rfl) dX4_lift_12 ⟨Nat.zero_le _, Nat.zero_le _⟩ (fun r_4 Ez H locs hw2 hW hS => ?_)
    obtain ⟨Y_5, ez, hw⟩ := hw2
    rw [ez] at hW
    obtain ⟨X_6, eX_6⟩ : ∃ z : ES, z = put 26 (o + 1) Y_5 E0 := ⟨_, rfl⟩
    have hw := hw X_6 eX_6
    rw [← eX_6] at hW
    refine lv_goto (tgt := 19) hx hb dX4_lift_15 (by decide) ?_
    exact w_iret hx hb hr hlocks hW hS hw dX4_lift_19
set_option maxHeartbeats 4000000 in
set_option maxRecDepth 100000 in
theorem c_X4_hang {l : Launch} {g : GG} {lay : LY} {E0 : ES} {o : Nat} {sv : Nat → Option Nat} {p1 : Int32} {K : Int32 → ES → Prop} (hA : okL g lay) (HR : RL4 g lay o sv) (hw : wp_X4_hang o E0 p1 K) : JMi l g lay yX4_hang wsX4_hang rmX4_hang [.ref o, .int p1] E0 (fun r E1 => K r E1) := by
  refine Met.ofW (cc := cX4_hang) (maxL := 2) (ret := (some .int)) (by decide) rfl ?_
  intro p e s m args below meth c s₁ B hml hv
  obtain ⟨rfl, hK, hW⟩ := hv
  have hx := B.exec
  have hb := B.bytes
  have hr := B.returns
  have hts := gd_of (atoms_spec (ws := wsX4_hang) B.pre)
  have hown : s.vm.findClass RX4 = some m.cls := findClass_of_methodNamed B.named
  have hlocks := B.notSynchronized
  have hS : va_S (Ab g) s.heap s.heap [] := va_S.rf
  have hl := lv_entry [.ref o, .int p1] (n := 2) (Nat.le_of_ble_eq_true rfl)
  rw [lg_entry_eq]
  generalize (lg_sl [.ref o, .int p1] ++ List.replicate (2 - (lg_sl [.ref o, .int p1]).length) Slot.unset).toArray = ls at hl ⊢
  have hl : lv_has ls 2 [(0, .ref o), (1, .int p1)] := hl
  unfold wp_X4_hang at hw
  refine lv_iload_n hx hb dX4_hang_0 rfl (lv_at hl 1 rfl) ?_
  refine w_csi (As := [.int p1]) (rest := []) hx hb hml hown hts hK hW hS hl.1 (c_X4_isLine hw) (k_X4_50 hts ⟨Nat.le_of_ble_eq_true rfl, Nat.le_of_ble_eq_true rfl⟩) rfl rfl (Nat.le_of_ble_eq_true rfl) dX4_hang_1 ⟨Nat.zero_le _, Nat.zero_le _⟩ (fun r_1 Ez H locs hw2 hW hS => ?_)
  obtain ⟨ez, z_2, hw⟩ := hw2
  rw [ez] at hW
  refine lv_if_eq (tgt := 18) hx hb dX4_hang_4 (by decide) (fun c_3 => ?_) (fun c_3 => ?_)
  · have hw := hw.1 c_3
    refine lv_iconst (v := (-1)) hx hb dX4_hang_18 (by decide) ?_
    exact w_iret hx hb hr hlocks hW hS hw dX4_hang_19
  · have hw := hw.2 c_3
    refine lv_aload_n hx hb dX4_hang_7 rfl (lv_at hl 0 rfl) ?_
    refine g_X4_10 hx hb hown hts hK hW HR.1 rfl dX4_hang_8 ?_
    refine lv_iload_n hx hb dX4_hang_11 rfl (lv_at hl 1 rfl) ?_
    refine w_cvi (As := [.int p1]) (rest := []) hx hb hml hown hts hK hW hS hl.1 (c_X0_hangLine hA HR.2.1 (fun _ _ => rfl)  hw) (k_X4_58 hts ⟨Nat.le_of_ble_eq_true rfl, Nat.le_of_ble_eq_true rfl⟩) (w_recv hK hW HR.2.1.1 rfl rfl rfl) rfl rfl (Nat.le_of_ble_eq_true rfl) dX4_hang_12 ⟨Nat.zero_le _, Nat.zero_le _⟩ (fun r_4 Ez H locs hw2 hW hS => ?_)
    obtain ⟨Y_5, ez, hw⟩ := hw2
    rw [ez] at hW
    obtain ⟨X_6, eX_6⟩ : ∃ z : ES, z = put 26 (o + 1) Y_5 E0 := ⟨_, rfl⟩
    have hw := hw X_6 eX_6
    rw [← eX_6] at hW
    refine lv_goto (tgt := 19) hx hb dX4_hang_15 (by decide) ?_
    exact w_iret hx hb hr hlocks hW hS hw dX4_hang_19
set_option maxHeartbeats 4000000 in
set_option maxRecDepth 100000 in
theorem c_X4_dial {l : Launch} {g : GG} {lay : LY} {E0 : ES} {o : Nat} {sv : Nat → Option Nat} {p1 : Int32} {p2 : Int32} {K : Int32 → ES → Prop} (hA : okL g lay) (HR : RL4 g lay o sv) (hw : wp_X4_dial o E0 p1 p2 K) : JMi l g lay yX4_dial wsX4_dial rmX4_dial [.ref o, .int p1, .int p2] E0 (fun r E1 => K r E1) := by
  refine Met.ofW (cc := cX4_dial) (maxL := 3) (ret := (some .int)) (by decide) rfl ?_
  intro p e s m args below meth c s₁ B hml hv
  obtain ⟨rfl, hK, hW⟩ := hv
  have hx := B.exec
  have hb := B.bytes
  have hr := B.returns
  have hts := gd_of (atoms_spec (ws := wsX4_dial) B.pre)
  have hown : s.vm.findClass RX4 = some m.cls := findClass_of_methodNamed B.named
  have hlocks := B.notSynchronized
  have hS : va_S (Ab g) s.heap s.heap [] := va_S.rf
  have hl := lv_entry [.ref o, .int p1, .int p2] (n := 3) (Nat.le_of_ble_eq_true rfl)
  rw [lg_entry_eq]
  generalize (lg_sl [.ref o, .int p1, .int p2] ++ List.replicate (3 - (lg_sl [.ref o, .int p1, .int p2]).length) Slot.unset).toArray = ls at hl ⊢
  have hl : lv_has ls 3 [(0, .ref o), (1, .int p1), (2, .int p2)] := hl
  unfold wp_X4_dial at hw
  refine lv_iload_n hx hb dX4_dial_0 rfl (lv_at hl 1 rfl) ?_
  refine w_csi (As := [.int p1]) (rest := []) hx hb hml hown hts hK hW hS hl.1 (c_X4_isLine hw) (k_X4_50 hts ⟨Nat.le_of_ble_eq_true rfl, Nat.le_of_ble_eq_true rfl⟩) rfl rfl (Nat.le_of_ble_eq_true rfl) dX4_dial_1 ⟨Nat.zero_le _, Nat.zero_le _⟩ (fun r_1 Ez H locs hw2 hW hS => ?_)
  obtain ⟨ez, z_2, hw⟩ := hw2
  rw [ez] at hW
  refine lv_if_ne (tgt := 9) hx hb dX4_dial_4 (by decide) (fun c_3 => ?_) (fun c_3 => ?_)
  · have hw := hw.2 c_3
    refine lv_iload_n hx hb dX4_dial_9 rfl (lv_at hl 2 rfl) ?_
    refine lv_iconst (v := 0) hx hb dX4_dial_10 (by decide) ?_
    refine lv_bipush (v := 9) hx hb dX4_dial_11 (by decide) ?_
    refine w_csi (As := [.int p2, .int 0, .int 9]) (rest := []) hx hb hml hown hts hK hW hS hl.1 (c_X4_isWithin hw) (k_X4_30 hts ⟨Nat.le_of_ble_eq_true rfl, Nat.le_of_ble_eq_true rfl⟩) rfl rfl (Nat.le_of_ble_eq_true rfl) dX4_dial_13 ⟨Nat.zero_le _, Nat.zero_le _⟩ (fun r_4 Ez H locs hw2 hW hS => ?_)
    obtain ⟨ez, z_5, hw⟩ := hw2
    rw [ez] at hW
    refine lv_if_eq (tgt := 31) hx hb dX4_dial_16 (by decide) (fun c_6 => ?_) (fun c_6 => ?_)
    · have hw := hw.1 c_6
      refine lv_bipush (v := (-2)) hx hb dX4_dial_31 (by decide) ?_
      exact w_iret hx hb hr hlocks hW hS hw dX4_dial_33
    · have hw := hw.2 c_6
      refine lv_aload_n hx hb dX4_dial_19 rfl (lv_at hl 0 rfl) ?_
      refine g_X4_10 hx hb hown hts hK hW HR.1 rfl dX4_dial_20 ?_
      refine lv_iload_n hx hb dX4_dial_23 rfl (lv_at hl 1 rfl) ?_
      refine lv_iload_n hx hb dX4_dial_24 rfl (lv_at hl 2 rfl) ?_
      refine w_cvi (As := [.int p1, .int p2]) (rest := []) hx hb hml hown hts hK hW hS hl.1 (c_X0_dialDigit hA HR.2.1 (fun _ _ => rfl)  hw) (k_X4_61 hts ⟨Nat.le_of_ble_eq_true rfl, Nat.le_of_ble_eq_true rfl⟩) (w_recv hK hW HR.2.1.1 rfl rfl rfl) rfl rfl (Nat.le_of_ble_eq_true rfl) dX4_dial_25 ⟨Nat.zero_le _, Nat.zero_le _⟩ (fun r_7 Ez H locs hw2 hW hS => ?_)
      obtain ⟨Y_8, ez, hw⟩ := hw2
      rw [ez] at hW
      obtain ⟨X_9, eX_9⟩ : ∃ z : ES, z = put 26 (o + 1) Y_8 E0 := ⟨_, rfl⟩
      have hw := hw X_9 eX_9
      rw [← eX_9] at hW
      refine lv_goto (tgt := 33) hx hb dX4_dial_28 (by decide) ?_
      exact w_iret hx hb hr hlocks hW hS hw dX4_dial_33
  · have hw := hw.1 c_3
    refine lv_iconst (v := (-1)) hx hb dX4_dial_7 (by decide) ?_
    exact w_iret hx hb hr hlocks hW hS hw dX4_dial_8
set_option maxHeartbeats 4000000 in
set_option maxRecDepth 100000 in
theorem c_X4_tick {l : Launch} {g : GG} {lay : LY} {E0 : ES} {o : Nat} {sv : Nat → Option Nat} {p1 : Int32} {K : Int32 → ES → Prop} (hA : okL g lay) (HR : RL4 g lay o sv) (hw : wp_X4_tick o E0 p1 K) : JMi l g lay yX4_tick wsX4_tick rmX4_tick [.ref o, .int p1] E0 (fun r E1 => K r E1) := by
  refine Met.ofW (cc := cX4_tick) (maxL := 2) (ret := (some .int)) (by decide) rfl ?_
  intro p e s m args below meth c s₁ B hml hv
  obtain ⟨rfl, hK, hW⟩ := hv
  have hx := B.exec
  have hb := B.bytes
  have hr := B.returns
  have hts := gd_of (atoms_spec (ws := wsX4_tick) B.pre)
  have hown : s.vm.findClass RX4 = some m.cls := findClass_of_methodNamed B.named
  have hlocks := B.notSynchronized
  have hS : va_S (Ab g) s.heap s.heap [] := va_S.rf
  have hl := lv_entry [.ref o, .int p1] (n := 2) (Nat.le_of_ble_eq_true rfl)
  rw [lg_entry_eq]
  generalize (lg_sl [.ref o, .int p1] ++ List.replicate (2 - (lg_sl [.ref o, .int p1]).length) Slot.unset).toArray = ls at hl ⊢
  have hl : lv_has ls 2 [(0, .ref o), (1, .int p1)] := hl
  unfold wp_X4_tick at hw
  refine lv_iload_n hx hb dX4_tick_0 rfl (lv_at hl 1 rfl) ?_
  refine lv_iconst (v := 1) hx hb dX4_tick_1 (by decide) ?_
  refine lv_sipush (v := 1000) hx hb dX4_tick_2 (by decide) ?_
  refine w_csi (As := [.int p1, .int 1, .int 1000]) (rest := []) hx hb hml hown hts hK hW hS hl.1 (c_X4_isWithin hw) (k_X4_30 hts ⟨Nat.le_of_ble_eq_true rfl, Nat.le_of_ble_eq_true rfl⟩) rfl rfl (Nat.le_of_ble_eq_true rfl) dX4_tick_5 ⟨Nat.zero_le _, Nat.zero_le _⟩ (fun r_1 Ez H locs hw2 hW hS => ?_)
  obtain ⟨ez, z_2, hw⟩ := hw2
  rw [ez] at hW
  refine lv_if_ne (tgt := 14) hx hb dX4_tick_8 (by decide) (fun c_3 => ?_) (fun c_3 => ?_)
  · have hw := hw.2 c_3
    refine lv_aload_n hx hb dX4_tick_14 rfl (lv_at hl 0 rfl) ?_
    refine g_X4_10 hx hb hown hts hK hW HR.1 rfl dX4_tick_15 ?_
    refine lv_iload_n hx hb dX4_tick_18 rfl (lv_at hl 1 rfl) ?_
    refine w_cvi (As := [.int p1]) (rest := []) hx hb hml hown hts hK hW hS hl.1 (c_X0_hasTimeFor hA HR.2.1 (fun _ _ => rfl)  hw) (k_X4_64 hts ⟨Nat.le_of_ble_eq_true rfl, Nat.le_of_ble_eq_true rfl⟩) (w_recv hK hW HR.2.1.1 rfl rfl rfl) rfl rfl (Nat.le_of_ble_eq_true rfl) dX4_tick_19 ⟨Nat.zero_le _, Nat.zero_le _⟩ (fun r_4 Ez H locs hw2 hW hS => ?_)
    obtain ⟨ez, z_5, hw⟩ := hw2
    rw [ez] at hW
    refine lv_if_ne (tgt := 28) hx hb dX4_tick_22 (by decide) (fun c_6 => ?_) (fun c_6 => ?_)
    · have hw := hw.2 c_6
      refine lv_aload_n hx hb dX4_tick_28 rfl (lv_at hl 0 rfl) ?_
      refine g_X4_10 hx hb hown hts hK hW HR.1 rfl dX4_tick_29 ?_
      refine lv_iload_n hx hb dX4_tick_32 rfl (lv_at hl 1 rfl) ?_
      refine w_cvv (As := [.int p1]) (rest := []) hx hb hml hown hts hK hW hS hl.1 (c_X0_pass hA HR.2.1 (fun _ _ => rfl)  hw) (k_X4_67 hts ⟨Nat.le_of_ble_eq_true rfl, Nat.le_of_ble_eq_true rfl⟩) (w_recv hK hW HR.2.1.1 rfl rfl rfl) rfl rfl (Nat.le_of_ble_eq_true rfl) dX4_tick_33 ⟨Nat.zero_le _, Nat.zero_le _⟩ (fun Ez H locs hw2 hW hS => ?_)
      obtain ⟨Y_7, ez, hw⟩ := hw2
      rw [ez] at hW
      obtain ⟨X_8, eX_8⟩ : ∃ z : ES, z = put 26 (o + 1) Y_7 E0 := ⟨_, rfl⟩
      have hw := hw X_8 eX_8
      rw [← eX_8] at hW
      refine lv_aload_n hx hb dX4_tick_36 rfl (lv_at hl 0 rfl) ?_
      refine g_X4_10 hx hb hown hts hK hW HR.1 rfl dX4_tick_37 ?_
      refine g_X4_71 hx hb hown hts hK hW HR.2.1.1 rfl dX4_tick_40 ?_
      exact w_iret hx hb hr hlocks hW hS hw dX4_tick_43
    · have hw := hw.1 c_6
      refine lv_bipush (v := (-5)) hx hb dX4_tick_25 (by decide) ?_
      exact w_iret hx hb hr hlocks hW hS hw dX4_tick_27
  · have hw := hw.1 c_3
    refine lv_bipush (v := (-2)) hx hb dX4_tick_11 (by decide) ?_
    exact w_iret hx hb hr hlocks hW hS hw dX4_tick_13
set_option maxHeartbeats 4000000 in
set_option maxRecDepth 100000 in
theorem c_X4_line {l : Launch} {g : GG} {lay : LY} {E0 : ES} {o : Nat} {sv : Nat → Option Nat} {p1 : Int32} {p2 : Int32} {K : Int32 → Prop} (hA : okL g lay) (HR : RL4 g lay o sv) (hw : wp_X4_line o E0 p1 p2 K) : JMi l g lay yX4_line wsX4_line rmX4_line [.ref o, .int p1, .int p2] E0 (fun r E1 => E1 = E0 ∧ K r) := by
  refine Met.ofW (cc := cX4_line) (maxL := 3) (ret := (some .int)) (by decide) rfl ?_
  intro p e s m args below meth c s₁ B hml hv
  obtain ⟨rfl, hK, hW⟩ := hv
  have hx := B.exec
  have hb := B.bytes
  have hr := B.returns
  have hts := gd_of (atoms_spec (ws := wsX4_line) B.pre)
  have hown : s.vm.findClass RX4 = some m.cls := findClass_of_methodNamed B.named
  have hlocks := B.notSynchronized
  have hS : va_S (Ab g) s.heap s.heap [] := va_S.rf
  have hl := lv_entry [.ref o, .int p1, .int p2] (n := 3) (Nat.le_of_ble_eq_true rfl)
  rw [lg_entry_eq]
  generalize (lg_sl [.ref o, .int p1, .int p2] ++ List.replicate (3 - (lg_sl [.ref o, .int p1, .int p2]).length) Slot.unset).toArray = ls at hl ⊢
  have hl : lv_has ls 3 [(0, .ref o), (1, .int p1), (2, .int p2)] := hl
  unfold wp_X4_line at hw
  refine lv_iload_n hx hb dX4_line_0 rfl (lv_at hl 1 rfl) ?_
  refine w_csi (As := [.int p1]) (rest := []) hx hb hml hown hts hK hW hS hl.1 (c_X4_isLine hw) (k_X4_50 hts ⟨Nat.le_of_ble_eq_true rfl, Nat.le_of_ble_eq_true rfl⟩) rfl rfl (Nat.le_of_ble_eq_true rfl) dX4_line_1 ⟨Nat.zero_le _, Nat.zero_le _⟩ (fun r_1 Ez H locs hw2 hW hS => ?_)
  obtain ⟨ez, z_2, hw⟩ := hw2
  rw [ez] at hW
  refine lv_if_eq (tgt := 19) hx hb dX4_line_4 (by decide) (fun c_3 => ?_) (fun c_3 => ?_)
  · have hw := hw.1 c_3
    refine lv_iconst (v := (-1)) hx hb dX4_line_19 (by decide) ?_
    exact w_iret hx hb hr hlocks hW hS ⟨rfl, hw⟩ dX4_line_20
  · have hw := hw.2 c_3
    refine lv_aload_n hx hb dX4_line_7 rfl (lv_at hl 0 rfl) ?_
    refine g_X4_10 hx hb hown hts hK hW HR.1 rfl dX4_line_8 ?_
    refine lv_iload_n hx hb dX4_line_11 rfl (lv_at hl 1 rfl) ?_
    refine lv_iload_n hx hb dX4_line_12 rfl (lv_at hl 2 rfl) ?_
    refine w_cvi (As := [.int p1, .int p2]) (rest := []) hx hb hml hown hts hK hW hS hl.1 (c_X0_numberOfLine hA HR.2.1 (fun _ _ => rfl)  hw) (k_X4_74 hts ⟨Nat.le_of_ble_eq_true rfl, Nat.le_of_ble_eq_true rfl⟩) (w_recv hK hW HR.2.1.1 rfl rfl rfl) rfl rfl (Nat.le_of_ble_eq_true rfl) dX4_line_13 ⟨Nat.zero_le _, Nat.zero_le _⟩ (fun r_4 Ez H locs hw2 hW hS => ?_)
    obtain ⟨ez, hw⟩ := hw2
    rw [ez] at hW
    refine lv_goto (tgt := 20) hx hb dX4_line_16 (by decide) ?_
    exact w_iret hx hb hr hlocks hW hS ⟨rfl, hw⟩ dX4_line_20
set_option maxHeartbeats 4000000 in
set_option maxRecDepth 100000 in
theorem c_X4_finder {l : Launch} {g : GG} {lay : LY} {E0 : ES} {o : Nat} {sv : Nat → Option Nat} {p1 : Int32} {p2 : Int32} {K : Int32 → Prop} (hA : okL g lay) (HR : RL4 g lay o sv) (hw : wp_X4_finder o E0 p1 p2 K) : JMi l g lay yX4_finder wsX4_finder rmX4_finder [.ref o, .int p1, .int p2] E0 (fun r E1 => E1 = E0 ∧ K r) := by
  refine Met.ofW (cc := cX4_finder) (maxL := 3) (ret := (some .int)) (by decide) rfl ?_
  intro p e s m args below meth c s₁ B hml hv
  obtain ⟨rfl, hK, hW⟩ := hv
  have hx := B.exec
  have hb := B.bytes
  have hr := B.returns
  have hts := gd_of (atoms_spec (ws := wsX4_finder) B.pre)
  have hown : s.vm.findClass RX4 = some m.cls := findClass_of_methodNamed B.named
  have hlocks := B.notSynchronized
  have hS : va_S (Ab g) s.heap s.heap [] := va_S.rf
  have hl := lv_entry [.ref o, .int p1, .int p2] (n := 3) (Nat.le_of_ble_eq_true rfl)
  rw [lg_entry_eq]
  generalize (lg_sl [.ref o, .int p1, .int p2] ++ List.replicate (3 - (lg_sl [.ref o, .int p1, .int p2]).length) Slot.unset).toArray = ls at hl ⊢
  have hl : lv_has ls 3 [(0, .ref o), (1, .int p1), (2, .int p2)] := hl
  unfold wp_X4_finder at hw
  refine lv_iload_n hx hb dX4_finder_0 rfl (lv_at hl 1 rfl) ?_
  refine lv_iconst (v := 0) hx hb dX4_finder_1 (by decide) ?_
  refine lv_aload_n hx hb dX4_finder_2 rfl (lv_at hl 0 rfl) ?_
  refine g_X4_10 hx hb hown hts hK hW HR.1 rfl dX4_finder_3 ?_
  refine g_X4_34 hx hb hown hts hK hW HR.2.1.1 rfl dX4_finder_6 ?_
  refine lv_iconst (v := 1) hx hb dX4_finder_9 (by decide) ?_
  refine lv_isub hx hb dX4_finder_10 ?_
  refine w_csi (As := [.int p1, .int 0, .int (((E0 (o + 1)) 5) - 1)]) (rest := []) hx hb hml hown hts hK hW hS hl.1 (c_X4_isWithin hw) (k_X4_30 hts ⟨Nat.le_of_ble_eq_true rfl, Nat.le_of_ble_eq_true rfl⟩) rfl rfl (Nat.le_of_ble_eq_true rfl) dX4_finder_11 ⟨Nat.zero_le _, Nat.zero_le _⟩ (fun r_1 Ez H locs hw2 hW hS => ?_)
  obtain ⟨ez, z_2, hw⟩ := hw2
  rw [ez] at hW
  refine lv_if_eq (tgt := 32) hx hb dX4_finder_14 (by decide) (fun c_3 => ?_) (fun c_3 => ?_)
  · have hw := hw.1 c_3
    refine lv_iconst (v := (-1)) hx hb dX4_finder_32 (by decide) ?_
    exact w_iret hx hb hr hlocks hW hS ⟨rfl, hw⟩ dX4_finder_33
  · have hw := hw.2 c_3
    refine lv_aload_n hx hb dX4_finder_17 rfl (lv_at hl 0 rfl) ?_
    refine g_X4_10 hx hb hown hts hK hW HR.1 rfl dX4_finder_18 ?_
    refine lv_iload_n hx hb dX4_finder_21 rfl (lv_at hl 1 rfl) ?_
    refine w_cvr (As := [.int p1]) (rest := []) hx hb hml hown hts hK hW hS hl.1 (c_X0_finderAt hA HR.2.1 p1) (k_X4_77 hts ⟨Nat.le_of_ble_eq_true rfl, Nat.le_of_ble_eq_true rfl⟩) (w_recv hK hW HR.2.1.1 rfl rfl rfl) rfl rfl (Nat.le_of_ble_eq_true rfl) dX4_finder_22 ⟨Nat.zero_le _, Nat.zero_le _⟩ (fun q_4 Ez H locs hw2 hW hS => ?_)
    obtain ⟨ez, rfl⟩ := hw2
    rw [ez] at hW
    refine lv_iload_n hx hb dX4_finder_25 rfl (lv_at hl 2 rfl) ?_
    refine w_cvi (As := [.int p2]) (rest := []) hx hb hml hown hts hK hW hS hl.1 (c_X1_numberFor hA (HR.2.1.2.2.2.2.2 _ (isFi_fix p1)) rfl hw) (k_X4_81 hts ⟨Nat.le_of_ble_eq_true rfl, Nat.le_of_ble_eq_true rfl⟩) (w_recv hK hW (HR.2.1.2.2.2.2.2 _ (isFi_fix p1)) rfl rfl rfl) rfl rfl (Nat.le_of_ble_eq_true rfl) dX4_finder_26 ⟨Nat.zero_le _, Nat.zero_le _⟩ (fun r_5 Ez H locs hw2 hW hS => ?_)
    obtain ⟨ez, hw⟩ := hw2
    rw [ez] at hW
    refine lv_goto (tgt := 33) hx hb dX4_finder_29 (by decide) ?_
    exact w_iret hx hb hr hlocks hW hS ⟨rfl, hw⟩ dX4_finder_33
set_option maxHeartbeats 4000000 in
set_option maxRecDepth 100000 in
theorem c_X4_connector {l : Launch} {g : GG} {lay : LY} {E0 : ES} {o : Nat} {sv : Nat → Option Nat} {p1 : Int32} {p2 : Int32} {K : Int32 → Prop} (hA : okL g lay) (HR : RL4 g lay o sv) (hw : wp_X4_connector o E0 p1 p2 K) : JMi l g lay yX4_connector wsX4_connector rmX4_connector [.ref o, .int p1, .int p2] E0 (fun r E1 => E1 = E0 ∧ K r) := by
  refine Met.ofW (cc := cX4_connector) (maxL := 3) (ret := (some .int)) (by decide) rfl ?_
  intro p e s m args below meth c s₁ B hml hv
  obtain ⟨rfl, hK, hW⟩ := hv
  have hx := B.exec
  have hb := B.bytes
  have hr := B.returns
  have hts := gd_of (atoms_spec (ws := wsX4_connector) B.pre)
  have hown : s.vm.findClass RX4 = some m.cls := findClass_of_methodNamed B.named
  have hlocks := B.notSynchronized
  have hS : va_S (Ab g) s.heap s.heap [] := va_S.rf
  have hl := lv_entry [.ref o, .int p1, .int p2] (n := 3) (Nat.le_of_ble_eq_true rfl)
  rw [lg_entry_eq]
  generalize (lg_sl [.ref o, .int p1, .int p2] ++ List.replicate (3 - (lg_sl [.ref o, .int p1, .int p2]).length) Slot.unset).toArray = ls at hl ⊢
  have hl : lv_has ls 3 [(0, .ref o), (1, .int p1), (2, .int p2)] := hl
  unfold wp_X4_connector at hw
  refine lv_iload_n hx hb dX4_connector_0 rfl (lv_at hl 1 rfl) ?_
  refine lv_iconst (v := 1) hx hb dX4_connector_1 (by decide) ?_
  refine lv_iconst (v := 4) hx hb dX4_connector_2 (by decide) ?_
  refine w_csi (As := [.int p1, .int 1, .int 4]) (rest := []) hx hb hml hown hts hK hW hS hl.1 (c_X4_isWithin hw) (k_X4_30 hts ⟨Nat.le_of_ble_eq_true rfl, Nat.le_of_ble_eq_true rfl⟩) rfl rfl (Nat.le_of_ble_eq_true rfl) dX4_connector_3 ⟨Nat.zero_le _, Nat.zero_le _⟩ (fun r_1 Ez H locs hw2 hW hS => ?_)
  obtain ⟨ez, z_2, hw⟩ := hw2
  rw [ez] at hW
  refine lv_if_eq (tgt := 26) hx hb dX4_connector_6 (by decide) (fun c_3 => ?_) (fun c_3 => ?_)
  · have hw := hw.1 c_3
    refine lv_iconst (v := (-1)) hx hb dX4_connector_26 (by decide) ?_
    exact w_iret hx hb hr hlocks hW hS ⟨rfl, hw⟩ dX4_connector_27
  · have hw := hw.2 c_3
    refine lv_iload_n hx hb dX4_connector_9 rfl (lv_at hl 2 rfl) ?_
    refine lv_iconst (v := 0) hx hb dX4_connector_10 (by decide) ?_
    refine lv_aload_n hx hb dX4_connector_11 rfl (lv_at hl 0 rfl) ?_
    refine g_X4_10 hx hb hown hts hK hW HR.1 rfl dX4_connector_12 ?_
    refine g_X4_86 hx hb hown hts hK hW HR.2.1.1 rfl dX4_connector_15 ?_
    refine lv_iconst (v := 1) hx hb dX4_connector_18 (by decide) ?_
    refine lv_isub hx hb dX4_connector_19 ?_
    refine w_csi (As := [.int p2, .int 0, .int (((E0 (o + 1)) 6) - 1)]) (rest := []) hx hb hml hown hts hK hW hS hl.1 (c_X4_isWithin hw) (k_X4_30 hts ⟨Nat.le_of_ble_eq_true rfl, Nat.le_of_ble_eq_true rfl⟩) rfl rfl (Nat.le_of_ble_eq_true rfl) dX4_connector_20 ⟨Nat.zero_le _, Nat.zero_le _⟩ (fun r_4 Ez H locs hw2 hW hS => ?_)
    obtain ⟨ez, z_5, hw⟩ := hw2
    rw [ez] at hW
    refine lv_if_ne (tgt := 28) hx hb dX4_connector_23 (by decide) (fun c_6 => ?_) (fun c_6 => ?_)
    · have hw := hw.2 c_6
      refine lv_aload_n hx hb dX4_connector_28 rfl (lv_at hl 0 rfl) ?_
      refine g_X4_10 hx hb hown hts hK hW HR.1 rfl dX4_connector_29 ?_
      refine lv_iload_n hx hb dX4_connector_32 rfl (lv_at hl 1 rfl) ?_
      refine lv_iload_n hx hb dX4_connector_33 rfl (lv_at hl 2 rfl) ?_
      refine w_cvi (As := [.int p1, .int p2]) (rest := []) hx hb hml hown hts hK hW hS hl.1 (c_X0_holderOf hA HR.2.1 (fun _ _ => rfl)  hw) (k_X4_89 hts ⟨Nat.le_of_ble_eq_true rfl, Nat.le_of_ble_eq_true rfl⟩) (w_recv hK hW HR.2.1.1 rfl rfl rfl) rfl rfl (Nat.le_of_ble_eq_true rfl) dX4_connector_34 ⟨Nat.zero_le _, Nat.zero_le _⟩ (fun r_7 Ez H locs hw2 hW hS => ?_)
      obtain ⟨ez, hw⟩ := hw2
      rw [ez] at hW
      exact w_iret hx hb hr hlocks hW hS ⟨rfl, hw⟩ dX4_connector_37
    · have hw := hw.1 c_6
      refine lv_iconst (v := (-1)) hx hb dX4_connector_26 (by decide) ?_
      exact w_iret hx hb hr hlocks hW hS ⟨rfl, hw⟩ dX4_connector_27
set_option maxHeartbeats 4000000 in
set_option maxRecDepth 100000 in
theorem c_X4_count {l : Launch} {g : GG} {lay : LY} {E0 : ES} {o : Nat} {sv : Nat → Option Nat} {p1 : Int32} {K : Int32 → Prop} (hA : okL g lay) (HR : RL4 g lay o sv) (hw : wp_X4_count o E0 p1 K) : JMi l g lay yX4_count wsX4_count rmX4_count [.ref o, .int p1] E0 (fun r E1 => E1 = E0 ∧ K r) := by
  refine Met.ofW (cc := cX4_count) (maxL := 2) (ret := (some .int)) (by decide) rfl ?_
  intro p e s m args below meth c s₁ B hml hv
  obtain ⟨rfl, hK, hW⟩ := hv
  have hx := B.exec
  have hb := B.bytes
  have hr := B.returns
  have hts := gd_of (atoms_spec (ws := wsX4_count) B.pre)
  have hown : s.vm.findClass RX4 = some m.cls := findClass_of_methodNamed B.named
  have hlocks := B.notSynchronized
  have hS : va_S (Ab g) s.heap s.heap [] := va_S.rf
  have hl := lv_entry [.ref o, .int p1] (n := 2) (Nat.le_of_ble_eq_true rfl)
  rw [lg_entry_eq]
  generalize (lg_sl [.ref o, .int p1] ++ List.replicate (2 - (lg_sl [.ref o, .int p1]).length) Slot.unset).toArray = ls at hl ⊢
  have hl : lv_has ls 2 [(0, .ref o), (1, .int p1)] := hl
  unfold wp_X4_count at hw
  refine lv_iload_n hx hb dX4_count_0 rfl (lv_at hl 1 rfl) ?_
  refine lv_bipush (v := 14) hx hb dX4_count_1 (by decide) ?_
  refine lv_icmp_ne (tgt := 16) hx hb dX4_count_3 (by decide) (fun c_1 => ?_) (fun c_1 => ?_)
  · have hw := hw.2 c_1
    refine lv_aload_n hx hb dX4_count_16 rfl (lv_at hl 0 rfl) ?_
    refine g_X4_10 hx hb hown hts hK hW HR.1 rfl dX4_count_17 ?_
    refine lv_iload_n hx hb dX4_count_20 rfl (lv_at hl 1 rfl) ?_
    refine w_cvi (As := [.int p1]) (rest := []) hx hb hml hown hts hK hW hS hl.1 (c_X0_numberFor hA HR.2.1 (fun _ _ => rfl)  hw) (k_X4_95 hts ⟨Nat.le_of_ble_eq_true rfl, Nat.le_of_ble_eq_true rfl⟩) (w_recv hK hW HR.2.1.1 rfl rfl rfl) rfl rfl (Nat.le_of_ble_eq_true rfl) dX4_count_21 ⟨Nat.zero_le _, Nat.zero_le _⟩ (fun r_2 Ez H locs hw2 hW hS => ?_)
    obtain ⟨ez, hw⟩ := hw2
    rw [ez] at hW
    exact w_iret hx hb hr hlocks hW hS ⟨rfl, hw⟩ dX4_count_24
  · have hw := hw.1 c_1
    refine lv_aload_n hx hb dX4_count_6 rfl (lv_at hl 0 rfl) ?_
    refine g_X4_26 hx hb hown hts hK hW HR.1 rfl dX4_count_7 ?_
    refine g_X4_92 hx hb hown hts hK hW HR.2.2.2.2.1 rfl dX4_count_10 ?_
    refine lv_goto (tgt := 24) hx hb dX4_count_13 (by decide) ?_
    exact w_iret hx hb hr hlocks hW hS ⟨rfl, hw⟩ dX4_count_24
set_option maxHeartbeats 4000000 in
set_option maxRecDepth 100000 in
theorem c_X4_trace {l : Launch} {g : GG} {lay : LY} {E0 : ES} {o : Nat} {sv : Nat → Option Nat} {p1 : Int32} {p2 : Int32} {K : Int32 → Prop} (hA : okL g lay) (HR : RL4 g lay o sv) (hw : wp_X4_trace o E0 p1 p2 K) : JMi l g lay yX4_trace wsX4_trace rmX4_trace [.ref o, .int p1, .int p2] E0 (fun r E1 => E1 = E0 ∧ K r) := by
  refine Met.ofW (cc := cX4_trace) (maxL := 3) (ret := (some .int)) (by decide) rfl ?_
  intro p e s m args below meth c s₁ B hml hv
  obtain ⟨rfl, hK, hW⟩ := hv
  have hx := B.exec
  have hb := B.bytes
  have hr := B.returns
  have hts := gd_of (atoms_spec (ws := wsX4_trace) B.pre)
  have hown : s.vm.findClass RX4 = some m.cls := findClass_of_methodNamed B.named
  have hlocks := B.notSynchronized
  have hS : va_S (Ab g) s.heap s.heap [] := va_S.rf
  have hl := lv_entry [.ref o, .int p1, .int p2] (n := 3) (Nat.le_of_ble_eq_true rfl)
  rw [lg_entry_eq]
  generalize (lg_sl [.ref o, .int p1, .int p2] ++ List.replicate (3 - (lg_sl [.ref o, .int p1, .int p2]).length) Slot.unset).toArray = ls at hl ⊢
  have hl : lv_has ls 3 [(0, .ref o), (1, .int p1), (2, .int p2)] := hl
  unfold wp_X4_trace at hw
  refine lv_iload_n hx hb dX4_trace_0 rfl (lv_at hl 1 rfl) ?_
  refine w_csi (As := [.int p1]) (rest := []) hx hb hml hown hts hK hW hS hl.1 (c_X4_isLine hw) (k_X4_50 hts ⟨Nat.le_of_ble_eq_true rfl, Nat.le_of_ble_eq_true rfl⟩) rfl rfl (Nat.le_of_ble_eq_true rfl) dX4_trace_1 ⟨Nat.zero_le _, Nat.zero_le _⟩ (fun r_1 Ez H locs hw2 hW hS => ?_)
  obtain ⟨ez, z_2, hw⟩ := hw2
  rw [ez] at hW
  refine lv_if_ne (tgt := 9) hx hb dX4_trace_4 (by decide) (fun c_3 => ?_) (fun c_3 => ?_)
  · have hw := hw.2 c_3
    refine lv_iload_n hx hb dX4_trace_9 rfl (lv_at hl 2 rfl) ?_
    refine lv_iconst (v := 0) hx hb dX4_trace_10 (by decide) ?_
    refine lv_iconst (v := 2) hx hb dX4_trace_11 (by decide) ?_
    refine w_csi (As := [.int p2, .int 0, .int 2]) (rest := []) hx hb hml hown hts hK hW hS hl.1 (c_X4_isWithin hw) (k_X4_30 hts ⟨Nat.le_of_ble_eq_true rfl, Nat.le_of_ble_eq_true rfl⟩) rfl rfl (Nat.le_of_ble_eq_true rfl) dX4_trace_12 ⟨Nat.zero_le _, Nat.zero_le _⟩ (fun r_4 Ez H locs hw2 hW hS => ?_)
    obtain ⟨ez, z_5, hw⟩ := hw2
    rw [ez] at hW
    refine lv_if_ne (tgt := 21) hx hb dX4_trace_15 (by decide) (fun c_6 => ?_) (fun c_6 => ?_)
    · have hw := hw.2 c_6
      refine lv_aload_n hx hb dX4_trace_21 rfl (lv_at hl 0 rfl) ?_
      refine g_X4_10 hx hb hown hts hK hW HR.1 rfl dX4_trace_22 ?_
      refine lv_iload_n hx hb dX4_trace_25 rfl (lv_at hl 1 rfl) ?_
      refine lv_iload_n hx hb dX4_trace_26 rfl (lv_at hl 2 rfl) ?_
      refine w_cvi (As := [.int p1, .int p2]) (rest := []) hx hb hml hown hts hK hW hS hl.1 (c_X0_traceFrom hA HR.2.1 (fun _ _ => rfl)  hw) (k_X4_96 hts ⟨Nat.le_of_ble_eq_true rfl, Nat.le_of_ble_eq_true rfl⟩) (w_recv hK hW HR.2.1.1 rfl rfl rfl) rfl rfl (Nat.le_of_ble_eq_true rfl) dX4_trace_27 ⟨Nat.zero_le _, Nat.zero_le _⟩ (fun r_7 Ez H locs hw2 hW hS => ?_)
      obtain ⟨ez, hw⟩ := hw2
      rw [ez] at hW
      exact w_iret hx hb hr hlocks hW hS ⟨rfl, hw⟩ dX4_trace_30
    · have hw := hw.1 c_6
      refine lv_bipush (v := (-2)) hx hb dX4_trace_18 (by decide) ?_
      exact w_iret hx hb hr hlocks hW hS ⟨rfl, hw⟩ dX4_trace_20
  · have hw := hw.1 c_3
    refine lv_iconst (v := (-1)) hx hb dX4_trace_7 (by decide) ?_
    exact w_iret hx hb hr hlocks hW hS ⟨rfl, hw⟩ dX4_trace_8
set_option maxHeartbeats 4000000 in
set_option maxRecDepth 100000 in
theorem c_X4_until {l : Launch} {g : GG} {lay : LY} {E0 : ES} {o : Nat} {sv : Nat → Option Nat} {p1 : Int32} {p2 : Int32} {p3 : Int32} {K : Int32 → ES → Prop} (hA : okL g lay) (HR : RL4 g lay o sv) (hw : wp_X4_until o E0 p1 p2 p3 K) : JMi l g lay yX4_until wsX4_until rmX4_until [.ref o, .int p1, .int p2, .int p3] E0 (fun r E1 => K r E1) := by
  refine Met.ofW (cc := cX4_until) (maxL := 4) (ret := (some .int)) (by decide) rfl ?_
  intro p e s m args below meth c s₁ B hml hv
  obtain ⟨rfl, hK, hW⟩ := hv
  have hx := B.exec
  have hb := B.bytes
  have hr := B.returns
  have hts := gd_of (atoms_spec (ws := wsX4_until) B.pre)
  have hown : s.vm.findClass RX4 = some m.cls := findClass_of_methodNamed B.named
  have hlocks := B.notSynchronized
  have hS : va_S (Ab g) s.heap s.heap [] := va_S.rf
  have hl := lv_entry [.ref o, .int p1, .int p2, .int p3] (n := 4) (Nat.le_of_ble_eq_true rfl)
  rw [lg_entry_eq]
  generalize (lg_sl [.ref o, .int p1, .int p2, .int p3] ++ List.replicate (4 - (lg_sl [.ref o, .int p1, .int p2, .int p3]).length) Slot.unset).toArray = ls at hl ⊢
  have hl : lv_has ls 4 [(0, .ref o), (1, .int p1), (2, .int p2), (3, .int p3)] := hl
  unfold wp_X4_until at hw
  refine lv_iload_n hx hb dX4_until_0 rfl (lv_at hl 1 rfl) ?_
  refine w_csi (As := [.int p1]) (rest := []) hx hb hml hown hts hK hW hS hl.1 (c_X4_isLine hw) (k_X4_50 hts ⟨Nat.le_of_ble_eq_true rfl, Nat.le_of_ble_eq_true rfl⟩) rfl rfl (Nat.le_of_ble_eq_true rfl) dX4_until_1 ⟨Nat.zero_le _, Nat.zero_le _⟩ (fun r_1 Ez H locs hw2 hW hS => ?_)
  obtain ⟨ez, z_2, hw⟩ := hw2
  rw [ez] at hW
  refine lv_if_ne (tgt := 9) hx hb dX4_until_4 (by decide) (fun c_3 => ?_) (fun c_3 => ?_)
  · have hw := hw.2 c_3
    refine lv_iload_n hx hb dX4_until_9 rfl (lv_at hl 2 rfl) ?_
    refine lv_iconst (v := 0) hx hb dX4_until_10 (by decide) ?_
    refine lv_bipush (v := 11) hx hb dX4_until_11 (by decide) ?_
    refine w_csi (As := [.int p2, .int 0, .int 11]) (rest := []) hx hb hml hown hts hK hW hS hl.1 (c_X4_isWithin hw) (k_X4_30 hts ⟨Nat.le_of_ble_eq_true rfl, Nat.le_of_ble_eq_true rfl⟩) rfl rfl (Nat.le_of_ble_eq_true rfl) dX4_until_13 ⟨Nat.zero_le _, Nat.zero_le _⟩ (fun r_4 Ez H locs hw2 hW hS => ?_)
    obtain ⟨ez, z_5, hw⟩ := hw2
    rw [ez] at hW
    refine lv_if_eq (tgt := 30) hx hb dX4_until_16 (by decide) (fun c_6 => ?_) (fun c_6 => ?_)
    · have hw := hw.1 c_6
      refine lv_bipush (v := (-2)) hx hb dX4_until_30 (by decide) ?_
      exact w_iret hx hb hr hlocks hW hS hw dX4_until_32
    · have hw := hw.2 c_6
      refine lv_iload_n hx hb dX4_until_19 rfl (lv_at hl 3 rfl) ?_
      refine lv_iconst (v := 0) hx hb dX4_until_20 (by decide) ?_
      refine lv_sipush (v := 1000) hx hb dX4_until_21 (by decide) ?_
      refine w_csi (As := [.int p3, .int 0, .int 1000]) (rest := []) hx hb hml hown hts hK hW hS hl.1 (c_X4_isWithin hw) (k_X4_30 hts ⟨Nat.le_of_ble_eq_true rfl, Nat.le_of_ble_eq_true rfl⟩) rfl rfl (Nat.le_of_ble_eq_true rfl) dX4_until_24 ⟨Nat.zero_le _, Nat.zero_le _⟩ (fun r_7 Ez H locs hw2 hW hS => ?_)
      obtain ⟨ez, z_8, hw⟩ := hw2
      rw [ez] at hW
      refine lv_if_ne (tgt := 33) hx hb dX4_until_27 (by decide) (fun c_9 => ?_) (fun c_9 => ?_)
      · have hw := hw.2 c_9
        refine lv_aload_n hx hb dX4_until_33 rfl (lv_at hl 0 rfl) ?_
        refine g_X4_16 hx hb hown hts hK hW HR.1 rfl dX4_until_34 ?_
        refine lv_aload_n hx hb dX4_until_37 rfl (lv_at hl 0 rfl) ?_
        refine g_X4_10 hx hb hown hts hK hW HR.1 rfl dX4_until_38 ?_
        refine w_cvv (As := [.ref (o + 1)]) (rest := []) hx hb hml hown hts hK hW hS hl.1 (c_X0_copyFrom hA HR.2.2.1 HR.2.1 (fun _ _ => rfl) (fun _ _ => rfl) (by omega) hw) (k_X4_99 hts ⟨Nat.le_of_ble_eq_true rfl, Nat.le_of_ble_eq_true rfl⟩) (w_recv hK hW HR.2.2.1.1 rfl rfl rfl) rfl rfl (Nat.le_of_ble_eq_true rfl) dX4_until_41 ⟨Nat.zero_le _, Nat.zero_le _⟩ (fun Ez H locs hw2 hW hS => ?_)
        obtain ⟨Y_10, ez, hw⟩ := hw2
        rw [ez] at hW
        obtain ⟨X_11, eX_11⟩ : ∃ z : ES, z = put 26 (o + 27) Y_10 E0 := ⟨_, rfl⟩
        have hw := hw X_11 eX_11
        rw [← eX_11] at hW
        refine lv_aload_n hx hb dX4_until_44 rfl (lv_at hl 0 rfl) ?_
        refine g_X4_16 hx hb hown hts hK hW HR.1 rfl dX4_until_45 ?_
        refine lv_iload_n hx hb dX4_until_48 rfl (lv_at hl 1 rfl) ?_
        refine lv_iload_n hx hb dX4_until_49 rfl (lv_at hl 2 rfl) ?_
        refine lv_iload_n hx hb dX4_until_50 rfl (lv_at hl 3 rfl) ?_
        refine w_cvi (As := [.int p1, .int p2, .int p3]) (rest := []) hx hb hml hown hts hK hW hS hl.1 (c_X0_ticksUntil hA HR.2.2.1 (fun _ _ => rfl)  hw) (k_X4_103 hts ⟨Nat.le_of_ble_eq_true rfl, Nat.le_of_ble_eq_true rfl⟩) (w_recv hK hW HR.2.2.1.1 rfl rfl rfl) rfl rfl (Nat.le_of_ble_eq_true rfl) dX4_until_51 ⟨Nat.zero_le _, Nat.zero_le _⟩ (fun r_12 Ez H locs hw2 hW hS => ?_)
        obtain ⟨Y_13, ez, hw⟩ := hw2
        rw [ez] at hW
        obtain ⟨X_14, eX_14⟩ : ∃ z : ES, z = put 26 (o + 27) Y_13 X_11 := ⟨_, rfl⟩
        have hw := hw X_14 eX_14
        rw [← eX_14] at hW
        exact w_iret hx hb hr hlocks hW hS hw dX4_until_54
      · have hw := hw.1 c_9
        refine lv_bipush (v := (-2)) hx hb dX4_until_30 (by decide) ?_
        exact w_iret hx hb hr hlocks hW hS hw dX4_until_32
  · have hw := hw.1 c_3
    refine lv_iconst (v := (-1)) hx hb dX4_until_7 (by decide) ?_
    exact w_iret hx hb hr hlocks hW hS hw dX4_until_8
