set_option maxHeartbeats 4000000 in
set_option maxRecDepth 100000 in
theorem c_X4_setUp {l : Launch} {g : GG} {lay : LY} {E0 : ES} {o : Nat} {sv : Nat → Option Nat} {p1 : Int32} {p2 : Int32} {K : Int32 → ES → Prop} (hA : okL g lay) (HR : RL4 g lay o sv) (hw : wp_X4_setUp o E0 p1 p2 K) : JMi l g lay yX4_setUp wsX4_setUp rmX4_setUp [.ref o, .int p1, .int p2] E0 (fun r E1 => K r E1) := by
  refine Met.ofW (cc := cX4_setUp) (maxL := 4) (ret := (some .int)) (by decide) rfl ?_
  intro p e s m args below meth c s₁ B hml hv
  obtain ⟨rfl, hK, hW⟩ := hv
  have hx := B.exec
  have hb := B.bytes
  have hr := B.returns
  have hts := gd_of (atoms_spec (ws := wsX4_setUp) B.pre)
  have hown : s.vm.findClass RX4 = some m.cls := findClass_of_methodNamed B.named
  have hlocks := B.notSynchronized
  have hS : va_S (Ab g) s.heap s.heap [] := va_S.rf
  have hl := lv_entry [.ref o, .int p1, .int p2] (n := 4) (Nat.le_of_ble_eq_true rfl)
  rw [lg_entry_eq]
  generalize (lg_sl [.ref o, .int p1, .int p2] ++ List.replicate (4 - (lg_sl [.ref o, .int p1, .int p2]).length) Slot.unset).toArray = ls at hl ⊢
  have hl : lv_has ls 4 [(0, .ref o), (1, .int p1), (2, .int p2)] := hl
  unfold wp_X4_setUp at hw
  refine lv_iload_n hx hb dX4_setUp_0 rfl (lv_at hl 1 rfl) ?_
  refine lv_iconst (v := 1) hx hb dX4_setUp_1 (by decide) ?_
  refine lv_iconst (v := 4) hx hb dX4_setUp_2 (by decide) ?_
  refine w_csi (As := [.int p1, .int 1, .int 4]) (rest := []) hx hb hml hown hts hK hW hS hl.1 (c_X4_isWithin hw) (k_X4_30 hts ⟨Nat.le_of_ble_eq_true rfl, Nat.le_of_ble_eq_true rfl⟩) rfl rfl (Nat.le_of_ble_eq_true rfl) dX4_setUp_3 ⟨Nat.zero_le _, Nat.zero_le _⟩ (fun r_1 Ez H locs hw2 hW hS => ?_)
  obtain ⟨ez, z_2, hw⟩ := hw2
  rw [ez] at hW
  refine lv_if_eq (tgt := 18) hx hb dX4_setUp_6 (by decide) (fun c_3 => ?_) (fun c_3 => ?_)
  · have hw := hw.1 c_3
    refine lv_bipush (v := (-2)) hx hb dX4_setUp_18 (by decide) ?_
    exact w_iret hx hb hr hlocks hW hS hw dX4_setUp_20
  · have hw := hw.2 c_3
    refine lv_iload_n hx hb dX4_setUp_9 rfl (lv_at hl 2 rfl) ?_
    refine lv_iconst (v := 1) hx hb dX4_setUp_10 (by decide) ?_
    refine lv_iconst (v := 3) hx hb dX4_setUp_11 (by decide) ?_
    refine w_csi (As := [.int p2, .int 1, .int 3]) (rest := []) hx hb hml hown hts hK hW hS hl.1 (c_X4_isWithin hw) (k_X4_30 hts ⟨Nat.le_of_ble_eq_true rfl, Nat.le_of_ble_eq_true rfl⟩) rfl rfl (Nat.le_of_ble_eq_true rfl) dX4_setUp_12 ⟨Nat.zero_le _, Nat.zero_le _⟩ (fun r_4 Ez H locs hw2 hW hS => ?_)
    obtain ⟨ez, z_5, hw⟩ := hw2
    rw [ez] at hW
    refine lv_if_ne (tgt := 21) hx hb dX4_setUp_15 (by decide) (fun c_6 => ?_) (fun c_6 => ?_)
    · have hw := hw.2 c_6
      refine lv_aload_n hx hb dX4_setUp_21 rfl (lv_at hl 0 rfl) ?_
      refine g_X4_10 hx hb hown hts hK hW HR.1 rfl dX4_setUp_22 ?_
      refine g_X4_34 hx hb hown hts hK hW HR.2.1.1 rfl dX4_setUp_25 ?_
      refine lv_topi (fun v_7 ev_7 => ?_)
      have hw := hw v_7 ev_7
      refine lv_istore_n (lv' := [(3, .int v_7), (0, .ref o), (1, .int p1), (2, .int p2)]) hx hb dX4_setUp_28 rfl hl (by decide) rfl (fun ls hl => ?_)
      refine lv_aload_n hx hb dX4_setUp_29 rfl (lv_at hl 1 rfl) ?_
      refine g_X4_10 hx hb hown hts hK hW HR.1 rfl dX4_setUp_30 ?_
      refine lv_iload_n hx hb dX4_setUp_33 rfl (lv_at hl 2 rfl) ?_
      refine lv_iload_n hx hb dX4_setUp_34 rfl (lv_at hl 3 rfl) ?_
      refine w_cvv (As := [.int p1, .int p2]) (rest := []) hx hb hml hown hts hK hW hS hl.1 (c_X0_renew hA HR.2.1 (fun _ _ => rfl)  hw) (k_X4_38 hts ⟨Nat.le_of_ble_eq_true rfl, Nat.le_of_ble_eq_true rfl⟩) (w_recv hK hW HR.2.1.1 rfl rfl rfl) rfl rfl (Nat.le_of_ble_eq_true rfl) dX4_setUp_35 ⟨Nat.zero_le _, Nat.zero_le _⟩ (fun Ez H locs hw2 hW hS => ?_)
      obtain ⟨Y_8, ez, hw⟩ := hw2
      rw [ez] at hW
      obtain ⟨X_9, eX_9⟩ : ∃ z : ES, z = put 26 (o + 1) Y_8 E0 := ⟨_, rfl⟩
      have hw := hw X_9 eX_9
      rw [← eX_9] at hW
      refine lv_iload_n hx hb dX4_setUp_38 rfl (lv_at hl 0 rfl) ?_
      exact w_iret hx hb hr hlocks hW hS hw dX4_setUp_39
    · have hw := hw.1 c_6
      refine lv_bipush (v := (-2)) hx hb dX4_setUp_18 (by decide) ?_
      exact w_iret hx hb hr hlocks hW hS hw dX4_setUp_20
set_option maxHeartbeats 4000000 in
set_option maxRecDepth 100000 in
theorem c_X4_lift {l : Launch} {g : GG} {lay : LY} {E0 : ES} {o : Nat} {sv : Nat → Option Nat} {p1 : Int32} {K : Int32 → ES → Prop} (hA : okL g lay) (HR : RL4 g lay o sv) (hw : wp_X4_lift o E0 p1 K) : JMi l g lay yX4_lift wsX4_lift rmX4_lift [.ref o, .int p1] E0 (fun r E1 => K r E1) := by
  refine Met.ofW (cc := cX4_lift) (maxL := 2) (ret := (some .int)) (by decide) rfl ?_
  intro p e s m args below meth c s₁ B hml hv
  obtain ⟨rfl, hK, hW⟩ := hv
  have hx := B.exec
  have hb := B.bytes
  have hr := B.returns
  have hts := gd_of (atoms_spec (ws := wsX4_lift) B.pre)
  have hown : s.vm.findClass RX4 = some m.cls := findClass_of_methodNamed B.named
  have hlocks := B.notSynchronized
  have hS : va_S (Ab g) s.heap s.heap [] := va_S.rf
  have hl := lv_entry [.ref o, .int p1] (n := 2) (Nat.le_of_ble_eq_true rfl)
  rw [lg_entry_eq]
  generalize (lg_sl [.ref o, .int p1] ++ List.replicate (2 - (lg_sl [.ref o, .int p1]).length) Slot.unset).toArray = ls at hl ⊢
  have hl : lv_has ls 2 [(0, .ref o), (1, .int p1)] := hl
  unfold wp_X4_lift at hw
  refine lv_iload_n hx hb dX4_lift_0 rfl (lv_at hl 1 rfl) ?_
  refine w_csi (As := [.int p1]) (rest := []) hx hb hml hown hts hK hW hS hl.1 (c_X4_isLine hw) (k_X4_50 hts ⟨Nat.le_of_ble_eq_true rfl, Nat.le_of_ble_eq_true rfl⟩) rfl rfl (Nat.le_of_ble_eq_true rfl) dX4_lift_1 ⟨Nat.zero_le _, Nat.zero_le _⟩ (fun r_1 Ez H locs hw2 hW hS => ?_)
  obtain ⟨ez, z_2, hw⟩ := hw2
  rw [ez] at hW
  refine lv_if_eq (tgt := 18) hx hb dX4_lift_4 (by decide) (fun c_3 => ?_) (fun c_3 => ?_)
  · have hw := hw.1 c_3
    refine lv_iconst (v := (-1)) hx hb dX4_lift_18 (by decide) ?_
    exact w_iret hx hb hr hlocks hW hS hw dX4_lift_19
  · have hw := hw.2 c_3
    refine lv_aload_n hx hb dX4_lift_7 rfl (lv_at hl 0 rfl) ?_
    refine g_X4_10 hx hb hown hts hK hW HR.1 rfl dX4_lift_8 ?_
    refine lv_iload_n hx hb dX4_lift_11 rfl (lv_at hl 1 rfl) ?_
    refine w_cvi (As := [.int p1]) (rest := []) hx hb hml hown hts hK hW hS hl.1 (c_X0_liftLine hA HR.2.1 (fun _ _ => rfl)  hw) (k_X4_54 hts ⟨Nat.le_of_ble_eq_true rfl, Nat.le_of_ble_eq_true rfl⟩) (w_recv hK hW HR.2.1.1 rfl rfl rfl) rfl rfl (Nat.le_of_ble_eq_true rfl) dX4_lift_12 ⟨Nat.zero_le _, Nat.zero_le _⟩ (fun r_4 Ez H locs hw2 hW hS => ?_)
    obtain ⟨Y_5, ez, hw⟩ := hw2
    rw [ez] at hW
    obtain ⟨X_6, eX_6⟩ : ∃ z : ES, z = put 26 (o + 1) Y_5 E0 := ⟨_, rfl⟩
    have hw := hw X_6 eX_6
    rw [← eX_6] at hW
    refine lv_goto (tgt := 19) hx hb dX4_lift_15 (by decide) ?_
    exact w_iret hx hb hr hlocks hW hS hw dX4_lift_19
set_option maxHeartbeats 4000000 in
set_option maxRecDepth 100000 in
theorem c_X4_hang {l : Launch} {g : GG} {lay : LY} {E0 : ES} {o : Nat} {sv : Nat → Option Nat} {p1 : Int32} {K : Int32 → ES → Prop} (hA : okL g lay) (HR : RL4 g lay o sv) (hw : wp_X4_hang o E0 p1 K) : JMi l g lay yX4_hang wsX4_hang rmX4_hang [.ref o, .int p1] E0 (fun r E1 => K r E1) := by
  refine Met.ofW (cc := cX4_hang) (maxL := 2) (ret := (some .int)) (by decide) rfl ?_
  intro p e s m args below meth c s₁ B hml hv
  obtain ⟨rfl, hK, hW⟩ := hv
  have hx := B.exec
  have hb := B.bytes
  have hr := B.returns
  have hts := gd_of (atoms_spec (ws := wsX4_hang) B.pre)
  have hown : s.vm.findClass RX4 = some m.cls := findClass_of_methodNamed B.named
  have hlocks := B.notSynchronized
  have hS : va_S (Ab g) s.heap s.heap [] := va_S.rf
  have hl := lv_entry [.ref o, .int p1] (n := 2) (Nat.le_of_ble_eq_true rfl)
  rw [lg_entry_eq]
  generalize (lg_sl [.ref o, .int p1] ++ List.replicate (2 - (lg_sl [.ref o, .int p1]).length) Slot.unset).toArray = ls at hl ⊢
  have hl : lv_has ls 2 [(0, .ref o), (1, .int p1)] := hl
  unfold wp_X4_hang at hw
  refine lv_iload_n hx hb dX4_hang_0 rfl (lv_at hl 1 rfl) ?_
  refine w_csi (As := [.int p1]) (rest := []) hx hb hml hown hts hK hW hS hl.1 (c_X4_isLine hw) (k_X4_50 hts ⟨Nat.le_of_ble_eq_true rfl, Nat.le_of_ble_eq_true rfl⟩) rfl rfl (Nat.le_of_ble_eq_true rfl) dX4_hang_1 ⟨Nat.zero_le _, Nat.zero_le _⟩ (fun r_1 Ez H locs hw2 hW hS => ?_)
  obtain ⟨ez, z_2, hw⟩ := hw2
  rw [ez] at hW
  refine lv_if_eq (tgt := 18) hx hb dX4_hang_4 (by decide) (fun c_3 => ?_) (fun c_3 => ?_)
  · have hw := hw.1 c_3
    refine lv_iconst (v := (-1)) hx hb dX4_hang_18 (by decide) ?_
    exact w_iret hx hb hr hlocks hW hS hw dX4_hang_19
  · have hw := hw.2 c_3
    refine lv_aload_n hx hb dX4_hang_7 rfl (lv_at hl 0 rfl) ?_
    refine g_X4_10 hx hb hown hts hK hW HR.1 rfl dX4_hang_8 ?_
    refine lv_iload_n hx hb dX4_hang_11 rfl (lv_at hl 1 rfl) ?_
    refine w_cvi (As := [.int p1]) (rest := []) hx hb hml hown hts hK hW hS hl.1 (c_X0_hangLine hA HR.2.1 (fun _ _ => rfl)  hw) (k_X4_58 hts ⟨Nat.le_of_ble_eq_true rfl, Nat.le_of_ble_eq_true rfl⟩) (w_recv hK hW HR.2.1.1 rfl rfl rfl) rfl rfl (Nat.le_of_ble_eq_true rfl) dX4_hang_12 ⟨Nat.zero_le _, Nat.zero_le _⟩ (fun r_4 Ez H locs hw2 hW hS => ?_)
    obtain ⟨Y_5, ez, hw⟩ := hw2
    rw [ez] at hW
    obtain ⟨X_6, eX_6⟩ : ∃ z : ES, z = put 26 (o + 1) Y_5 E0 := ⟨_, rfl⟩
    have hw := hw X_6 eX_6
    rw [← eX_6] at hW
    refine lv_goto (tgt := 19) hx hb dX4_hang_15 (by decide) ?_
    exact w_iret hx hb hr hlocks hW hS hw dX4_hang_19
set_option maxHeartbeats 4000000 in
set_option maxRecDepth 100000 in
theorem c_X4_dial {l : Launch} {g : GG} {lay : LY} {E0 : ES} {o : Nat} {sv : Nat → Option Nat} {p1 : Int32} {p2 : Int32} {K : Int32 → ES → Prop} (hA : okL g lay) (HR : RL4 g lay o sv) (hw : wp_X4_dial o E0 p1 p2 K) : JMi l g lay yX4_dial wsX4_dial rmX4_dial [.ref o, .int p1, .int p2] E0 (fun r E1 => K r E1) := by
  refine Met.ofW (cc := cX4_dial) (maxL := 3) (ret := (some .int)) (by decide) rfl ?_
  intro p e s m args below meth c s₁ B hml hv
  obtain ⟨rfl, hK, hW⟩ := hv
  have hx := B.exec
  have hb := B.bytes
  have hr := B.returns
  have hts := gd_of (atoms_spec (ws := wsX4_dial) B.pre)
  have hown : s.vm.findClass RX4 = some m.cls := findClass_of_methodNamed B.named
  have hlocks := B.notSynchronized
  have hS : va_S (Ab g) s.heap s.heap [] := va_S.rf
  have hl := lv_entry [.ref o, .int p1, .int p2] (n := 3) (Nat.le_of_ble_eq_true rfl)
  rw [lg_entry_eq]
  generalize (lg_sl [.ref o, .int p1, .int p2] ++ List.replicate (3 - (lg_sl [.ref o, .int p1, .int p2]).length) Slot.unset).toArray = ls at hl ⊢
  have hl : lv_has ls 3 [(0, .ref o), (1, .int p1), (2, .int p2)] := hl
  unfold wp_X4_dial at hw
  refine lv_iload_n hx hb dX4_dial_0 rfl (lv_at hl 1 rfl) ?_
  refine w_csi (As := [.int p1]) (rest := []) hx hb hml hown hts hK hW hS hl.1 (c_X4_isLine hw) (k_X4_50 hts ⟨Nat.le_of_ble_eq_true rfl, Nat.le_of_ble_eq_true rfl⟩) rfl rfl (Nat.le_of_ble_eq_true rfl) dX4_dial_1 ⟨Nat.zero_le _, Nat.zero_le _⟩ (fun r_1 Ez H locs hw2 hW hS => ?_)
  obtain ⟨ez, z_2, hw⟩ := hw2
  rw [ez] at hW
  refine lv_if_ne (tgt := 9) hx hb dX4_dial_4 (by decide) (fun c_3 => ?_) (fun c_3 => ?_)
  · have hw := hw.2 c_3
    refine lv_iload_n hx hb dX4_dial_9 rfl (lv_at hl 2 rfl) ?_
    refine lv_iconst (v := 0) hx hb dX4_dial_10 (by decide) ?_
    refine lv_bipush (v := 9) hx hb dX4_dial_11 (by decide) ?_
    refine w_csi (As := [.int p2, .int 0, .int 9]) (rest := []) hx hb hml hown hts hK hW hS hl.1 (c_X4_isWithin hw) (k_X4_30 hts ⟨Nat.le_of_ble_eq_true rfl, Nat.le_of_ble_eq_true rfl⟩) rfl rfl (Nat.le_of_ble_eq_true rfl) dX4_dial_13 ⟨Nat.zero_le _, Nat.zero_le _⟩ (fun r_4 Ez H locs hw2 hW hS => ?_)
    obtain ⟨ez, z_5, hw⟩ := hw2
    rw [ez] at hW
    refine lv_if_eq (tgt := 31) hx hb dX4_dial_16 (by decide) (fun c_6 => ?_) (fun c_6 => ?_)
    · have hw := hw.1 c_6
      refine lv_bipush (v := (-2)) hx hb dX4_dial_31 (by decide) ?_
      exact w_iret hx hb hr hlocks hW hS hw dX4_dial_33
    · have hw := hw.2 c_6
      refine lv_aload_n hx hb dX4_dial_19 rfl (lv_at hl 0 rfl) ?_
      refine g_X4_10 hx hb hown hts hK hW HR.1 rfl dX4_dial_20 ?_
      refine lv_iload_n hx hb dX4_dial_23 rfl (lv_at hl 1 rfl) ?_
      refine lv_iload_n hx hb dX4_dial_24 rfl (lv_at hl 2 rfl) ?_
      refine w_cvi (As := [.int p1, .int p2]) (rest := []) hx hb hml hown hts hK hW hS hl.1 (c_X0_dialDigit hA HR.2.1 (fun _ _ => rfl)  hw) (k_X4_61 hts ⟨Nat.le_of_ble_eq_true rfl, Nat.le_of_ble_eq_true rfl⟩) (w_recv hK hW HR.2.1.1 rfl rfl rfl) rfl rfl (Nat.le_of_ble_eq_true rfl) dX4_dial_25 ⟨Nat.zero_le _, Nat.zero_le _⟩ (fun r_7 Ez H locs hw2 hW hS => ?_)
      obtain ⟨Y_8, ez, hw⟩ := hw2
      rw [ez] at hW
      obtain ⟨X_9, eX_9⟩ : ∃ z : ES, z = put 26 (o + 1) Y_8 E0 := ⟨_, rfl⟩
      have hw := hw X_9 eX_9
      rw [← eX_9] at hW
      refine lv_goto (tgt := 33) hx hb dX4_dial_28 (by decide) ?_
      exact w_iret hx hb hr hlocks hW hS hw dX4_dial_33
  · have hw := hw.1 c_3
    refine lv_iconst (v := (-1)) hx hb dX4_dial_7 (by decide) ?_
    exact w_iret hx hb hr hlocks hW hS hw dX4_dial_8
set_option maxHeartbeats 4000000 in
set_option maxRecDepth 100000 in
theorem c_X4_tick {l : Launch} {g : GG} {lay : LY} {E0 : ES} {o : Nat} {sv : Nat → Option Nat} {p1 : Int32} {K : Int32 → ES → Prop} (hA : okL g lay) (HR : RL4 g lay o sv) (hw : wp_X4_tick o E0 p1 K) : JMi l g lay yX4_tick wsX4_tick rmX4_tick [.ref o, .int p1] E0 (fun r E1 => K r E1) := by
  refine Met.ofW (cc := cX4_tick) (maxL := 2) (ret := (some .int)) (by decide) rfl ?_
  intro p e s m args below meth c s₁ B hml hv
  obtain ⟨rfl, hK, hW⟩ := hv
  have hx := B.exec
  have hb := B.bytes
  have hr := B.returns
  have hts := gd_of (atoms_spec (ws := wsX4_tick) B.pre)
  have hown : s.vm.findClass RX4 = some m.cls := findClass_of_methodNamed B.named
  have hlocks := B.notSynchronized
  have hS : va_S (Ab g) s.heap s.heap [] := va_S.rf
  have hl := lv_entry [.ref o, .int p1] (n := 2) (Nat.le_of_ble_eq_true rfl)
  rw [lg_entry_eq]
  generalize (lg_sl [.ref o, .int p1] ++ List.replicate (2 - (lg_sl [.ref o, .int p1]).length) Slot.unset).toArray = ls at hl ⊢
  have hl : lv_has ls 2 [(0, .ref o), (1, .int p1)] := hl
  unfold wp_X4_tick at hw
  refine lv_iload_n hx hb dX4_tick_0 rfl (lv_at hl 1 rfl) ?_
  refine lv_iconst (v := 1) hx hb dX4_tick_1 (by decide) ?_
  refine lv_sipush (v := 1000) hx hb dX4_tick_2 (by decide) ?_
  refine w_csi (As := [.int p1, .int 1, .int 1000]) (rest := []) hx hb hml hown hts hK hW hS hl.1 (c_X4_isWithin hw) (k_X4_30 hts ⟨Nat.le_of_ble_eq_true rfl, Nat.le_of_ble_eq_true rfl⟩) rfl rfl (Nat.le_of_ble_eq_true rfl) dX4_tick_5 ⟨Nat.zero_le _, Nat.zero_le _⟩ (fun r_1 Ez H locs hw2 hW hS => ?_)
  obtain ⟨ez, z_2, hw⟩ := hw2
  rw [ez] at hW
  refine lv_if_ne (tgt := 14) hx hb dX4_tick_8 (by decide) (fun c_3 => ?_) (fun c_3 => ?_)
  · have hw := hw.2 c_3
    refine lv_aload_n hx hb dX4_tick_14 rfl (lv_at hl 0 rfl) ?_
    refine g_X4_10 hx hb hown hts hK hW HR.1 rfl dX4_tick_15 ?_
    refine lv_iload_n hx hb dX4_tick_18 rfl (lv_at hl 1 rfl) ?_
    refine w_cvi (As := [.int p1]) (rest := []) hx hb hml hown hts hK hW hS hl.1 (c_X0_hasTimeFor hA HR.2.1 (fun _ _ => rfl)  hw) (k_X4_64 hts ⟨Nat.le_of_ble_eq_true rfl, Nat.le_of_ble_eq_true rfl⟩) (w_recv hK hW HR.2.1.1 rfl rfl rfl) rfl rfl (Nat.le_of_ble_eq_true rfl) dX4_tick_19 ⟨Nat.zero_le _, Nat.zero_le _⟩ (fun r_4 Ez H locs hw2 hW hS => ?_)
    obtain ⟨ez, z_5, hw⟩ := hw2
    rw [ez] at hW
    refine lv_if_ne (tgt := 28) hx hb dX4_tick_22 (by decide) (fun c_6 => ?_) (fun c_6 => ?_)
    · have hw := hw.2 c_6
      refine lv_aload_n hx hb dX4_tick_28 rfl (lv_at hl 0 rfl) ?_
      refine g_X4_10 hx hb hown hts hK hW HR.1 rfl dX4_tick_29 ?_
      refine lv_iload_n hx hb dX4_tick_32 rfl (lv_at hl 1 rfl) ?_
      refine w_cvv (As := [.int p1]) (rest := []) hx hb hml hown hts hK hW hS hl.1 (c_X0_pass hA HR.2.1 (fun _ _ => rfl)  hw) (k_X4_67 hts ⟨Nat.le_of_ble_eq_true rfl, Nat.le_of_ble_eq_true rfl⟩) (w_recv hK hW HR.2.1.1 rfl rfl rfl) rfl rfl (Nat.le_of_ble_eq_true rfl) dX4_tick_33 ⟨Nat.zero_le _, Nat.zero_le _⟩ (fun Ez H locs hw2 hW hS => ?_)
      obtain ⟨Y_7, ez, hw⟩ := hw2
      rw [ez] at hW
      obtain ⟨X_8, eX_8⟩ : ∃ z : ES, z = put 26 (o + 1) Y_7 E0 := ⟨_, rfl⟩
      have hw := hw X_8 eX_8
      rw [← eX_8] at hW
      refine lv_aload_n hx hb dX4_tick_36 rfl (lv_at hl 0 rfl) ?_
      refine g_X4_10 hx hb hown hts hK hW HR.1 rfl dX4_tick_37 ?_
      refine g_X4_71 hx hb hown hts hK hW HR.2.1.1 rfl dX4_tick_40 ?_
      exact w_iret hx hb hr hlocks hW hS hw dX4_tick_43
    · have hw := hw.1 c_6
      refine lv_bipush (v := (-5)) hx hb dX4_tick_25 (by decide) ?_
      exact w_iret hx hb hr hlocks hW hS hw dX4_tick_27
  · have hw := hw.1 c_3
    refine lv_bipush (v := (-2)) hx hb dX4_tick_11 (by decide) ?_
    exact w_iret hx hb hr hlocks hW hS hw dX4_tick_13
set_option maxHeartbeats 4000000 in
set_option maxRecDepth 100000 in
theorem c_X4_line {l : Launch} {g : GG} {lay : LY} {E0 : ES} {o : Nat} {sv : Nat → Option Nat} {p1 : Int32} {p2 : Int32} {K : Int32 → Prop} (hA : okL g lay) (HR : RL4 g lay o sv) (hw : wp_X4_line o E0 p1 p2 K) : JMi l g lay yX4_line wsX4_line rmX4_line [.ref o, .int p1, .int p2] E0 (fun r E1 => E1 = E0 ∧ K r) := by
  refine Met.ofW (cc := cX4_line) (maxL := 3) (ret := (some .int)) (by decide) rfl ?_
  intro p e s m args below meth c s₁ B hml hv
  obtain ⟨rfl, hK, hW⟩ := hv
  have hx := B.exec
  have hb := B.bytes
  have hr := B.returns
  have hts := gd_of (atoms_spec (ws := wsX4_line) B.pre)
  have hown : s.vm.findClass RX4 = some m.cls := findClass_of_methodNamed B.named
  have hlocks := B.notSynchronized
  have hS : va_S (Ab g) s.heap s.heap [] := va_S.rf
  have hl := lv_entry [.ref o, .int p1, .int p2] (n := 3) (Nat.le_of_ble_eq_true rfl)
  rw [lg_entry_eq]
  generalize (lg_sl [.ref o, .int p1, .int p2] ++ List.replicate (3 - (lg_sl [.ref o, .int p1, .int p2]).length) Slot.unset).toArray = ls at hl ⊢
  have hl : lv_has ls 3 [(0, .ref o), (1, .int p1), (2, .int p2)] := hl
  unfold wp_X4_line at hw
  refine lv_iload_n hx hb dX4_line_0 rfl (lv_at hl 1 rfl) ?_
  refine w_csi (As := [.int p1]) (rest := []) hx hb hml hown hts hK hW hS hl.1 (c_X4_isLine hw) (k_X4_50 hts ⟨Nat.le_of_ble_eq_true rfl, Nat.le_of_ble_eq_true rfl⟩) rfl rfl (Nat.le_of_ble_eq_true rfl) dX4_line_1 ⟨Nat.zero_le _, Nat.zero_le _⟩ (fun r_1 Ez H locs hw2 hW hS => ?_)
  obtain ⟨ez, z_2, hw⟩ := hw2
  rw [ez] at hW
  refine lv_if_eq (tgt := 19) hx hb dX4_line_4 (by decide) (fun c_3 => ?_) (fun c_3 => ?_)
  · have hw := hw.1 c_3
    refine lv_iconst (v := (-1)) hx hb dX4_line_19 (by decide) ?_
    exact w_iret hx hb hr hlocks hW hS ⟨rfl, hw⟩ dX4_line_20
  · have hw := hw.2 c_3
    refine lv_aload_n hx hb dX4_line_7 rfl (lv_at hl 0 rfl) ?_
    refine g_X4_10 hx hb hown hts hK hW HR.1 rfl dX4_line_8 ?_
    refine lv_iload_n hx hb dX4_line_11 rfl (lv_at hl 1 rfl) ?_
    refine lv_iload_n hx hb dX4_line_12 rfl (lv_at hl 2 rfl) ?_
    refine w_cvi (As := [.int p1, .int p2]) (rest := []) hx hb hml hown hts hK hW hS hl.1 (c_X0_numberOfLine hA HR.2.1 (fun _ _ => rfl)  hw) (k_X4_74 hts ⟨Nat.le_of_ble_eq_true rfl, Nat.le_of_ble_eq_true rfl⟩) (w_recv hK hW HR.2.1.1 rfl rfl rfl) rfl rfl (Nat.le_of_ble_eq_true rfl) dX4_line_13 ⟨Nat.zero_le _, Nat.zero_le _⟩ (fun r_4 Ez H locs hw2 hW hS => ?_)
    obtain ⟨ez, hw⟩ := hw2
    rw [ez] at hW
    refine lv_goto (tgt := 20) hx hb dX4_line_16 (by decide) ?_
    exact w_iret hx hb hr hlocks hW hS ⟨rfl, hw⟩ dX4_line_20
set_option maxHeartbeats 4000000 in
set_option maxRecDepth 100000 in
theorem c_X4_finder {l : Launch} {g : GG} {lay : LY} {E0 : ES} {o : Nat} {sv : Nat → Option Nat} {p1 : Int32} {p2 : Int32} {K : Int32 → Prop} (hA : okL g lay) (HR : RL4 g lay o sv) (hw : wp_X4_finder o E0 p1 p2 K) : JMi l g lay yX4_finder wsX4_finder rmX4_finder [.ref o, .int p1, .int p2] E0 (fun r E1 => E1 = E0 ∧ K r) := by
  refine Met.ofW (cc := cX4_finder) (maxL := 3) (ret := (some .int)) (by decide) rfl ?_
  intro p e s m args below meth c s₁ B hml hv
  obtain ⟨rfl, hK, hW⟩ := hv
  have hx := B.exec
  have hb := B.bytes
  have hr := B.returns
  have hts := gd_of (atoms_spec (ws := wsX4_finder) B.pre)
  have hown : s.vm.findClass RX4 = some m.cls := findClass_of_methodNamed B.named
  have hlocks := B.notSynchronized
  have hS : va_S (Ab g) s.heap s.heap [] := va_S.rf
  have hl := lv_entry [.ref o, .int p1, .int p2] (n := 3) (Nat.le_of_ble_eq_true rfl)
  rw [lg_entry_eq]
  generalize (lg_sl [.ref o, .int p1, .int p2] ++ List.replicate (3 - (lg_sl [.ref o, .int p1, .int p2]).length) Slot.unset).toArray = ls at hl ⊢
  have hl : lv_has ls 3 [(0, .ref o), (1, .int p1), (2, .int p2)] := hl
  unfold wp_X4_finder at hw
  refine lv_iload_n hx hb dX4_finder_0 rfl (lv_at hl 1 rfl) ?_
  refine lv_iconst (v := 0) hx hb dX4_finder_1 (by decide) ?_
  refine lv_aload_n hx hb dX4_finder_2 rfl (lv_at hl 0 rfl) ?_
  refine g_X4_10 hx hb hown hts hK hW HR.1 rfl dX4_finder_3 ?_
  refine g_X4_34 hx hb hown hts hK hW HR.2.1.1 rfl dX4_finder_6 ?_
  refine lv_iconst (v := 1) hx hb dX4_finder_9 (by decide) ?_
  refine lv_isub hx hb dX4_finder_10 ?_
  refine w_csi (As := [.int p1, .int 0, .int (((E0 (o + 1)) 5) - 1)]) (rest := []) hx hb hml hown hts hK hW hS hl.1 (c_X4_isWithin hw) (k_X4_30 hts ⟨Nat.le_of_ble_eq_true rfl, Nat.le_of_ble_eq_true rfl⟩) rfl rfl (Nat.le_of_ble_eq_true rfl) dX4_finder_11 ⟨Nat.zero_le _, Nat.zero_le _⟩ (fun r_1 Ez H locs hw2 hW hS => ?_)
  obtain ⟨ez, z_2, hw⟩ := hw2
  rw [ez] at hW
  refine lv_if_eq (tgt := 32) hx hb dX4_finder_14 (by decide) (fun c_3 => ?_) (fun c_3 => ?_)
  · have hw := hw.1 c_3
    refine lv_iconst (v := (-1)) hx hb dX4_finder_32 (by decide) ?_
    exact w_iret hx hb hr hlocks hW hS ⟨rfl, hw⟩ dX4_finder_33
  · have hw := hw.2 c_3
    refine lv_aload_n hx hb dX4_finder_17 rfl (lv_at hl 0 rfl) ?_
    refine g_X4_10 hx hb hown hts hK hW HR.1 rfl dX4_finder_18 ?_
    refine lv_iload_n hx hb dX4_finder_21 rfl (lv_at hl 1 rfl) ?_
    refine w_cvr (As := [.int p1]) (rest := []) hx hb hml hown hts hK hW hS hl.1 (c_X0_finderAt hA HR.2.1 p1) (k_X4_77 hts ⟨Nat.le_of_ble_eq_true rfl, Nat.le_of_ble_eq_true rfl⟩) (w_recv hK hW HR.2.1.1 rfl rfl rfl) rfl rfl (Nat.le_of_ble_eq_true rfl) dX4_finder_22 ⟨Nat.zero_le _, Nat.zero_le _⟩ (fun q_4 Ez H locs hw2 hW hS => ?_)
    obtain ⟨ez, rfl⟩ := hw2
    rw [ez] at hW
    refine lv_iload_n hx hb dX4_finder_25 rfl (lv_at hl 2 rfl) ?_
    refine w_cvi (As := [.int p2]) (rest := []) hx hb hml hown hts hK hW hS hl.1 (c_X1_numberFor hA (HR.2.1.2.2.2.2.2 _ (isFi_fix p1)) rfl hw) (k_X4_81 hts ⟨Nat.le_of_ble_eq_true rfl, Nat.le_of_ble_eq_true rfl⟩) (w_recv hK hW (HR.2.1.2.2.2.2.2 _ (isFi_fix p1)) rfl rfl rfl) rfl rfl (Nat.le_of_ble_eq_true rfl) dX4_finder_26 ⟨Nat.zero_le _, Nat.zero_le _⟩ (fun r_5 Ez H locs hw2 hW hS => ?_)
    obtain ⟨ez, hw⟩ := hw2
    rw [ez] at hW
    refine lv_goto (tgt := 33) hx hb dX4_finder_29 (by decide) ?_
    exact w_iret hx hb hr hlocks hW hS ⟨rfl, hw⟩ dX4_finder_33
set_option maxHeartbeats 4000000 in
set_option maxRecDepth 100000 in
theorem c_X4_connector {l : Launch} {g : GG} {lay : LY} {E0 : ES} {o : Nat} {sv : Nat → Option Nat} {p1 : Int32} {p2 : Int32} {K : Int32 → Prop} (hA : okL g lay) (HR : RL4 g lay o sv) (hw : wp_X4_connector o E0 p1 p2 K) : JMi l g lay yX4_connector wsX4_connector rmX4_connector [.ref o, .int p1, .int p2] E0 (fun r E1 => E1 = E0 ∧ K r) := by
  refine Met.ofW (cc := cX4_connector) (maxL := 3) (ret := (some .int)) (by decide) rfl ?_
  intro p e s m args below meth c s₁ B hml hv
  obtain ⟨rfl, hK, hW⟩ := hv
  have hx := B.exec
  have hb := B.bytes
  have hr := B.returns
  have hts := gd_of (atoms_spec (ws := wsX4_connector) B.pre)
  have hown : s.vm.findClass RX4 = some m.cls := findClass_of_methodNamed B.named
  have hlocks := B.notSynchronized
  have hS : va_S (Ab g) s.heap s.heap [] := va_S.rf
  have hl := lv_entry [.ref o, .int p1, .int p2] (n := 3) (Nat.le_of_ble_eq_true rfl)
  rw [lg_entry_eq]
  generalize (lg_sl [.ref o, .int p1, .int p2] ++ List.replicate (3 - (lg_sl [.ref o, .int p1, .int p2]).length) Slot.unset).toArray = ls at hl ⊢
  have hl : lv_has ls 3 [(0, .ref o), (1, .int p1), (2, .int p2)] := hl
  unfold wp_X4_connector at hw
  refine lv_iload_n hx hb dX4_connector_0 rfl (lv_at hl 1 rfl) ?_
  refine lv_iconst (v := 1) hx hb dX4_connector_1 (by decide) ?_
  refine lv_iconst (v := 4) hx hb dX4_connector_2 (by decide) ?_
  refine w_csi (As := [.int p1, .int 1, .int 4]) (rest := []) hx hb hml hown hts hK hW hS hl.1 (c_X4_isWithin hw) (k_X4_30 hts ⟨Nat.le_of_ble_eq_true rfl, Nat.le_of_ble_eq_true rfl⟩) rfl rfl (Nat.le_of_ble_eq_true rfl) dX4_connector_3 ⟨Nat.zero_le _, Nat.zero_le _⟩ (fun r_1 Ez H locs hw2 hW hS => ?_)
  obtain ⟨ez, z_2, hw⟩ := hw2
  rw [ez] at hW
  refine lv_if_eq (tgt := 26) hx hb dX4_connector_6 (by decide) (fun c_3 => ?_) (fun c_3 => ?_)
  · have hw := hw.1 c_3
    refine lv_iconst (v := (-1)) hx hb dX4_connector_26 (by decide) ?_
    exact w_iret hx hb hr hlocks hW hS ⟨rfl, hw⟩ dX4_connector_27
  · have hw := hw.2 c_3
    refine lv_iload_n hx hb dX4_connector_9 rfl (lv_at hl 2 rfl) ?_
    refine lv_iconst (v := 0) hx hb dX4_connector_10 (by decide) ?_
    refine lv_aload_n hx hb dX4_connector_11 rfl (lv_at hl 0 rfl) ?_
    refine g_X4_10 hx hb hown hts hK hW HR.1 rfl dX4_connector_12 ?_
    refine g_X4_86 hx hb hown hts hK hW HR.2.1.1 rfl dX4_connector_15 ?_
    refine lv_iconst (v := 1) hx hb dX4_connector_18 (by decide) ?_
    refine lv_isub hx hb dX4_connector_19 ?_
    refine w_csi (As := [.int p2, .int 0, .int (((E0 (o + 1)) 6) - 1)]) (rest := []) hx hb hml hown hts hK hW hS hl.1 (c_X4_isWithin hw) (k_X4_30 hts ⟨Nat.le_of_ble_eq_true rfl, Nat.le_of_ble_eq_true rfl⟩) rfl rfl (Nat.le_of_ble_eq_true rfl) dX4_connector_20 ⟨Nat.zero_le _, Nat.zero_le _⟩ (fun r_4 Ez H locs hw2 hW hS => ?_)
    obtain ⟨ez, z_5, hw⟩ := hw2
    rw [ez] at hW
    refine lv_if_ne (tgt := 28) hx hb dX4_connector_23 (by decide) (fun c_6 => ?_) (fun c_6 => ?_)
    · have hw := hw.2 c_6
      refine lv_aload_n hx hb dX4_connector_28 rfl (lv_at hl 0 rfl) ?_
      refine g_X4_10 hx hb hown hts hK hW HR.1 rfl dX4_connector_29 ?_
      refine lv_iload_n hx hb dX4_connector_32 rfl (lv_at hl 1 rfl) ?_
      refine lv_iload_n hx hb dX4_connector_33 rfl (lv_at hl 2 rfl) ?_
      refine w_cvi (As := [.int p1, .int p2]) (rest := []) hx hb hml hown hts hK hW hS hl.1 (c_X0_holderOf hA HR.2.1 (fun _ _ => rfl)  hw) (k_X4_89 hts ⟨Nat.le_of_ble_eq_true rfl, Nat.le_of_ble_eq_true rfl⟩) (w_recv hK hW HR.2.1.1 rfl rfl rfl) rfl rfl (Nat.le_of_ble_eq_true rfl) dX4_connector_34 ⟨Nat.zero_le _, Nat.zero_le _⟩ (fun r_7 Ez H locs hw2 hW hS => ?_)
      obtain ⟨ez, hw⟩ := hw2
      rw [ez] at hW
      exact w_iret hx hb hr hlocks hW hS ⟨rfl, hw⟩ dX4_connector_37
    · have hw := hw.1 c_6
      refine lv_iconst (v := (-1)) hx hb dX4_connector_26 (by decide) ?_
      exact w_iret hx hb hr hlocks hW hS ⟨rfl, hw⟩ dX4_connector_27
set_option maxHeartbeats 4000000 in
set_option maxRecDepth 100000 in
theorem c_X4_count {l : Launch} {g : GG} {lay : LY} {E0 : ES} {o : Nat} {sv : Nat → Option Nat} {p1 : Int32} {K : Int32 → Prop} (hA : okL g lay) (HR : RL4 g lay o sv) (hw : wp_X4_count o E0 p1 K) : JMi l g lay yX4_count wsX4_count rmX4_count [.ref o, .int p1] E0 (fun r E1 => E1 = E0 ∧ K r) := by
  refine Met.ofW (cc := cX4_count) (maxL := 2) (ret := (some .int)) (by decide) rfl ?_
  intro p e s m args below meth c s₁ B hml hv
  obtain ⟨rfl, hK, hW⟩ := hv
  have hx := B.exec
  have hb := B.bytes
  have hr := B.returns
  have hts := gd_of (atoms_spec (ws := wsX4_count) B.pre)
  have hown : s.vm.findClass RX4 = some m.cls := findClass_of_methodNamed B.named
  have hlocks := B.notSynchronized
  have hS : va_S (Ab g) s.heap s.heap [] := va_S.rf
  have hl := lv_entry [.ref o, .int p1] (n := 2) (Nat.le_of_ble_eq_true rfl)
  rw [lg_entry_eq]
  generalize (lg_sl [.ref o, .int p1] ++ List.replicate (2 - (lg_sl [.ref o, .int p1]).length) Slot.unset).toArray = ls at hl ⊢
  have hl : lv_has ls 2 [(0, .ref o), (1, .int p1)] := hl
  unfold wp_X4_count at hw
  refine lv_iload_n hx hb dX4_count_0 rfl (lv_at hl 1 rfl) ?_
  refine lv_bipush (v := 14) hx hb dX4_count_1 (by decide) ?_
  refine lv_icmp_ne (tgt := 16) hx hb dX4_count_3 (by decide) (fun c_1 => ?_) (fun c_1 => ?_)
  · have hw := hw.2 c_1
    refine lv_aload_n hx hb dX4_count_16 rfl (lv_at hl 0 rfl) ?_
    refine g_X4_10 hx hb hown hts hK hW HR.1 rfl dX4_count_17 ?_
    refine lv_iload_n hx hb dX4_count_20 rfl (lv_at hl 1 rfl) ?_
    refine w_cvi (As := [.int p1]) (rest := []) hx hb hml hown hts hK hW hS hl.1 (c_X0_numberFor hA HR.2.1 (fun _ _ => rfl)  hw) (k_X4_95 hts ⟨Nat.le_of_ble_eq_true rfl, Nat.le_of_ble_eq_true rfl⟩) (w_recv hK hW HR.2.1.1 rfl rfl rfl) rfl rfl (Nat.le_of_ble_eq_true rfl) dX4_count_21 ⟨Nat.zero_le _, Nat.zero_le _⟩ (fun r_2 Ez H locs hw2 hW hS => ?_)
    obtain ⟨ez, hw⟩ := hw2
    rw [ez] at hW
    exact w_iret hx hb hr hlocks hW hS ⟨rfl, hw⟩ dX4_count_24
  · have hw := hw.1 c_1
    refine lv_aload_n hx hb dX4_count_6 rfl (lv_at hl 0 rfl) ?_
    refine g_X4_26 hx hb hown hts hK hW HR.1 rfl dX4_count_7 ?_
    refine g_X4_92 hx hb hown hts hK hW HR.2.2.2.2.1 rfl dX4_count_10 ?_
    refine lv_goto (tgt := 24) hx hb dX4_count_13 (by decide) ?_
    exact w_iret hx hb hr hlocks hW hS ⟨rfl, hw⟩ dX4_count_24
set_option maxHeartbeats 4000000 in
set_option maxRecDepth 100000 in
theorem c_X4_trace {l : Launch} {g : GG} {lay : LY} {E0 : ES} {o : Nat} {sv : Nat → Option Nat} {p1 : Int32} {p2 : Int32} {K : Int32 → Prop} (hA : okL g lay) (HR : RL4 g lay o sv) (hw : wp_X4_trace o E0 p1 p2 K) : JMi l g lay yX4_trace wsX4_trace rmX4_trace [.ref o, .int p1, .int p2] E0 (fun r E1 => E1 = E0 ∧ K r) := by
  refine Met.ofW (cc := cX4_trace) (maxL := 3) (ret := (some .int)) (by decide) rfl ?_
  intro p e s m args below meth c s₁ B hml hv
  obtain ⟨rfl, hK, hW⟩ := hv
  have hx := B.exec
  have hb := B.bytes
  have hr := B.returns
  have hts := gd_of (atoms_spec (ws := wsX4_trace) B.pre)
  have hown : s.vm.findClass RX4 = some m.cls := findClass_of_methodNamed B.named
  have hlocks := B.notSynchronized
  have hS : va_S (Ab g) s.heap s.heap [] := va_S.rf
  have hl := lv_entry [.ref o, .int p1, .int p2] (n := 3) (Nat.le_of_ble_eq_true rfl)
  rw [lg_entry_eq]
  generalize (lg_sl [.ref o, .int p1, .int p2] ++ List.replicate (3 - (lg_sl [.ref o, .int p1, .int p2]).length) Slot.unset).toArray = ls at hl ⊢
  have hl : lv_has ls 3 [(0, .ref o), (1, .int p1), (2, .int p2)] := hl
  unfold wp_X4_trace at hw
  refine lv_iload_n hx hb dX4_trace_0 rfl (lv_at hl 1 rfl) ?_
  refine w_csi (As := [.int p1]) (rest := []) hx hb hml hown hts hK hW hS hl.1 (c_X4_isLine hw) (k_X4_50 hts ⟨Nat.le_of_ble_eq_true rfl, Nat.le_of_ble_eq_true rfl⟩) rfl rfl (Nat.le_of_ble_eq_true rfl) dX4_trace_1 ⟨Nat.zero_le _, Nat.zero_le _⟩ (fun r_1 Ez H locs hw2 hW hS => ?_)
  obtain ⟨ez, z_2, hw⟩ := hw2
  rw [ez] at hW
  refine lv_if_ne (tgt := 9) hx hb dX4_trace_4 (by decide) (fun c_3 => ?_) (fun c_3 => ?_)
  · have hw := hw.2 c_3
    refine lv_iload_n hx hb dX4_trace_9 rfl (lv_at hl 2 rfl) ?_
    refine lv_iconst (v := 0) hx hb dX4_trace_10 (by decide) ?_
    refine lv_iconst (v := 2) hx hb dX4_trace_11 (by decide) ?_
    refine w_csi (As := [.int p2, .int 0, .int 2]) (rest := []) hx hb hml hown hts hK hW hS hl.1 (c_X4_isWithin hw) (k_X4_30 hts ⟨Nat.le_of_ble_eq_true rfl, Nat.le_of_ble_eq_true rfl⟩) rfl rfl (Nat.le_of_ble_eq_true rfl) dX4_trace_12 ⟨Nat.zero_le _, Nat.zero_le _⟩ (fun r_4 Ez H locs hw2 hW hS => ?_)
    obtain ⟨ez, z_5, hw⟩ := hw2
    rw [ez] at hW
    refine lv_if_ne (tgt := 21) hx hb dX4_trace_15 (by decide) (fun c_6 => ?_) (fun c_6 => ?_)
    · have hw := hw.2 c_6
      refine lv_aload_n hx hb dX4_trace_21 rfl (lv_at hl 0 rfl) ?_
      refine g_X4_10 hx hb hown hts hK hW HR.1 rfl dX4_trace_22 ?_
      refine lv_iload_n hx hb dX4_trace_25 rfl (lv_at hl 1 rfl) ?_
      refine lv_iload_n hx hb dX4_trace_26 rfl (lv_at hl 2 rfl) ?_
      refine w_cvi (As := [.int p1, .int p2]) (rest := []) hx hb hml hown hts hK hW hS hl.1 (c_X0_traceFrom hA HR.2.1 (fun _ _ => rfl)  hw) (k_X4_96 hts ⟨Nat.le_of_ble_eq_true rfl, Nat.le_of_ble_eq_true rfl⟩) (w_recv hK hW HR.2.1.1 rfl rfl rfl) rfl rfl (Nat.le_of_ble_eq_true rfl) dX4_trace_27 ⟨Nat.zero_le _, Nat.zero_le _⟩ (fun r_7 Ez H locs hw2 hW hS => ?_)
      obtain ⟨ez, hw⟩ := hw2
      rw [ez] at hW
      exact w_iret hx hb hr hlocks hW hS ⟨rfl, hw⟩ dX4_trace_30
    · have hw := hw.1 c_6
      refine lv_bipush (v := (-2)) hx hb dX4_trace_18 (by decide) ?_
      exact w_iret hx hb hr hlocks hW hS ⟨rfl, hw⟩ dX4_trace_20
  · have hw := hw.1 c_3
    refine lv_iconst (v := (-1)) hx hb dX4_trace_7 (by decide) ?_
    exact w_iret hx hb hr hlocks hW hS ⟨rfl, hw⟩ dX4_trace_8
set_option maxHeartbeats 4000000 in
set_option maxRecDepth 100000 in
theorem c_X4_until {l : Launch} {g : GG} {lay : LY} {E0 : ES} {o : Nat} {sv : Nat → Option Nat} {p1 : Int32} {p2 : Int32} {p3 : Int32} {K : Int32 → ES → Prop} (hA : okL g lay) (HR : RL4 g lay o sv) (hw : wp_X4_until o E0 p1 p2 p3 K) : JMi l g lay yX4_until wsX4_until rmX4_until [.ref o, .int p1, .int p2, .int p3] E0 (fun r E1 => K r E1) := by
  refine Met.ofW (cc := cX4_until) (maxL := 4) (ret := (some .int)) (by decide) rfl ?_
  intro p e s m args below meth c s₁ B hml hv
  obtain ⟨rfl, hK, hW⟩ := hv
  have hx := B.exec
  have hb := B.bytes
  have hr := B.returns
  have hts := gd_of (atoms_spec (ws := wsX4_until) B.pre)
  have hown : s.vm.findClass RX4 = some m.cls := findClass_of_methodNamed B.named
  have hlocks := B.notSynchronized
  have hS : va_S (Ab g) s.heap s.heap [] := va_S.rf
  have hl := lv_entry [.ref o, .int p1, .int p2, .int p3] (n := 4) (Nat.le_of_ble_eq_true rfl)
  rw [lg_entry_eq]
  generalize (lg_sl [.ref o, .int p1, .int p2, .int p3] ++ List.replicate (4 - (lg_sl [.ref o, .int p1, .int p2, .int p3]).length) Slot.unset).toArray = ls at hl ⊢
  have hl : lv_has ls 4 [(0, .ref o), (1, .int p1), (2, .int p2), (3, .int p3)] := hl
  unfold wp_X4_until at hw
  refine lv_iload_n hx hb dX4_until_0 rfl (lv_at hl 1 rfl) ?_
  refine w_csi (As := [.int p1]) (rest := []) hx hb hml hown hts hK hW hS hl.1 (c_X4_isLine hw) (k_X4_50 hts ⟨Nat.le_of_ble_eq_true rfl, Nat.le_of_ble_eq_true rfl⟩) rfl rfl (Nat.le_of_ble_eq_true rfl) dX4_until_1 ⟨Nat.zero_le _, Nat.zero_le _⟩ (fun r_1 Ez H locs hw2 hW hS => ?_)
  obtain ⟨ez, z_2, hw⟩ := hw2
  rw [ez] at hW
  refine lv_if_ne (tgt := 9) hx hb dX4_until_4 (by decide) (fun c_3 => ?_) (fun c_3 => ?_)
  · have hw := hw.2 c_3
    refine lv_iload_n hx hb dX4_until_9 rfl (lv_at hl 2 rfl) ?_
    refine lv_iconst (v := 0) hx hb dX4_until_10 (by decide) ?_
    refine lv_bipush (v := 11) hx hb dX4_until_11 (by decide) ?_
    refine w_csi (As := [.int p2, .int 0, .int 11]) (rest := []) hx hb hml hown hts hK hW hS hl.1 (c_X4_isWithin hw) (k_X4_30 hts ⟨Nat.le_of_ble_eq_true rfl, Nat.le_of_ble_eq_true rfl⟩) rfl rfl (Nat.le_of_ble_eq_true rfl) dX4_until_13 ⟨Nat.zero_le _, Nat.zero_le _⟩ (fun r_4 Ez H locs hw2 hW hS => ?_)
    obtain ⟨ez, z_5, hw⟩ := hw2
    rw [ez] at hW
    refine lv_if_eq (tgt := 30) hx hb dX4_until_16 (by decide) (fun c_6 => ?_) (fun c_6 => ?_)
    · have hw := hw.1 c_6
      refine lv_bipush (v := (-2)) hx hb dX4_until_30 (by decide) ?_
      exact w_iret hx hb hr hlocks hW hS hw dX4_until_32
    · have hw := hw.2 c_6
      refine lv_iload_n hx hb dX4_until_19 rfl (lv_at hl 3 rfl) ?_
      refine lv_iconst (v := 0) hx hb dX4_until_20 (by decide) ?_
      refine lv_sipush (v := 1000) hx hb dX4_until_21 (by decide) ?_
      refine w_csi (As := [.int p3, .int 0, .int 1000]) (rest := []) hx hb hml hown hts hK hW hS hl.1 (c_X4_isWithin hw) (k_X4_30 hts ⟨Nat.le_of_ble_eq_true rfl, Nat.le_of_ble_eq_true rfl⟩) rfl rfl (Nat.le_of_ble_eq_true rfl) dX4_until_24 ⟨Nat.zero_le _, Nat.zero_le _⟩ (fun r_7 Ez H locs hw2 hW hS => ?_)
      obtain ⟨ez, z_8, hw⟩ := hw2
      rw [ez] at hW
      refine lv_if_ne (tgt := 33) hx hb dX4_until_27 (by decide) (fun c_9 => ?_) (fun c_9 => ?_)
      · have hw := hw.2 c_9
        refine lv_aload_n hx hb dX4_until_33 rfl (lv_at hl 0 rfl) ?_
        refine g_X4_16 hx hb hown hts hK hW HR.1 rfl dX4_until_34 ?_
        refine lv_aload_n hx hb dX4_until_37 rfl (lv_at hl 0 rfl) ?_
        refine g_X4_10 hx hb hown hts hK hW HR.1 rfl dX4_until_38 ?_
        refine w_cvv (As := [.ref (o + 1)]) (rest := []) hx hb hml hown hts hK hW hS hl.1 (c_X0_copyFrom hA HR.2.2.1 HR.2.1 (fun _ _ => rfl) (fun _ _ => rfl) (by omega) hw) (k_X4_99 hts ⟨Nat.le_of_ble_eq_true rfl, Nat.le_of_ble_eq_true rfl⟩) (w_recv hK hW HR.2.2.1.1 rfl rfl rfl) rfl rfl (Nat.le_of_ble_eq_true rfl) dX4_until_41 ⟨Nat.zero_le _, Nat.zero_le _⟩ (fun Ez H locs hw2 hW hS => ?_)
        obtain ⟨Y_10, ez, hw⟩ := hw2
        rw [ez] at hW
        obtain ⟨X_11, eX_11⟩ : ∃ z : ES, z = put 26 (o + 27) Y_10 E0 := ⟨_, rfl⟩
        have hw := hw X_11 eX_11
        rw [← eX_11] at hW
        refine lv_aload_n hx hb dX4_until_44 rfl (lv_at hl 0 rfl) ?_
        refine g_X4_16 hx hb hown hts hK hW HR.1 rfl dX4_until_45 ?_
        refine lv_iload_n hx hb dX4_until_48 rfl (lv_at hl 1 rfl) ?_
        refine lv_iload_n hx hb dX4_until_49 rfl (lv_at hl 2 rfl) ?_
        refine lv_iload_n hx hb dX4_until_50 rfl (lv_at hl 3 rfl) ?_
        refine w_cvi (As := [.int p1, .int p2, .int p3]) (rest := []) hx hb hml hown hts hK hW hS hl.1 (c_X0_ticksUntil hA HR.2.2.1 (fun _ _ => rfl)  hw) (k_X4_103 hts ⟨Nat.le_of_ble_eq_true rfl, Nat.le_of_ble_eq_true rfl⟩) (w_recv hK hW HR.2.2.1.1 rfl rfl rfl) rfl rfl (Nat.le_of_ble_eq_true rfl) dX4_until_51 ⟨Nat.zero_le _, Nat.zero_le _⟩ (fun r_12 Ez H locs hw2 hW hS => ?_)
        obtain ⟨Y_13, ez, hw⟩ := hw2
        rw [ez] at hW
        obtain ⟨X_14, eX_14⟩ : ∃ z : ES, z = put 26 (o + 27) Y_13 X_11 := ⟨_, rfl⟩
        have hw := hw X_14 eX_14
        rw [← eX_14] at hW
        exact w_iret hx hb hr hlocks hW hS hw dX4_until_54
      · have hw := hw.1 c_9
        refine lv_bipush (v := (-2)) hx hb dX4_until_30 (by decide) ?_
        exact w_iret hx hb hr hlocks hW hS hw dX4_until_32
  · have hw := hw.1 c_3
    refine lv_iconst (v := (-1)) hx hb dX4_until_7 (by decide) ?_
    exact w_iret hx hb hr hlocks hW hS hw dX4_until_8
set_option maxHeartbeats 4000000 in
set_option maxRecDepth 100000 in
theorem c_X4_attempt {l : Launch} {g : GG} {lay : LY} {E0 : ES} {o : Nat} {sv : Nat → Option Nat} {p1 : Int32} {p2 : Int32} {p3 : Int32} {K : Int32 → ES → Prop} (hA : okL g lay) (HR : RL4 g lay o sv) (hw : wp_X4_attempt o E0 p1 p2 p3 K) : JMi l g lay yX4_attempt wsX4_attempt rmX4_attempt [.ref o, .int p1, .int p2, .int p3] E0 (fun r E1 => K r E1) := by
  refine Met.ofW (cc := cX4_attempt) (maxL := 5) (ret := (some .int)) (by decide) rfl ?_
  intro p e s m args below meth c s₁ B hml hv
  obtain ⟨rfl, hK, hW⟩ := hv
  have hx := B.exec
  have hb := B.bytes
  have hr := B.returns
  have hts := gd_of (atoms_spec (ws := wsX4_attempt) B.pre)
  have hown : s.vm.findClass RX4 = some m.cls := findClass_of_methodNamed B.named
  have hlocks := B.notSynchronized
  have hS : va_S (Ab g) s.heap s.heap [] := va_S.rf
  have hl := lv_entry [.ref o, .int p1, .int p2, .int p3] (n := 5) (Nat.le_of_ble_eq_true rfl)
  rw [lg_entry_eq]
  generalize (lg_sl [.ref o, .int p1, .int p2, .int p3] ++ List.replicate (5 - (lg_sl [.ref o, .int p1, .int p2, .int p3]).length) Slot.unset).toArray = ls at hl ⊢
  have hl : lv_has ls 5 [(0, .ref o), (1, .int p1), (2, .int p2), (3, .int p3)] := hl
  unfold wp_X4_attempt at hw
  refine lv_iload_n hx hb dX4_attempt_0 rfl (lv_at hl 1 rfl) ?_
  refine w_csi (As := [.int p1]) (rest := []) hx hb hml hown hts hK hW hS hl.1 (c_X4_isLine hw) (k_X4_50 hts ⟨Nat.le_of_ble_eq_true rfl, Nat.le_of_ble_eq_true rfl⟩) rfl rfl (Nat.le_of_ble_eq_true rfl) dX4_attempt_1 ⟨Nat.zero_le _, Nat.zero_le _⟩ (fun r_1 Ez H locs hw2 hW hS => ?_)
  obtain ⟨ez, z_2, hw⟩ := hw2
  rw [ez] at hW
  refine lv_if_eq (tgt := 14) hx hb dX4_attempt_4 (by decide) (fun c_3 => ?_) (fun c_3 => ?_)
  · have hw := hw.1 c_3
    refine lv_iconst (v := (-1)) hx hb dX4_attempt_14 (by decide) ?_
    exact w_iret hx hb hr hlocks hW hS hw dX4_attempt_15
  · have hw := hw.2 c_3
    refine lv_iload_n hx hb dX4_attempt_7 rfl (lv_at hl 2 rfl) ?_
    refine w_csi (As := [.int p2]) (rest := []) hx hb hml hown hts hK hW hS hl.1 (c_X4_isLine hw) (k_X4_50 hts ⟨Nat.le_of_ble_eq_true rfl, Nat.le_of_ble_eq_true rfl⟩) rfl rfl (Nat.le_of_ble_eq_true rfl) dX4_attempt_8 ⟨Nat.zero_le _, Nat.zero_le _⟩ (fun r_4 Ez H locs hw2 hW hS => ?_)
    obtain ⟨ez, z_5, hw⟩ := hw2
    rw [ez] at hW
    refine lv_if_ne (tgt := 16) hx hb dX4_attempt_11 (by decide) (fun c_6 => ?_) (fun c_6 => ?_)
    · have hw := hw.2 c_6
      refine lv_iload_n hx hb dX4_attempt_16 rfl (lv_at hl 3 rfl) ?_
      refine lv_iconst (v := 0) hx hb dX4_attempt_17 (by decide) ?_
      refine lv_iconst (v := 1) hx hb dX4_attempt_18 (by decide) ?_
      refine w_csi (As := [.int p3, .int 0, .int 1]) (rest := []) hx hb hml hown hts hK hW hS hl.1 (c_X4_isWithin hw) (k_X4_30 hts ⟨Nat.le_of_ble_eq_true rfl, Nat.le_of_ble_eq_true rfl⟩) rfl rfl (Nat.le_of_ble_eq_true rfl) dX4_attempt_19 ⟨Nat.zero_le _, Nat.zero_le _⟩ (fun r_7 Ez H locs hw2 hW hS => ?_)
      obtain ⟨ez, z_8, hw⟩ := hw2
      rw [ez] at hW
      refine lv_if_ne (tgt := 28) hx hb dX4_attempt_22 (by decide) (fun c_9 => ?_) (fun c_9 => ?_)
      · have hw := hw.2 c_9
        refine lv_aload_n hx hb dX4_attempt_28 rfl (lv_at hl 0 rfl) ?_
        refine g_X4_10 hx hb hown hts hK hW HR.1 rfl dX4_attempt_29 ?_
        refine lv_iload_n hx hb dX4_attempt_32 rfl (lv_at hl 1 rfl) ?_
        refine w_cvr (As := [.int p1]) (rest := []) hx hb hml hown hts hK hW hS hl.1 (c_X0_lineAt hA HR.2.1 p1) (k_X4_107 hts ⟨Nat.le_of_ble_eq_true rfl, Nat.le_of_ble_eq_true rfl⟩) (w_recv hK hW HR.2.1.1 rfl rfl rfl) rfl rfl (Nat.le_of_ble_eq_true rfl) dX4_attempt_33 ⟨Nat.zero_le _, Nat.zero_le _⟩ (fun q_10 Ez H locs hw2 hW hS => ?_)
        obtain ⟨ez, rfl⟩ := hw2
        rw [ez] at hW
        refine g_X4_111 hx hb hown hts hK hW (HR.2.1.2.2.2.2.1 _ (isLi_lix p1)) rfl dX4_attempt_36 ?_
        refine lv_if_eq (tgt := 45) hx hb dX4_attempt_39 (by decide) (fun c_11 => ?_) (fun c_11 => ?_)
        · have hw := hw.1 c_11
          refine lv_aload_n hx hb dX4_attempt_45 rfl (lv_at hl 0 rfl) ?_
          refine g_X4_16 hx hb hown hts hK hW HR.1 rfl dX4_attempt_46 ?_
          refine lv_aload_n hx hb dX4_attempt_49 rfl (lv_at hl 0 rfl) ?_
          refine g_X4_10 hx hb hown hts hK hW HR.1 rfl dX4_attempt_50 ?_
          refine w_cvv (As := [.ref (o + 1)]) (rest := []) hx hb hml hown hts hK hW hS hl.1 (c_X0_copyFrom hA HR.2.2.1 HR.2.1 (fun _ _ => rfl) (fun _ _ => rfl) (by omega) hw) (k_X4_99 hts ⟨Nat.le_of_ble_eq_true rfl, Nat.le_of_ble_eq_true rfl⟩) (w_recv hK hW HR.2.2.1.1 rfl rfl rfl) rfl rfl (Nat.le_of_ble_eq_true rfl) dX4_attempt_53 ⟨Nat.zero_le _, Nat.zero_le _⟩ (fun Ez H locs hw2 hW hS => ?_)
          obtain ⟨Y_12, ez, hw⟩ := hw2
          rw [ez] at hW
          obtain ⟨X_13, eX_13⟩ : ∃ z : ES, z = put 26 (o + 27) Y_12 E0 := ⟨_, rfl⟩
          have hw := hw X_13 eX_13
          rw [← eX_13] at hW
          refine lv_aload_n hx hb dX4_attempt_56 rfl (lv_at hl 0 rfl) ?_
          refine g_X4_16 hx hb hown hts hK hW HR.1 rfl dX4_attempt_57 ?_
          refine lv_iload_n hx hb dX4_attempt_60 rfl (lv_at hl 1 rfl) ?_
          refine lv_iload_n hx hb dX4_attempt_61 rfl (lv_at hl 2 rfl) ?_
          refine w_cvi (As := [.int p1, .int p2]) (rest := []) hx hb hml hown hts hK hW hS hl.1 (c_X0_tryCall hA HR.2.2.1 (fun _ _ => rfl)  hw) (k_X4_116 hts ⟨Nat.le_of_ble_eq_true rfl, Nat.le_of_ble_eq_true rfl⟩) (w_recv hK hW HR.2.2.1.1 rfl rfl rfl) rfl rfl (Nat.le_of_ble_eq_true rfl) dX4_attempt_62 ⟨Nat.zero_le _, Nat.zero_le _⟩ (fun r_14 Ez H locs hw2 hW hS => ?_)
          obtain ⟨Y_15, ez, hw⟩ := hw2
          rw [ez] at hW
          obtain ⟨X_16, eX_16⟩ : ∃ z : ES, z = put 26 (o + 27) Y_15 X_13 := ⟨_, rfl⟩
          have hw := hw X_16 eX_16
          rw [← eX_16] at hW
          refine lv_istore (lv' := [(4, .int r_14), (0, .ref o), (1, .int p1), (2, .int p2), (3, .int p3)]) hx hb dX4_attempt_65 hl (by decide) rfl (fun ls hl => ?_)
          refine lv_iload_n hx hb dX4_attempt_67 rfl (lv_at hl 4 rfl) ?_
          refine lv_if_ne (tgt := 85) hx hb dX4_attempt_68 (by decide) (fun c_17 => ?_) (fun c_17 => ?_)
          · have hw := hw.2 c_17
            refine lv_iload hx hb dX4_attempt_85 (lv_at hl 0 rfl) ?_
            exact w_iret hx hb hr hlocks hW hS hw dX4_attempt_87
          · have hw := hw.1 c_17
            refine lv_aload_n hx hb dX4_attempt_71 rfl (lv_at hl 1 rfl) ?_
            refine g_X4_16 hx hb hown hts hK hW HR.1 rfl dX4_attempt_72 ?_
            refine lv_iload_n hx hb dX4_attempt_75 rfl (lv_at hl 2 rfl) ?_
            refine w_cvr (As := [.int p1]) (rest := []) hx hb hml hown hts hK hW hS hl.1 (c_X0_lineAt hA HR.2.2.1 p1) (k_X4_107 hts ⟨Nat.le_of_ble_eq_true rfl, Nat.le_of_ble_eq_true rfl⟩) (w_recv hK hW HR.2.2.1.1 rfl rfl rfl) rfl rfl (Nat.le_of_ble_eq_true rfl) dX4_attempt_76 ⟨Nat.zero_le _, Nat.zero_le _⟩ (fun q_18 Ez H locs hw2 hW hS => ?_)
            obtain ⟨ez, rfl⟩ := hw2
            rw [ez] at hW
            refine g_X4_111 hx hb hown hts hK hW (HR.2.2.1.2.2.2.2.1 _ (isLi_lix p1)) rfl dX4_attempt_79 ?_
            refine lv_goto (tgt := 87) hx hb dX4_attempt_82 (by decide) ?_
            exact w_iret hx hb hr hlocks hW hS hw dX4_attempt_87
        · have hw := hw.2 c_11
          refine lv_bipush (v := (-5)) hx hb dX4_attempt_42 (by decide) ?_
          exact w_iret hx hb hr hlocks hW hS hw dX4_attempt_44
      · have hw := hw.1 c_9
        refine lv_bipush (v := (-2)) hx hb dX4_attempt_25 (by decide) ?_
        exact w_iret hx hb hr hlocks hW hS hw dX4_attempt_27
    · have hw := hw.1 c_6
      refine lv_iconst (v := (-1)) hx hb dX4_attempt_14 (by decide) ?_
      exact w_iret hx hb hr hlocks hW hS hw dX4_attempt_15
set_option maxHeartbeats 4000000 in
set_option maxRecDepth 100000 in
theorem c_X4_put {l : Launch} {g : GG} {lay : LY} {E0 : ES} {o : Nat} {sv : Nat → Option Nat} {p1 : Int64} {K : Int32 → ES → Prop} (hA : okL g lay) (HR : RL4 g lay o sv) (hw : wp_X4_put o E0 p1 K) : JMi l g lay yX4_put wsX4_put rmX4_put [.ref o, .long p1] E0 (fun r E1 => K r E1) := by
  refine Met.ofW (cc := cX4_put) (maxL := 3) (ret := (some .int)) (by decide) rfl ?_
  intro p e s m args below meth c s₁ B hml hv
  obtain ⟨rfl, hK, hW⟩ := hv
  have hx := B.exec
  have hb := B.bytes
  have hr := B.returns
  have hts := gd_of (atoms_spec (ws := wsX4_put) B.pre)
  have hown : s.vm.findClass RX4 = some m.cls := findClass_of_methodNamed B.named
  have hlocks := B.notSynchronized
  have hS : va_S (Ab g) s.heap s.heap [] := va_S.rf
  have hl := lv_entry [.ref o, .long p1] (n := 3) (Nat.le_of_ble_eq_true rfl)
  rw [lg_entry_eq]
  generalize (lg_sl [.ref o, .long p1] ++ List.replicate (3 - (lg_sl [.ref o, .long p1]).length) Slot.unset).toArray = ls at hl ⊢
  have hl : lv_has ls 3 [(0, .ref o), (1, .long p1)] := hl
  unfold wp_X4_put at hw
  refine lv_aload_n hx hb dX4_put_0 rfl (lv_at hl 0 rfl) ?_
  refine g_X4_26 hx hb hown hts hK hW HR.1 rfl dX4_put_1 ?_
  refine lv_lload_n hx hb dX4_put_4 rfl (lv_at hl 1 rfl) ?_
  refine w_cvi (As := [.long p1]) (rest := []) hx hb hml hown hts hK hW hS hl.1 (c_X3_append hA HR.2.2.2.2 (fun _ _ => rfl)  hw) (k_X4_119 hts ⟨Nat.le_of_ble_eq_true rfl, Nat.le_of_ble_eq_true rfl⟩) (w_recv hK hW HR.2.2.2.2.1 rfl rfl rfl) rfl rfl (Nat.le_of_ble_eq_true rfl) dX4_put_5 ⟨Nat.zero_le _, Nat.zero_le _⟩ (fun r_1 Ez H locs hw2 hW hS => ?_)
  obtain ⟨Y_2, ez, hw⟩ := hw2
  rw [ez] at hW
  obtain ⟨X_3, eX_3⟩ : ∃ z : ES, z = put 2 (o + 54) Y_2 E0 := ⟨_, rfl⟩
  have hw := hw X_3 eX_3
  rw [← eX_3] at hW
  exact w_iret hx hb hr hlocks hW hS hw dX4_put_8
set_option maxHeartbeats 4000000 in
set_option maxRecDepth 100000 in
theorem c_X4_wipe {l : Launch} {g : GG} {lay : LY} {E0 : ES} {o : Nat} {sv : Nat → Option Nat} {K : Int32 → ES → Prop} (hA : okL g lay) (HR : RL4 g lay o sv) (hw : wp_X4_wipe o E0 K) : JMi l g lay yX4_wipe wsX4_wipe rmX4_wipe [.ref o] E0 (fun r E1 => K r E1) := by
  refine Met.ofW (cc := cX4_wipe) (maxL := 2) (ret := (some .int)) (by decide) rfl ?_
  intro p e s m args below meth c s₁ B hml hv
  obtain ⟨rfl, hK, hW⟩ := hv
  have hx := B.exec
  have hb := B.bytes
  have hr := B.returns
  have hts := gd_of (atoms_spec (ws := wsX4_wipe) B.pre)
  have hown : s.vm.findClass RX4 = some m.cls := findClass_of_methodNamed B.named
  have hlocks := B.notSynchronized
  have hS : va_S (Ab g) s.heap s.heap [] := va_S.rf
  have hl := lv_entry [.ref o] (n := 2) (Nat.le_of_ble_eq_true rfl)
  rw [lg_entry_eq]
  generalize (lg_sl [.ref o] ++ List.replicate (2 - (lg_sl [.ref o]).length) Slot.unset).toArray = ls at hl ⊢
  have hl : lv_has ls 2 [(0, .ref o)] := hl
  unfold wp_X4_wipe at hw
  refine lv_aload_n hx hb dX4_wipe_0 rfl (lv_at hl 0 rfl) ?_
  refine g_X4_26 hx hb hown hts hK hW HR.1 rfl dX4_wipe_1 ?_
  refine g_X4_92 hx hb hown hts hK hW HR.2.2.2.2.1 rfl dX4_wipe_4 ?_
  refine lv_topi (fun v_1 ev_1 => ?_)
  have hw := hw v_1 ev_1
  refine lv_istore_n (lv' := [(1, .int v_1), (0, .ref o)]) hx hb dX4_wipe_7 rfl hl (by decide) rfl (fun ls hl => ?_)
  refine lv_aload_n hx hb dX4_wipe_8 rfl (lv_at hl 1 rfl) ?_
  refine g_X4_26 hx hb hown hts hK hW HR.1 rfl dX4_wipe_9 ?_
  refine lv_iconst (v := 0) hx hb dX4_wipe_12 (by decide) ?_
  obtain ⟨X_2, eX_2⟩ : ∃ z : ES, z = va_up E0 (o + 54) (upd (E0 (o + 54)) 1 0) := ⟨_, rfl⟩
  have hw := hw X_2 eX_2
  refine p_X4_92 (E1 := X_2) hx hb hown hts hK hA hW hS HR.2.2.2.2.1 rfl dX4_wipe_13 eX_2.symm (fun H locs hW hS => ?_)
  refine lv_iload_n hx hb dX4_wipe_16 rfl (lv_at hl 0 rfl) ?_
  exact w_iret hx hb hr hlocks hW hS hw dX4_wipe_17
set_option maxHeartbeats 4000000 in
set_option maxRecDepth 100000 in
theorem c_X4_fault {l : Launch} {g : GG} {lay : LY} {E0 : ES} {o : Nat} {sv : Nat → Option Nat} {K : Int32 → Prop} (hA : okL g lay) (HR : RL4 g lay o sv) (hw : wp_X4_fault o E0 K) : JMi l g lay yX4_fault wsX4_fault rmX4_fault [.ref o] E0 (fun r E1 => E1 = E0 ∧ K r) := by
  refine Met.ofW (cc := cX4_fault) (maxL := 1) (ret := (some .int)) (by decide) rfl ?_
  intro p e s m args below meth c s₁ B hml hv
  obtain ⟨rfl, hK, hW⟩ := hv
  have hx := B.exec
  have hb := B.bytes
  have hr := B.returns
  have hts := gd_of (atoms_spec (ws := wsX4_fault) B.pre)
  have hown : s.vm.findClass RX4 = some m.cls := findClass_of_methodNamed B.named
  have hlocks := B.notSynchronized
  have hS : va_S (Ab g) s.heap s.heap [] := va_S.rf
  have hl := lv_entry [.ref o] (n := 1) (Nat.le_of_ble_eq_true rfl)
  rw [lg_entry_eq]
  generalize (lg_sl [.ref o] ++ List.replicate (1 - (lg_sl [.ref o]).length) Slot.unset).toArray = ls at hl ⊢
  have hl : lv_has ls 1 [(0, .ref o)] := hl
  unfold wp_X4_fault at hw
  refine lv_aload_n hx hb dX4_fault_0 rfl (lv_at hl 0 rfl) ?_
  refine g_X4_26 hx hb hown hts hK hW HR.1 rfl dX4_fault_1 ?_
  refine w_cvi (As := []) (rest := []) hx hb hml hown hts hK hW hS hl.1 (c_X3_firstFault hA HR.2.2.2.2 (fun _ _ => rfl)  hw) (k_X4_123 hts ⟨Nat.le_of_ble_eq_true rfl, Nat.le_of_ble_eq_true rfl⟩) (w_recv hK hW HR.2.2.2.2.1 rfl rfl rfl) rfl rfl (Nat.le_of_ble_eq_true rfl) dX4_fault_4 ⟨Nat.zero_le _, Nat.zero_le _⟩ (fun r_1 Ez H locs hw2 hW hS => ?_)
  obtain ⟨ez, hw⟩ := hw2
  rw [ez] at hW
  exact w_iret hx hb hr hlocks hW hS ⟨rfl, hw⟩ dX4_fault_7
set_option maxHeartbeats 4000000 in
set_option maxRecDepth 100000 in
theorem c_X4_dialsAll {l : Launch} {g : GG} {lay : LY} {E0 : ES} {o : Nat} {sv : Nat → Option Nat} {p1 : Int32} {p2 : Int32} {K : Int32 → ES → Prop} (hA : okL g lay) (HR : RL4 g lay o sv) (hw : wp_X4_dialsAll o E0 p1 p2 K) : JMi l g lay yX4_dialsAll wsX4_dialsAll rmX4_dialsAll [.ref o, .int p1, .int p2] E0 (fun r E1 => (r = 0 ∨ r = 1) ∧ K r E1) := by
  refine Met.ofW (cc := cX4_dialsAll) (maxL := 4) (ret := (some .boolean)) (by decide) rfl ?_
  intro p e s m args below meth c s₁ B hml hv
  obtain ⟨rfl, hK, hW⟩ := hv
  have hx := B.exec
  have hb := B.bytes
  have hr := B.returns
  have hts := gd_of (atoms_spec (ws := wsX4_dialsAll) B.pre)
  have hown : s.vm.findClass RX4 = some m.cls := findClass_of_methodNamed B.named
  have hlocks := B.notSynchronized
  have hS : va_S (Ab g) s.heap s.heap [] := va_S.rf
  have hl := lv_entry [.ref o, .int p1, .int p2] (n := 4) (Nat.le_of_ble_eq_true rfl)
  rw [lg_entry_eq]
  generalize (lg_sl [.ref o, .int p1, .int p2] ++ List.replicate (4 - (lg_sl [.ref o, .int p1, .int p2]).length) Slot.unset).toArray = ls at hl ⊢
  have hl : lv_has ls 4 [(0, .ref o), (1, .int p1), (2, .int p2)] := hl
  unfold wp_X4_dialsAll at hw
  refine lv_iload_n hx hb dX4_dialsAll_0 rfl (lv_at hl 2 rfl) ?_
  refine lv_istore_n (lv' := [(3, .int p2), (0, .ref o), (1, .int p1), (2, .int p2)]) hx hb dX4_dialsAll_1 rfl hl (by decide) rfl (fun ls hl => ?_)
  obtain ⟨n_29, hw⟩ := hw
  refine w_loop (KT := Int32 → ES → Prop) (σ := Int32 × ES) (Wl := fun Kx_2 n_2 q => wpl_X4_dialsAll_2 o p1 K Kx_2 n_2 q.1 q.2) (Pw := fun q => Wd g lay (q.2)) (lvf := fun q => [(0, .ref o), (1, .int p1), (2, .int p2), (3, .int q.1)]) (nL := 4) n_29 (p2, E0) hw hW hS (lv_sub hl [1, 2, 3, 0] rfl) (fun _ h => h) (fun Kx_2 eK_2 n_2 q H locs ls hw hW hS hl ih_2 => ?_)
  obtain ⟨i_1, X_2⟩ := q
  try dsimp only at hw
  rw [wpl_X4_dialsAll_2] at hw
  have hl : lv_has ls 4 [(0, .ref o), (1, .int p1), (2, .int p2), (3, .int i_1)] := hl
  have hW : Wd g lay (X_2) H := hW
  refine lv_iload_n hx hb dX4_dialsAll_2 rfl (lv_at hl 3 rfl) ?_
  refine lv_aload_n hx hb dX4_dialsAll_3 rfl (lv_at hl 0 rfl) ?_
  refine g_X4_26 hx hb hown hts hK hW HR.1 rfl dX4_dialsAll_4 ?_
  refine g_X4_92 hx hb hown hts hK hW HR.2.2.2.2.1 rfl dX4_dialsAll_7 ?_
  refine lv_icmp_ge (tgt := 57) hx hb dX4_dialsAll_10 (by decide) (fun c_18 => ?_) (fun c_18 => ?_)
  · have hw := hw.1 c_18
    rw [eK_2] at hw
    refine lv_iconst (v := 1) hx hb dX4_dialsAll_57 (by decide) ?_
    exact w_zret hx hb hr hlocks hW hS (Or.inr rfl) ⟨(Or.inr rfl), hw⟩ dX4_dialsAll_58
  · have hw := hw.2 c_18
    refine lv_aload_n hx hb dX4_dialsAll_13 rfl (lv_at hl 0 rfl) ?_
    refine g_X4_26 hx hb hown hts hK hW HR.1 rfl dX4_dialsAll_14 ?_
    refine lv_iload_n hx hb dX4_dialsAll_17 rfl (lv_at hl 3 rfl) ?_
    refine w_cvi (As := [.int i_1]) (rest := []) hx hb hml hown hts hK hW hS hl.1 (c_X3_codeAt hA HR.2.2.2.2 (fun _ _ => rfl)  hw) (k_X4_135 hts ⟨Nat.le_of_ble_eq_true rfl, Nat.le_of_ble_eq_true rfl⟩) (w_recv hK hW HR.2.2.2.2.1 rfl rfl rfl) rfl rfl (Nat.le_of_ble_eq_true rfl) dX4_dialsAll_18 ⟨Nat.zero_le _, Nat.zero_le _⟩ (fun r_19 Ez H locs hw2 hW hS => ?_)
    obtain ⟨ez, hw⟩ := hw2
    rw [ez] at hW
    refine w_csi (As := [.int r_19]) (rest := []) hx hb hml hown hts hK hW hS hl.1 (c_X3_isDigit hw) (k_X4_145 hts ⟨Nat.le_of_ble_eq_true rfl, Nat.le_of_ble_eq_true rfl⟩) rfl rfl (Nat.le_of_ble_eq_true rfl) dX4_dialsAll_21 ⟨Nat.zero_le _, Nat.zero_le _⟩ (fun r_20 Ez H locs hw2 hW hS => ?_)
    obtain ⟨ez, z_21, hw⟩ := hw2
    rw [ez] at hW
    refine lv_if_eq (tgt := 57) hx hb dX4_dialsAll_24 (by decide) (fun c_22 => ?_) (fun c_22 => ?_)
    · have hw := hw.1 c_22
      rw [eK_2] at hw
      refine lv_iconst (v := 1) hx hb dX4_dialsAll_57 (by decide) ?_
      exact w_zret hx hb hr hlocks hW hS (Or.inr rfl) ⟨(Or.inr rfl), hw⟩ dX4_dialsAll_58
    · have hw := hw.2 c_22
      refine lv_aload_n hx hb dX4_dialsAll_27 rfl (lv_at hl 0 rfl) ?_
      refine g_X4_10 hx hb hown hts hK hW HR.1 rfl dX4_dialsAll_28 ?_
      refine lv_iload_n hx hb dX4_dialsAll_31 rfl (lv_at hl 1 rfl) ?_
      refine lv_aload_n hx hb dX4_dialsAll_32 rfl (lv_at hl 0 rfl) ?_
      refine g_X4_26 hx hb hown hts hK hW HR.1 rfl dX4_dialsAll_33 ?_
      refine lv_iload_n hx hb dX4_dialsAll_36 rfl (lv_at hl 3 rfl) ?_
      refine w_cvi (As := [.int i_1]) (rest := [.int p1, .ref (o + 1)]) hx hb hml hown hts hK hW hS hl.1 (c_X3_codeAt hA HR.2.2.2.2 (fun _ _ => rfl)  hw) (k_X4_135 hts ⟨Nat.le_of_ble_eq_true rfl, Nat.le_of_ble_eq_true rfl⟩) (w_recv hK hW HR.2.2.2.2.1 rfl rfl rfl) rfl rfl (Nat.le_of_ble_eq_true rfl) dX4_dialsAll_37 ⟨Nat.zero_le _, Nat.zero_le _⟩ (fun r_23 Ez H locs hw2 hW hS => ?_)
      obtain ⟨ez, hw⟩ := hw2
      rw [ez] at hW
      refine lv_bipush (v := 48) hx hb dX4_dialsAll_40 (by decide) ?_
      refine lv_isub hx hb dX4_dialsAll_42 ?_
      refine w_cvi (As := [.int p1, .int (r_23 - 48)]) (rest := []) hx hb hml hown hts hK hW hS hl.1 (c_X0_dialDigit hA HR.2.1 (fun _ _ => rfl)  hw) (k_X4_61 hts ⟨Nat.le_of_ble_eq_true rfl, Nat.le_of_ble_eq_true rfl⟩) (w_recv hK hW HR.2.1.1 rfl rfl rfl) rfl rfl (Nat.le_of_ble_eq_true rfl) dX4_dialsAll_43 ⟨Nat.zero_le _, Nat.zero_le _⟩ (fun r_24 Ez H locs hw2 hW hS => ?_)
      obtain ⟨Y_25, ez, hw⟩ := hw2
      rw [ez] at hW
      obtain ⟨X_26, eX_26⟩ : ∃ z : ES, z = put 26 (o + 1) Y_25 X_2 := ⟨_, rfl⟩
      have hw := hw X_26 eX_26
      rw [← eX_26] at hW
      refine lv_if_ge (tgt := 51) hx hb dX4_dialsAll_46 (by decide) (fun c_27 => ?_) (fun c_27 => ?_)
      · have hw := hw.1 c_27
        obtain ⟨v_28, ev_28⟩ : ∃ z : Int32, z = i_1 + 1 := ⟨_, rfl⟩
        have hw := hw v_28 ev_28
        refine lv_iinc (v := v_28) (lv' := [(3, .int v_28), (0, .ref o), (1, .int p1), (2, .int p2)]) hx hb dX4_dialsAll_51 hl (k := 3) rfl (by rw [ev_28]; rfl) (by decide) rfl (fun ls hl => ?_)
        refine lv_goto (tgt := 2) hx hb dX4_dialsAll_54 (by decide) ?_
        exact ih_2 (v_28, X_26) _ _ _ hw hW hS (lv_sub hl [1, 2, 3, 0] rfl)
      · have hw := hw.2 c_27
        refine lv_iconst (v := 0) hx hb dX4_dialsAll_49 (by decide) ?_
        exact w_zret hx hb hr hlocks hW hS (Or.inl rfl) ⟨(Or.inl rfl), hw⟩ dX4_dialsAll_50
set_option maxHeartbeats 4000000 in
set_option maxRecDepth 100000 in
theorem c_X4_succeeds {l : Launch} {g : GG} {lay : LY} {E0 : ES} {o : Nat} {sv : Nat → Option Nat} {p1 : Int32} {K : Int32 → ES → Prop} (hA : okL g lay) (HR : RL4 g lay o sv) (hw : wp_X4_succeeds o E0 p1 K) : JMi l g lay yX4_succeeds wsX4_succeeds rmX4_succeeds [.ref o, .int p1] E0 (fun r E1 => (r = 0 ∨ r = 1) ∧ K r E1) := by
  refine Met.ofW (cc := cX4_succeeds) (maxL := 4) (ret := (some .boolean)) (by decide) rfl ?_
  intro p e s m args below meth c s₁ B hml hv
  obtain ⟨rfl, hK, hW⟩ := hv
  have hx := B.exec
  have hb := B.bytes
  have hr := B.returns
  have hts := gd_of (atoms_spec (ws := wsX4_succeeds) B.pre)
  have hown : s.vm.findClass RX4 = some m.cls := findClass_of_methodNamed B.named
  have hlocks := B.notSynchronized
  have hS : va_S (Ab g) s.heap s.heap [] := va_S.rf
  have hl := lv_entry [.ref o, .int p1] (n := 4) (Nat.le_of_ble_eq_true rfl)
  rw [lg_entry_eq]
  generalize (lg_sl [.ref o, .int p1] ++ List.replicate (4 - (lg_sl [.ref o, .int p1]).length) Slot.unset).toArray = ls at hl ⊢
  have hl : lv_has ls 4 [(0, .ref o), (1, .int p1)] := hl
  unfold wp_X4_succeeds at hw
  refine lv_aload_n hx hb dX4_succeeds_0 rfl (lv_at hl 0 rfl) ?_
  refine g_X4_26 hx hb hown hts hK hW HR.1 rfl dX4_succeeds_1 ?_
  refine lv_iload_n hx hb dX4_succeeds_4 rfl (lv_at hl 1 rfl) ?_
  refine lv_iconst (v := 1) hx hb dX4_succeeds_5 (by decide) ?_
  refine lv_iadd hx hb dX4_succeeds_6 ?_
  refine w_cvi (As := [.int (p1 + 1)]) (rest := []) hx hb hml hown hts hK hW hS hl.1 (c_X3_lineAt hA HR.2.2.2.2 (fun _ _ => rfl)  hw) (k_X4_133 hts ⟨Nat.le_of_ble_eq_true rfl, Nat.le_of_ble_eq_true rfl⟩) (w_recv hK hW HR.2.2.2.2.1 rfl rfl rfl) rfl rfl (Nat.le_of_ble_eq_true rfl) dX4_succeeds_7 ⟨Nat.zero_le _, Nat.zero_le _⟩ (fun r_1 Ez H locs hw2 hW hS => ?_)
  obtain ⟨ez, hw⟩ := hw2
  rw [ez] at hW
  refine lv_istore_n (lv' := [(2, .int r_1), (0, .ref o), (1, .int p1)]) hx hb dX4_succeeds_10 rfl hl (by decide) rfl (fun ls hl => ?_)
  refine lv_aload_n hx hb dX4_succeeds_11 rfl (lv_at hl 1 rfl) ?_
  refine g_X4_26 hx hb hown hts hK hW HR.1 rfl dX4_succeeds_12 ?_
  refine lv_iload_n hx hb dX4_succeeds_15 rfl (lv_at hl 2 rfl) ?_
  refine w_cvi (As := [.int p1]) (rest := []) hx hb hml hown hts hK hW hS hl.1 (c_X3_codeAt hA HR.2.2.2.2 (fun _ _ => rfl)  hw) (k_X4_135 hts ⟨Nat.le_of_ble_eq_true rfl, Nat.le_of_ble_eq_true rfl⟩) (w_recv hK hW HR.2.2.2.2.1 rfl rfl rfl) rfl rfl (Nat.le_of_ble_eq_true rfl) dX4_succeeds_16 ⟨Nat.zero_le _, Nat.zero_le _⟩ (fun r_2 Ez H locs hw2 hW hS => ?_)
  obtain ⟨ez, hw⟩ := hw2
  rw [ez] at hW
  by_cases c_3 : r_2 = 100
  · have hw := hw.1 c_3
    refine lv_lookup (tgt := 86) hx hb dX4_succeeds_19 (by decide) (by rw [c_3] <;> rfl) (by decide) ?_
    refine lv_aload_n hx hb dX4_succeeds_86 rfl (lv_at hl 1 rfl) ?_
    refine lv_iload_n hx hb dX4_succeeds_87 rfl (lv_at hl 0 rfl) ?_
    refine lv_iload_n hx hb dX4_succeeds_88 rfl (lv_at hl 2 rfl) ?_
    refine lv_iconst (v := 2) hx hb dX4_succeeds_89 (by decide) ?_
    refine lv_iadd hx hb dX4_succeeds_90 ?_
    refine w_cvi (As := [.int r_1, .int (p1 + 2)]) (rest := []) hx hb hml hown hts hK hW hS hl.1 (c_X4_dialsAll hA HR hw) (k_X4_138 hts ⟨Nat.le_of_ble_eq_true rfl, Nat.le_of_ble_eq_true rfl⟩) (w_recv hK hW HR.1 rfl rfl rfl) rfl rfl (Nat.le_of_ble_eq_true rfl) dX4_succeeds_91 ⟨Nat.zero_le _, Nat.zero_le _⟩ (fun r_4 X_6 H locs hw2 hW hS => ?_)
    obtain ⟨z_5, hw⟩ := hw2
    exact w_zret hx hb hr hlocks hW hS z_5 ⟨z_5, hw⟩ dX4_succeeds_94
  · have hw := hw.2 c_3
    by_cases c_7 : r_2 = 104
    · have hw := hw.1 c_7
      refine lv_lookup (tgt := 69) hx hb dX4_succeeds_19 (by decide) (by rw [c_7] <;> rfl) (by decide) ?_
      refine lv_aload_n hx hb dX4_succeeds_69 rfl (lv_at hl 1 rfl) ?_
      refine g_X4_10 hx hb hown hts hK hW HR.1 rfl dX4_succeeds_70 ?_
      refine lv_iload_n hx hb dX4_succeeds_73 rfl (lv_at hl 0 rfl) ?_
      refine w_cvi (As := [.int r_1]) (rest := []) hx hb hml hown hts hK hW hS hl.1 (c_X0_hangLine hA HR.2.1 (fun _ _ => rfl)  hw) (k_X4_58 hts ⟨Nat.le_of_ble_eq_true rfl, Nat.le_of_ble_eq_true rfl⟩) (w_recv hK hW HR.2.1.1 rfl rfl rfl) rfl rfl (Nat.le_of_ble_eq_true rfl) dX4_succeeds_74 ⟨Nat.zero_le _, Nat.zero_le _⟩ (fun r_8 Ez H locs hw2 hW hS => ?_)
      obtain ⟨Y_9, ez, hw⟩ := hw2
      rw [ez] at hW
      obtain ⟨X_10, eX_10⟩ : ∃ z : ES, z = put 26 (o + 1) Y_9 E0 := ⟨_, rfl⟩
      have hw := hw X_10 eX_10
      rw [← eX_10] at hW
      refine lv_if_lt (tgt := 84) hx hb dX4_succeeds_77 (by decide) (fun c_11 => ?_) (fun c_11 => ?_)
      · have hw := hw.1 c_11
        refine lv_iconst (v := 0) hx hb dX4_succeeds_84 (by decide) ?_
        exact w_zret hx hb hr hlocks hW hS (Or.inl rfl) ⟨(Or.inl rfl), hw⟩ dX4_succeeds_85
      · have hw := hw.2 c_11
        refine lv_iconst (v := 1) hx hb dX4_succeeds_80 (by decide) ?_
        refine lv_goto (tgt := 85) hx hb dX4_succeeds_81 (by decide) ?_
        exact w_zret hx hb hr hlocks hW hS (Or.inr rfl) ⟨(Or.inr rfl), hw⟩ dX4_succeeds_85
    · have hw := hw.2 c_7
      by_cases c_12 : r_2 = 108
      · have hw := hw.1 c_12
        refine lv_lookup (tgt := 52) hx hb dX4_succeeds_19 (by decide) (by rw [c_12] <;> rfl) (by decide) ?_
        refine lv_aload_n hx hb dX4_succeeds_52 rfl (lv_at hl 1 rfl) ?_
        refine g_X4_10 hx hb hown hts hK hW HR.1 rfl dX4_succeeds_53 ?_
        refine lv_iload_n hx hb dX4_succeeds_56 rfl (lv_at hl 0 rfl) ?_
        refine w_cvi (As := [.int r_1]) (rest := []) hx hb hml hown hts hK hW hS hl.1 (c_X0_liftLine hA HR.2.1 (fun _ _ => rfl)  hw) (k_X4_54 hts ⟨Nat.le_of_ble_eq_true rfl, Nat.le_of_ble_eq_true rfl⟩) (w_recv hK hW HR.2.1.1 rfl rfl rfl) rfl rfl (Nat.le_of_ble_eq_true rfl) dX4_succeeds_57 ⟨Nat.zero_le _, Nat.zero_le _⟩ (fun r_13 Ez H locs hw2 hW hS => ?_)
        obtain ⟨Y_14, ez, hw⟩ := hw2
        rw [ez] at hW
        obtain ⟨X_15, eX_15⟩ : ∃ z : ES, z = put 26 (o + 1) Y_14 E0 := ⟨_, rfl⟩
        have hw := hw X_15 eX_15
        rw [← eX_15] at hW
        refine lv_if_lt (tgt := 67) hx hb dX4_succeeds_60 (by decide) (fun c_16 => ?_) (fun c_16 => ?_)
        · have hw := hw.1 c_16
          refine lv_iconst (v := 0) hx hb dX4_succeeds_67 (by decide) ?_
          exact w_zret hx hb hr hlocks hW hS (Or.inl rfl) ⟨(Or.inl rfl), hw⟩ dX4_succeeds_68
        · have hw := hw.2 c_16
          refine lv_iconst (v := 1) hx hb dX4_succeeds_63 (by decide) ?_
          refine lv_goto (tgt := 68) hx hb dX4_succeeds_64 (by decide) ?_
          exact w_zret hx hb hr hlocks hW hS (Or.inr rfl) ⟨(Or.inr rfl), hw⟩ dX4_succeeds_68
      · have hw := hw.2 c_12
        refine lv_lookup (off := 76) (tgt := 95) hx hb dX4_succeeds_19 (by decide) (by show Op.lookupswitch.offset [(100, 67), (104, 50), (108, 33)] _ _ = _; rw [lv_osw (a := 100) c_3 (by decide), lv_osw (a := 104) c_7 (by decide), lv_osw (a := 108) c_12 (by decide)] <;> rfl) (by decide) ?_
        refine lv_aload_n hx hb dX4_succeeds_95 rfl (lv_at hl 1 rfl) ?_
        refine g_X4_26 hx hb hown hts hK hW HR.1 rfl dX4_succeeds_96 ?_
        refine lv_iload_n hx hb dX4_succeeds_99 rfl (lv_at hl 2 rfl) ?_
        refine lv_iconst (v := 1) hx hb dX4_succeeds_100 (by decide) ?_
        refine lv_iadd hx hb dX4_succeeds_101 ?_
        refine w_cvi (As := [.int (p1 + 1)]) (rest := []) hx hb hml hown hts hK hW hS hl.1 (c_X3_numberAt hA HR.2.2.2.2 (fun _ _ => rfl)  hw) (k_X4_142 hts ⟨Nat.le_of_ble_eq_true rfl, Nat.le_of_ble_eq_true rfl⟩) (w_recv hK hW HR.2.2.2.2.1 rfl rfl rfl) rfl rfl (Nat.le_of_ble_eq_true rfl) dX4_succeeds_102 ⟨Nat.zero_le _, Nat.zero_le _⟩ (fun r_17 Ez H locs hw2 hW hS => ?_)
        obtain ⟨ez, hw⟩ := hw2
        rw [ez] at hW
        refine lv_istore_n (lv' := [(3, .int r_17), (2, .int r_1), (0, .ref o), (1, .int p1)]) hx hb dX4_succeeds_105 rfl hl (by decide) rfl (fun ls hl => ?_)
        refine lv_aload_n hx hb dX4_succeeds_106 rfl (lv_at hl 2 rfl) ?_
        refine g_X4_10 hx hb hown hts hK hW HR.1 rfl dX4_succeeds_107 ?_
        refine lv_iload_n hx hb dX4_succeeds_110 rfl (lv_at hl 0 rfl) ?_
        refine w_cvi (As := [.int r_17]) (rest := []) hx hb hml hown hts hK hW hS hl.1 (c_X0_hasTimeFor hA HR.2.1 (fun _ _ => rfl)  hw) (k_X4_64 hts ⟨Nat.le_of_ble_eq_true rfl, Nat.le_of_ble_eq_true rfl⟩) (w_recv hK hW HR.2.1.1 rfl rfl rfl) rfl rfl (Nat.le_of_ble_eq_true rfl) dX4_succeeds_111 ⟨Nat.zero_le _, Nat.zero_le _⟩ (fun r_18 Ez H locs hw2 hW hS => ?_)
        obtain ⟨ez, z_19, hw⟩ := hw2
        rw [ez] at hW
        refine lv_if_ne (tgt := 119) hx hb dX4_succeeds_114 (by decide) (fun c_20 => ?_) (fun c_20 => ?_)
        · have hw := hw.2 c_20
          refine lv_aload_n hx hb dX4_succeeds_119 rfl (lv_at hl 2 rfl) ?_
          refine g_X4_10 hx hb hown hts hK hW HR.1 rfl dX4_succeeds_120 ?_
          refine lv_iload_n hx hb dX4_succeeds_123 rfl (lv_at hl 0 rfl) ?_
          refine w_cvv (As := [.int r_17]) (rest := []) hx hb hml hown hts hK hW hS hl.1 (c_X0_pass hA HR.2.1 (fun _ _ => rfl)  hw) (k_X4_67 hts ⟨Nat.le_of_ble_eq_true rfl, Nat.le_of_ble_eq_true rfl⟩) (w_recv hK hW HR.2.1.1 rfl rfl rfl) rfl rfl (Nat.le_of_ble_eq_true rfl) dX4_succeeds_124 ⟨Nat.zero_le _, Nat.zero_le _⟩ (fun Ez H locs hw2 hW hS => ?_)
          obtain ⟨Y_21, ez, hw⟩ := hw2
          rw [ez] at hW
          obtain ⟨X_22, eX_22⟩ : ∃ z : ES, z = put 26 (o + 1) Y_21 E0 := ⟨_, rfl⟩
          have hw := hw X_22 eX_22
          rw [← eX_22] at hW
          refine lv_iconst (v := 1) hx hb dX4_succeeds_127 (by decide) ?_
          exact w_zret hx hb hr hlocks hW hS (Or.inr rfl) ⟨(Or.inr rfl), hw⟩ dX4_succeeds_128
        · have hw := hw.1 c_20
          refine lv_iconst (v := 0) hx hb dX4_succeeds_117 (by decide) ?_
          exact w_zret hx hb hr hlocks hW hS (Or.inl rfl) ⟨(Or.inl rfl), hw⟩ dX4_succeeds_118
set_option maxHeartbeats 4000000 in
set_option maxRecDepth 100000 in
theorem c_X4_carryOut {l : Launch} {g : GG} {lay : LY} {E0 : ES} {o : Nat} {sv : Nat → Option Nat} {K : Int32 → ES → Prop} (hA : okL g lay) (HR : RL4 g lay o sv) (hw : wp_X4_carryOut o E0 K) : JMi l g lay yX4_carryOut wsX4_carryOut rmX4_carryOut [.ref o] E0 (fun r E1 => K r E1) := by
  refine Met.ofW (cc := cX4_carryOut) (maxL := 3) (ret := (some .int)) (by decide) rfl ?_
  intro p e s m args below meth c s₁ B hml hv
  obtain ⟨rfl, hK, hW⟩ := hv
  have hx := B.exec
  have hb := B.bytes
  have hr := B.returns
  have hts := gd_of (atoms_spec (ws := wsX4_carryOut) B.pre)
  have hown : s.vm.findClass RX4 = some m.cls := findClass_of_methodNamed B.named
  have hlocks := B.notSynchronized
  have hS : va_S (Ab g) s.heap s.heap [] := va_S.rf
  have hl := lv_entry [.ref o] (n := 3) (Nat.le_of_ble_eq_true rfl)
  rw [lg_entry_eq]
  generalize (lg_sl [.ref o] ++ List.replicate (3 - (lg_sl [.ref o]).length) Slot.unset).toArray = ls at hl ⊢
  have hl : lv_has ls 3 [(0, .ref o)] := hl
  unfold wp_X4_carryOut at hw
  refine lv_aload_n hx hb dX4_carryOut_0 rfl (lv_at hl 0 rfl) ?_
  refine g_X4_26 hx hb hown hts hK hW HR.1 rfl dX4_carryOut_1 ?_
  refine w_cvi (As := []) (rest := []) hx hb hml hown hts hK hW hS hl.1 (c_X3_firstFault hA HR.2.2.2.2 (fun _ _ => rfl)  hw) (k_X4_123 hts ⟨Nat.le_of_ble_eq_true rfl, Nat.le_of_ble_eq_true rfl⟩) (w_recv hK hW HR.2.2.2.2.1 rfl rfl rfl) rfl rfl (Nat.le_of_ble_eq_true rfl) dX4_carryOut_4 ⟨Nat.zero_le _, Nat.zero_le _⟩ (fun r_1 Ez H locs hw2 hW hS => ?_)
  obtain ⟨ez, hw⟩ := hw2
  rw [ez] at hW
  refine lv_bipush (v := (-6)) hx hb dX4_carryOut_7 (by decide) ?_
  refine lv_icmp_eq (tgt := 15) hx hb dX4_carryOut_9 (by decide) (fun c_2 => ?_) (fun c_2 => ?_)
  · have hw := hw.1 c_2
    refine lv_iconst (v := 0) hx hb dX4_carryOut_15 (by decide) ?_
    refine lv_istore_n (lv' := [(1, .int 0), (0, .ref o)]) hx hb dX4_carryOut_16 rfl hl (by decide) rfl (fun ls hl => ?_)
    refine lv_iconst (v := 0) hx hb dX4_carryOut_17 (by decide) ?_
    refine lv_istore_n (lv' := [(2, .int 0), (1, .int 0), (0, .ref o)]) hx hb dX4_carryOut_18 rfl hl (by decide) rfl (fun ls hl => ?_)
    obtain ⟨n_36, hw⟩ := hw
    refine w_loop (KT := Int32 → Int32 → ES → Prop) (σ := Int32 × Int32 × ES) (Wl := fun Kx_19 n_19 q => wpl_X4_carryOut_19 o K Kx_19 n_19 q.1 q.2.1 q.2.2) (Pw := fun q => Wd g lay (q.2.2)) (lvf := fun q => [(0, .ref o), (1, .int q.1), (2, .int q.2.1)]) (nL := 3) n_36 (0, 0, E0) hw hW hS (lv_sub hl [2, 1, 0] rfl) (fun _ h => h) (fun Kx_19 eK_19 n_19 q H locs ls hw hW hS hl ih_19 => ?_)
    obtain ⟨i_3, i_4, X_5⟩ := q
    try dsimp only at hw
    rw [wpl_X4_carryOut_19] at hw
    have hl : lv_has ls 3 [(0, .ref o), (1, .int i_3), (2, .int i_4)] := hl
    have hW : Wd g lay (X_5) H := hW
    refine lv_iload_n hx hb dX4_carryOut_19 rfl (lv_at hl 2 rfl) ?_
    refine lv_aload_n hx hb dX4_carryOut_20 rfl (lv_at hl 0 rfl) ?_
    refine g_X4_26 hx hb hown hts hK hW HR.1 rfl dX4_carryOut_21 ?_
    refine g_X4_92 hx hb hown hts hK hW HR.2.2.2.2.1 rfl dX4_carryOut_24 ?_
    refine lv_icmp_ge (tgt := 61) hx hb dX4_carryOut_27 (by decide) (fun c_23 => ?_) (fun c_23 => ?_)
    · have hw := hw.1 c_23
      rw [eK_19] at hw
      refine lv_aload_n hx hb dX4_carryOut_61 rfl (lv_at hl 0 rfl) ?_
      refine g_X4_26 hx hb hown hts hK hW HR.1 rfl dX4_carryOut_62 ?_
      refine lv_iconst (v := 0) hx hb dX4_carryOut_65 (by decide) ?_
      obtain ⟨X_24, eX_24⟩ : ∃ z : ES, z = va_up X_5 (o + 54) (upd (X_5 (o + 54)) 1 0) := ⟨_, rfl⟩
      have hw := hw X_24 eX_24
      refine p_X4_92 (E1 := X_24) hx hb hown hts hK hA hW hS HR.2.2.2.2.1 rfl dX4_carryOut_66 eX_24.symm (fun H locs hW hS => ?_)
      refine lv_iload_n hx hb dX4_carryOut_69 rfl (lv_at hl 1 rfl) ?_
      exact w_iret hx hb hr hlocks hW hS hw dX4_carryOut_70
    · have hw := hw.2 c_23
      refine lv_aload_n hx hb dX4_carryOut_30 rfl (lv_at hl 0 rfl) ?_
      refine g_X4_26 hx hb hown hts hK hW HR.1 rfl dX4_carryOut_31 ?_
      refine lv_iload_n hx hb dX4_carryOut_34 rfl (lv_at hl 2 rfl) ?_
      refine w_cvi (As := [.int i_4]) (rest := []) hx hb hml hown hts hK hW hS hl.1 (c_X3_beginsAnAct hA HR.2.2.2.2 (fun _ _ => rfl)  hw) (k_X4_127 hts ⟨Nat.le_of_ble_eq_true rfl, Nat.le_of_ble_eq_true rfl⟩) (w_recv hK hW HR.2.2.2.2.1 rfl rfl rfl) rfl rfl (Nat.le_of_ble_eq_true rfl) dX4_carryOut_35 ⟨Nat.zero_le _, Nat.zero_le _⟩ (fun r_25 Ez H locs hw2 hW hS => ?_)
      obtain ⟨ez, z_26, hw⟩ := hw2
      rw [ez] at hW
      refine lv_if_eq (tgt := 55) hx hb dX4_carryOut_38 (by decide) (fun c_27 => ?_) (fun c_27 => ?_)
      · have hw := hw.1 c_27
        obtain ⟨v_28, ev_28⟩ : ∃ z : Int32, z = i_4 + 1 := ⟨_, rfl⟩
        have hw := hw v_28 ev_28
        refine lv_iinc (v := v_28) (lv' := [(2, .int v_28), (0, .ref o), (1, .int i_3)]) hx hb dX4_carryOut_55 hl (k := 2) rfl (by rw [ev_28]; rfl) (by decide) rfl (fun ls hl => ?_)
        refine lv_goto (tgt := 19) hx hb dX4_carryOut_58 (by decide) ?_
        exact ih_19 (i_3, v_28, X_5) _ _ _ hw hW hS (lv_sub hl [1, 2, 0] rfl)
      · have hw := hw.2 c_27
        refine lv_aload_n hx hb dX4_carryOut_41 rfl (lv_at hl 0 rfl) ?_
        refine lv_iload_n hx hb dX4_carryOut_42 rfl (lv_at hl 2 rfl) ?_
        refine w_cvi (As := [.int i_4]) (rest := []) hx hb hml hown hts hK hW hS hl.1 (c_X4_succeeds hA HR hw) (k_X4_130 hts ⟨Nat.le_of_ble_eq_true rfl, Nat.le_of_ble_eq_true rfl⟩) (w_recv hK hW HR.1 rfl rfl rfl) rfl rfl (Nat.le_of_ble_eq_true rfl) dX4_carryOut_43 ⟨Nat.zero_le _, Nat.zero_le _⟩ (fun r_29 X_31 H locs hw2 hW hS => ?_)
        obtain ⟨z_30, hw⟩ := hw2
        refine lv_if_ne (tgt := 52) hx hb dX4_carryOut_46 (by decide) (fun c_32 => ?_) (fun c_32 => ?_)
        · have hw := hw.2 c_32
          obtain ⟨v_33, ev_33⟩ : ∃ z : Int32, z = i_3 + 1 := ⟨_, rfl⟩
          have hw := hw v_33 ev_33
          refine lv_iinc (v := v_33) (lv' := [(1, .int v_33), (0, .ref o), (2, .int i_4)]) hx hb dX4_carryOut_52 hl (k := 1) rfl (by rw [ev_33]; rfl) (by decide) rfl (fun ls hl => ?_)
          obtain ⟨v_34, ev_34⟩ : ∃ z : Int32, z = i_4 + 1 := ⟨_, rfl⟩
          have hw := hw v_34 ev_34
          refine lv_iinc (v := v_34) (lv' := [(2, .int v_34), (1, .int v_33), (0, .ref o)]) hx hb dX4_carryOut_55 hl (k := 2) rfl (by rw [ev_34]; rfl) (by decide) rfl (fun ls hl => ?_)
          refine lv_goto (tgt := 19) hx hb dX4_carryOut_58 (by decide) ?_
          exact ih_19 (v_33, v_34, X_31) _ _ _ hw hW hS (lv_sub hl [2, 1, 0] rfl)
        · have hw := hw.1 c_32
          refine lv_goto (tgt := 61) hx hb dX4_carryOut_49 (by decide) ?_
          rw [eK_19] at hw
          refine lv_aload_n hx hb dX4_carryOut_61 rfl (lv_at hl 0 rfl) ?_
          refine g_X4_26 hx hb hown hts hK hW HR.1 rfl dX4_carryOut_62 ?_
          refine lv_iconst (v := 0) hx hb dX4_carryOut_65 (by decide) ?_
          obtain ⟨X_35, eX_35⟩ : ∃ z : ES, z = va_up X_31 (o + 54) (upd (X_31 (o + 54)) 1 0) := ⟨_, rfl⟩
          have hw := hw X_35 eX_35
          refine p_X4_92 (E1 := X_35) hx hb hown hts hK hA hW hS HR.2.2.2.2.1 rfl dX4_carryOut_66 eX_35.symm (fun H locs hW hS => ?_)
          refine lv_iload_n hx hb dX4_carryOut_69 rfl (lv_at hl 1 rfl) ?_
          exact w_iret hx hb hr hlocks hW hS hw dX4_carryOut_70
  · have hw := hw.2 c_2
    refine lv_bipush (v := (-3)) hx hb dX4_carryOut_12 (by decide) ?_
    exact w_iret hx hb hr hlocks hW hS hw dX4_carryOut_14
