set_option maxHeartbeats 4000000 in
set_option maxRecDepth 100000 in
theorem c_X2_leaveCall {l : Launch} {g : GG} {lay : LY} {E0 : ES} {a : Nat} {L : CS} {p1 : Int32} {K : CS → Prop} (hA : okL g lay) (hla : lay a = some lineE) (hL : E0 a = L) (hw : wp_X2_leaveCall L p1 K) : JMv l g lay yX2_leaveCall wsX2_leaveCall rmX2_leaveCall [.ref a, .int p1] E0 (fun E1 => ∃ L1 : CS, E1 = va_up E0 a L1 ∧ K L1) := by
  refine Met.ofW (cc := cX2_leaveCall) (maxL := 2) (ret := none) (by decide) rfl ?_
  intro p e s m args below meth c s₁ B hml hv
  obtain ⟨rfl, hK, hW⟩ := hv
  have hx := B.exec
  have hb := B.bytes
  have hr := B.returns
  have hts := gd_of (atoms_spec (ws := wsX2_leaveCall) B.pre)
  have hown : s.vm.findClass RX2 = some m.cls := findClass_of_methodNamed B.named
  have hlocks := B.notSynchronized
  have hS : va_S (Ab g) s.heap s.heap [] := va_S.rf
  have hW : Wd g lay (va_up E0 a L) s.heap := by rw [← hL, vuSelf]; exact hW
  have hl := lv_entry [.ref a, .int p1] (n := 2) (Nat.le_of_ble_eq_true rfl)
  rw [lg_entry_eq]
  generalize (lg_sl [.ref a, .int p1] ++ List.replicate (2 - (lg_sl [.ref a, .int p1]).length) Slot.unset).toArray = ls at hl ⊢
  have hl : lv_has ls 2 [(0, .ref a), (1, .int p1)] := hl
  unfold wp_X2_leaveCall at hw
  refine lv_aload_n hx hb dX2_leaveCall_0 rfl (lv_at hl 0 rfl) ?_
  refine lv_iload_n hx hb dX2_leaveCall_1 rfl (lv_at hl 1 rfl) ?_
  obtain ⟨X_1, eX_1⟩ : ∃ z : CS, z = upd L 0 p1 := ⟨_, rfl⟩
  have hw := hw X_1 eX_1
  refine p_X2_9 (E1 := va_up E0 a X_1) hx hb hown hts hK hA hW hS hla (vuS _ _ _) dX2_leaveCall_2 (vuE eX_1) (fun H locs hW hS => ?_)
  refine lv_aload_n hx hb dX2_leaveCall_5 rfl (lv_at hl 0 rfl) ?_
  refine lv_bipush (v := (-6)) hx hb dX2_leaveCall_6 (by decide) ?_
  obtain ⟨X_2, eX_2⟩ : ∃ z : CS, z = upd X_1 6 (-6) := ⟨_, rfl⟩
  have hw := hw X_2 eX_2
  refine p_X2_31 (E1 := va_up E0 a X_2) hx hb hown hts hK hA hW hS hla (vuS _ _ _) dX2_leaveCall_8 (vuE eX_2) (fun H locs hW hS => ?_)
  refine lv_aload_n hx hb dX2_leaveCall_11 rfl (lv_at hl 0 rfl) ?_
  refine lv_iconst (v := 0) hx hb dX2_leaveCall_12 (by decide) ?_
  obtain ⟨X_3, eX_3⟩ : ∃ z : CS, z = upd X_2 8 0 := ⟨_, rfl⟩
  have hw := hw X_3 eX_3
  refine p_X2_37 (E1 := va_up E0 a X_3) hx hb hown hts hK hA hW hS hla (vuS _ _ _) dX2_leaveCall_13 (vuE eX_3) (fun H locs hW hS => ?_)
  refine lv_aload_n hx hb dX2_leaveCall_16 rfl (lv_at hl 0 rfl) ?_
  refine lv_iconst (v := 0) hx hb dX2_leaveCall_17 (by decide) ?_
  obtain ⟨X_4, eX_4⟩ : ∃ z : CS, z = upd X_3 4 0 := ⟨_, rfl⟩
  have hw := hw X_4 eX_4
  refine p_X2_25 (E1 := va_up E0 a X_4) hx hb hown hts hK hA hW hS hla (vuS _ _ _) dX2_leaveCall_18 (vuE eX_4) (fun H locs hW hS => ?_)
  refine lv_aload_n hx hb dX2_leaveCall_21 rfl (lv_at hl 0 rfl) ?_
  refine lv_iconst (v := 0) hx hb dX2_leaveCall_22 (by decide) ?_
  obtain ⟨X_5, eX_5⟩ : ∃ z : CS, z = upd X_4 5 0 := ⟨_, rfl⟩
  have hw := hw X_5 eX_5
  refine p_X2_28 (E1 := va_up E0 a X_5) hx hb hown hts hK hA hW hS hla (vuS _ _ _) dX2_leaveCall_23 (vuE eX_5) (fun H locs hW hS => ?_)
  exact w_vret hx hb hr hlocks hW hS ⟨X_5, rfl, hw⟩ dX2_leaveCall_26
set_option maxHeartbeats 4000000 in
set_option maxRecDepth 100000 in
theorem c_X2_renew {l : Launch} {g : GG} {lay : LY} {E0 : ES} {a : Nat} {L : CS} {K : CS → Prop} (hA : okL g lay) (hla : lay a = some lineE) (hL : E0 a = L) (hw : wp_X2_renew L K) : JMv l g lay yX2_renew wsX2_renew rmX2_renew [.ref a] E0 (fun E1 => ∃ L1 : CS, E1 = va_up E0 a L1 ∧ K L1) := by
  refine Met.ofW (cc := cX2_renew) (maxL := 1) (ret := none) (by decide) rfl ?_
  intro p e s m args below meth c s₁ B hml hv
  obtain ⟨rfl, hK, hW⟩ := hv
  have hx := B.exec
  have hb := B.bytes
  have hr := B.returns
  have hts := gd_of (atoms_spec (ws := wsX2_renew) B.pre)
  have hown : s.vm.findClass RX2 = some m.cls := findClass_of_methodNamed B.named
  have hlocks := B.notSynchronized
  have hS : va_S (Ab g) s.heap s.heap [] := va_S.rf
  have hW : Wd g lay (va_up E0 a L) s.heap := by rw [← hL, vuSelf]; exact hW
  have hl := lv_entry [.ref a] (n := 1) (Nat.le_of_ble_eq_true rfl)
  rw [lg_entry_eq]
  generalize (lg_sl [.ref a] ++ List.replicate (1 - (lg_sl [.ref a]).length) Slot.unset).toArray = ls at hl ⊢
  have hl : lv_has ls 1 [(0, .ref a)] := hl
  unfold wp_X2_renew at hw
  refine lv_aload_n hx hb dX2_renew_0 rfl (lv_at hl 0 rfl) ?_
  refine lv_iconst (v := 0) hx hb dX2_renew_1 (by decide) ?_
  refine w_cvv (As := [.int 0]) (rest := []) hx hb hml hown hts hK hW hS hl.1 (c_X2_leaveCall hA hla (vuS _ _ _) hw) (k_X2_40 hts ⟨Nat.le_of_ble_eq_true rfl, Nat.le_of_ble_eq_true rfl⟩) (w_recv hK hW hla (vuS _ _ _) rfl rfl) rfl rfl (Nat.le_of_ble_eq_true rfl) dX2_renew_2 ⟨Nat.zero_le _, Nat.zero_le _⟩ (fun Ez H locs hw2 hW hS => ?_)
  obtain ⟨Y_1, ez, hw⟩ := hw2
  rw [ez] at hW
  have hW : Wd g lay (va_up E0 a Y_1) H := by rw [← vuU E0 a L Y_1]; exact hW
  refine lv_aload_n hx hb dX2_renew_5 rfl (lv_at hl 0 rfl) ?_
  refine lv_iconst (v := 0) hx hb dX2_renew_6 (by decide) ?_
  obtain ⟨X_3, eX_3⟩ : ∃ z : CS, z = upd Y_1 1 0 := ⟨_, rfl⟩
  have hw := hw X_3 eX_3
  refine p_X2_15 (E1 := va_up E0 a X_3) hx hb hown hts hK hA hW hS hla (vuS _ _ _) (Or.inl rfl) dX2_renew_7 (vuE eX_3) (fun H locs hW hS => ?_)
  refine lv_aload_n hx hb dX2_renew_10 rfl (lv_at hl 0 rfl) ?_
  refine lv_iconst (v := 0) hx hb dX2_renew_11 (by decide) ?_
  obtain ⟨X_4, eX_4⟩ : ∃ z : CS, z = upd X_3 2 0 := ⟨_, rfl⟩
  have hw := hw X_4 eX_4
  refine p_X2_19 (E1 := va_up E0 a X_4) hx hb hown hts hK hA hW hS hla (vuS _ _ _) dX2_renew_12 (vuE eX_4) (fun H locs hW hS => ?_)
  refine lv_aload_n hx hb dX2_renew_15 rfl (lv_at hl 0 rfl) ?_
  refine lv_iconst (v := 0) hx hb dX2_renew_16 (by decide) ?_
  obtain ⟨X_5, eX_5⟩ : ∃ z : CS, z = upd X_4 3 0 := ⟨_, rfl⟩
  have hw := hw X_5 eX_5
  refine p_X2_22 (E1 := va_up E0 a X_5) hx hb hown hts hK hA hW hS hla (vuS _ _ _) dX2_renew_17 (vuE eX_5) (fun H locs hW hS => ?_)
  refine lv_aload_n hx hb dX2_renew_20 rfl (lv_at hl 0 rfl) ?_
  refine lv_iconst (v := 0) hx hb dX2_renew_21 (by decide) ?_
  obtain ⟨X_6, eX_6⟩ : ∃ z : CS, z = upd X_5 7 0 := ⟨_, rfl⟩
  have hw := hw X_6 eX_6
  refine p_X2_34 (E1 := va_up E0 a X_6) hx hb hown hts hK hA hW hS hla (vuS _ _ _) dX2_renew_22 (vuE eX_6) (fun H locs hW hS => ?_)
  exact w_vret hx hb hr hlocks hW hS ⟨X_6, rfl, hw⟩ dX2_renew_25
set_option maxHeartbeats 4000000 in
set_option maxRecDepth 100000 in
theorem c_X1_become {l : Launch} {g : GG} {lay : LY} {E0 : ES} {a : Nat} {L : CS} {p1 : Int32} {K : CS → Prop} (hA : okL g lay) (hla : lay a = some finE) (hL : E0 a = L) (hw : wp_X1_become L p1 K) : JMv l g lay yX1_become wsX1_become rmX1_become [.ref a, .int p1] E0 (fun E1 => ∃ L1 : CS, E1 = va_up E0 a L1 ∧ K L1) := by
  refine Met.ofW (cc := cX1_become) (maxL := 2) (ret := none) (by decide) rfl ?_
  intro p e s m args below meth c s₁ B hml hv
  obtain ⟨rfl, hK, hW⟩ := hv
  have hx := B.exec
  have hb := B.bytes
  have hr := B.returns
  have hts := gd_of (atoms_spec (ws := wsX1_become) B.pre)
  have hown : s.vm.findClass RX1 = some m.cls := findClass_of_methodNamed B.named
  have hlocks := B.notSynchronized
  have hS : va_S (Ab g) s.heap s.heap [] := va_S.rf
  have hW : Wd g lay (va_up E0 a L) s.heap := by rw [← hL, vuSelf]; exact hW
  have hl := lv_entry [.ref a, .int p1] (n := 2) (Nat.le_of_ble_eq_true rfl)
  rw [lg_entry_eq]
  generalize (lg_sl [.ref a, .int p1] ++ List.replicate (2 - (lg_sl [.ref a, .int p1]).length) Slot.unset).toArray = ls at hl ⊢
  have hl : lv_has ls 2 [(0, .ref a), (1, .int p1)] := hl
  unfold wp_X1_become at hw
  refine lv_aload_n hx hb dX1_become_0 rfl (lv_at hl 0 rfl) ?_
  refine lv_iload_n hx hb dX1_become_1 rfl (lv_at hl 1 rfl) ?_
  obtain ⟨X_1, eX_1⟩ : ∃ z : CS, z = upd L 0 p1 := ⟨_, rfl⟩
  have hw := hw X_1 eX_1
  refine p_X1_9 (E1 := va_up E0 a X_1) hx hb hown hts hK hA hW hS hla (vuS _ _ _) dX1_become_2 (vuE eX_1) (fun H locs hW hS => ?_)
  refine lv_aload_n hx hb dX1_become_5 rfl (lv_at hl 0 rfl) ?_
  refine lv_iconst (v := 0) hx hb dX1_become_6 (by decide) ?_
  obtain ⟨X_2, eX_2⟩ : ∃ z : CS, z = upd X_1 7 0 := ⟨_, rfl⟩
  have hw := hw X_2 eX_2
  refine p_X1_33 (E1 := va_up E0 a X_2) hx hb hown hts hK hA hW hS hla (vuS _ _ _) dX1_become_7 (vuE eX_2) (fun H locs hW hS => ?_)
  refine lv_aload_n hx hb dX1_become_10 rfl (lv_at hl 0 rfl) ?_
  refine lv_iconst (v := 0) hx hb dX1_become_11 (by decide) ?_
  obtain ⟨X_3, eX_3⟩ : ∃ z : CS, z = upd X_2 8 0 := ⟨_, rfl⟩
  have hw := hw X_3 eX_3
  refine p_X1_36 (E1 := va_up E0 a X_3) hx hb hown hts hK hA hW hS hla (vuS _ _ _) dX1_become_12 (vuE eX_3) (fun H locs hW hS => ?_)
  exact w_vret hx hb hr hlocks hW hS ⟨X_3, rfl, hw⟩ dX1_become_15
set_option maxHeartbeats 4000000 in
set_option maxRecDepth 100000 in
theorem c_X1_becomeFree {l : Launch} {g : GG} {lay : LY} {E0 : ES} {a : Nat} {L : CS} {K : CS → Prop} (hA : okL g lay) (hla : lay a = some finE) (hL : E0 a = L) (hw : wp_X1_becomeFree L K) : JMv l g lay yX1_becomeFree wsX1_becomeFree rmX1_becomeFree [.ref a] E0 (fun E1 => ∃ L1 : CS, E1 = va_up E0 a L1 ∧ K L1) := by
  refine Met.ofW (cc := cX1_becomeFree) (maxL := 1) (ret := none) (by decide) rfl ?_
  intro p e s m args below meth c s₁ B hml hv
  obtain ⟨rfl, hK, hW⟩ := hv
  have hx := B.exec
  have hb := B.bytes
  have hr := B.returns
  have hts := gd_of (atoms_spec (ws := wsX1_becomeFree) B.pre)
  have hown : s.vm.findClass RX1 = some m.cls := findClass_of_methodNamed B.named
  have hlocks := B.notSynchronized
  have hS : va_S (Ab g) s.heap s.heap [] := va_S.rf
  have hW : Wd g lay (va_up E0 a L) s.heap := by rw [← hL, vuSelf]; exact hW
  have hl := lv_entry [.ref a] (n := 1) (Nat.le_of_ble_eq_true rfl)
  rw [lg_entry_eq]
  generalize (lg_sl [.ref a] ++ List.replicate (1 - (lg_sl [.ref a]).length) Slot.unset).toArray = ls at hl ⊢
  have hl : lv_has ls 1 [(0, .ref a)] := hl
  unfold wp_X1_becomeFree at hw
  refine lv_aload_n hx hb dX1_becomeFree_0 rfl (lv_at hl 0 rfl) ?_
  refine lv_iconst (v := 0) hx hb dX1_becomeFree_1 (by decide) ?_
  refine w_cvv (As := [.int 0]) (rest := []) hx hb hml hown hts hK hW hS hl.1 (c_X1_become hA hla (vuS _ _ _) hw) (k_X1_45 hts ⟨Nat.le_of_ble_eq_true rfl, Nat.le_of_ble_eq_true rfl⟩) (w_recv hK hW hla (vuS _ _ _) rfl rfl) rfl rfl (Nat.le_of_ble_eq_true rfl) dX1_becomeFree_2 ⟨Nat.zero_le _, Nat.zero_le _⟩ (fun Ez H locs hw2 hW hS => ?_)
  obtain ⟨Y_1, ez, hw⟩ := hw2
  rw [ez] at hW
  have hW : Wd g lay (va_up E0 a Y_1) H := by rw [← vuU E0 a L Y_1]; exact hW
  refine lv_aload_n hx hb dX1_becomeFree_5 rfl (lv_at hl 0 rfl) ?_
  refine lv_bipush (v := (-6)) hx hb dX1_becomeFree_6 (by decide) ?_
  obtain ⟨X_3, eX_3⟩ : ∃ z : CS, z = upd Y_1 2 (-6) := ⟨_, rfl⟩
  have hw := hw X_3 eX_3
  refine p_X1_18 (E1 := va_up E0 a X_3) hx hb hown hts hK hA hW hS hla (vuS _ _ _) dX1_becomeFree_8 (vuE eX_3) (fun H locs hW hS => ?_)
  refine lv_aload_n hx hb dX1_becomeFree_11 rfl (lv_at hl 0 rfl) ?_
  refine lv_iconst (v := 0) hx hb dX1_becomeFree_12 (by decide) ?_
  obtain ⟨X_4, eX_4⟩ : ∃ z : CS, z = upd X_3 3 0 := ⟨_, rfl⟩
  have hw := hw X_4 eX_4
  refine p_X1_21 (E1 := va_up E0 a X_4) hx hb hown hts hK hA hW hS hla (vuS _ _ _) dX1_becomeFree_13 (vuE eX_4) (fun H locs hW hS => ?_)
  refine lv_aload_n hx hb dX1_becomeFree_16 rfl (lv_at hl 0 rfl) ?_
  refine lv_bipush (v := (-6)) hx hb dX1_becomeFree_17 (by decide) ?_
  obtain ⟨X_5, eX_5⟩ : ∃ z : CS, z = upd X_4 4 (-6) := ⟨_, rfl⟩
  have hw := hw X_5 eX_5
  refine p_X1_24 (E1 := va_up E0 a X_5) hx hb hown hts hK hA hW hS hla (vuS _ _ _) dX1_becomeFree_19 (vuE eX_5) (fun H locs hW hS => ?_)
  refine lv_aload_n hx hb dX1_becomeFree_22 rfl (lv_at hl 0 rfl) ?_
  refine lv_iconst (v := 0) hx hb dX1_becomeFree_23 (by decide) ?_
  obtain ⟨X_6, eX_6⟩ : ∃ z : CS, z = upd X_5 5 0 := ⟨_, rfl⟩
  have hw := hw X_6 eX_6
  refine p_X1_27 (E1 := va_up E0 a X_6) hx hb hown hts hK hA hW hS hla (vuS _ _ _) dX1_becomeFree_24 (vuE eX_6) (fun H locs hW hS => ?_)
  refine lv_aload_n hx hb dX1_becomeFree_27 rfl (lv_at hl 0 rfl) ?_
  refine lv_iconst (v := 0) hx hb dX1_becomeFree_28 (by decide) ?_
  obtain ⟨X_7, eX_7⟩ : ∃ z : CS, z = upd X_6 6 0 := ⟨_, rfl⟩
  have hw := hw X_7 eX_7
  refine p_X1_30 (E1 := va_up E0 a X_7) hx hb hown hts hK hA hW hS hla (vuS _ _ _) dX1_becomeFree_29 (vuE eX_7) (fun H locs hW hS => ?_)
  refine lv_aload_n hx hb dX1_becomeFree_32 rfl (lv_at hl 0 rfl) ?_
  refine lv_bipush (v := (-6)) hx hb dX1_becomeFree_33 (by decide) ?_
  obtain ⟨X_8, eX_8⟩ : ∃ z : CS, z = upd X_7 9 (-6) := ⟨_, rfl⟩
  have hw := hw X_8 eX_8
  refine p_X1_39 (E1 := va_up E0 a X_8) hx hb hown hts hK hA hW hS hla (vuS _ _ _) dX1_becomeFree_35 (vuE eX_8) (fun H locs hW hS => ?_)
  exact w_vret hx hb hr hlocks hW hS ⟨X_8, rfl, hw⟩ dX1_becomeFree_38
set_option maxHeartbeats 4000000 in
set_option maxRecDepth 100000 in
theorem c_X1_renew {l : Launch} {g : GG} {lay : LY} {E0 : ES} {a : Nat} {L : CS} {K : CS → Prop} (hA : okL g lay) (hla : lay a = some finE) (hL : E0 a = L) (hw : wp_X1_renew L K) : JMv l g lay yX1_renew wsX1_renew rmX1_renew [.ref a] E0 (fun E1 => ∃ L1 : CS, E1 = va_up E0 a L1 ∧ K L1) := by
  refine Met.ofW (cc := cX1_renew) (maxL := 1) (ret := none) (by decide) rfl ?_
  intro p e s m args below meth c s₁ B hml hv
  obtain ⟨rfl, hK, hW⟩ := hv
  have hx := B.exec
  have hb := B.bytes
  have hr := B.returns
  have hts := gd_of (atoms_spec (ws := wsX1_renew) B.pre)
  have hown : s.vm.findClass RX1 = some m.cls := findClass_of_methodNamed B.named
  have hlocks := B.notSynchronized
  have hS : va_S (Ab g) s.heap s.heap [] := va_S.rf
  have hW : Wd g lay (va_up E0 a L) s.heap := by rw [← hL, vuSelf]; exact hW
  have hl := lv_entry [.ref a] (n := 1) (Nat.le_of_ble_eq_true rfl)
  rw [lg_entry_eq]
  generalize (lg_sl [.ref a] ++ List.replicate (1 - (lg_sl [.ref a]).length) Slot.unset).toArray = ls at hl ⊢
  have hl : lv_has ls 1 [(0, .ref a)] := hl
  unfold wp_X1_renew at hw
  refine lv_aload_n hx hb dX1_renew_0 rfl (lv_at hl 0 rfl) ?_
  refine w_cvv (As := []) (rest := []) hx hb hml hown hts hK hW hS hl.1 (c_X1_becomeFree hA hla (vuS _ _ _) hw) (k_X1_42 hts ⟨Nat.le_of_ble_eq_true rfl, Nat.le_of_ble_eq_true rfl⟩) (w_recv hK hW hla (vuS _ _ _) rfl rfl) rfl rfl (Nat.le_of_ble_eq_true rfl) dX1_renew_1 ⟨Nat.zero_le _, Nat.zero_le _⟩ (fun Ez H locs hw2 hW hS => ?_)
  obtain ⟨Y_1, ez, hw⟩ := hw2
  rw [ez] at hW
  have hW : Wd g lay (va_up E0 a Y_1) H := by rw [← vuU E0 a L Y_1]; exact hW
  refine lv_aload_n hx hb dX1_renew_4 rfl (lv_at hl 0 rfl) ?_
  refine lv_iconst (v := 0) hx hb dX1_renew_5 (by decide) ?_
  obtain ⟨X_3, eX_3⟩ : ∃ z : CS, z = upd Y_1 1 0 := ⟨_, rfl⟩
  have hw := hw X_3 eX_3
  refine p_X1_15 (E1 := va_up E0 a X_3) hx hb hown hts hK hA hW hS hla (vuS _ _ _) dX1_renew_6 (vuE eX_3) (fun H locs hW hS => ?_)
  exact w_vret hx hb hr hlocks hW hS ⟨X_3, rfl, hw⟩ dX1_renew_9
set_option maxHeartbeats 4000000 in
set_option maxRecDepth 100000 in
theorem c_X2_copyFrom {l : Launch} {g : GG} {lay : LY} {E0 : ES} {a b : Nat} {L M : CS} {K : CS → Prop} (hA : okL g lay) (hla : lay a = some lineE) (hlb : lay b = some lineE) (hL : E0 a = L) (hM : E0 b = M) (hne : a ≠ b) (hw : wp_X2_copyFrom L M K) : JMv l g lay yX2_copyFrom wsX2_copyFrom rmX2_copyFrom [.ref a, .ref b] E0 (fun E1 => ∃ L1 : CS, E1 = va_up E0 a L1 ∧ K L1) := by
  refine Met.ofW (cc := cX2_copyFrom) (maxL := 2) (ret := none) (by decide) rfl ?_
  intro p e s m args below meth c s₁ B hml hv
  obtain ⟨rfl, hK, hW⟩ := hv
  have hx := B.exec
  have hb := B.bytes
  have hr := B.returns
  have hts := gd_of (atoms_spec (ws := wsX2_copyFrom) B.pre)
  have hown : s.vm.findClass RX2 = some m.cls := findClass_of_methodNamed B.named
  have hlocks := B.notSynchronized
  have hS : va_S (Ab g) s.heap s.heap [] := va_S.rf
  have hW : Wd g lay (va_up E0 a L) s.heap := by rw [← hL, vuSelf]; exact hW
  have hl := lv_entry [.ref a, .ref b] (n := 2) (Nat.le_of_ble_eq_true rfl)
  rw [lg_entry_eq]
  generalize (lg_sl [.ref a, .ref b] ++ List.replicate (2 - (lg_sl [.ref a, .ref b]).length) Slot.unset).toArray = ls at hl ⊢
  have hl : lv_has ls 2 [(0, .ref a), (1, .ref b)] := hl
  unfold wp_X2_copyFrom at hw
  refine lv_aload_n hx hb dX2_copyFrom_0 rfl (lv_at hl 0 rfl) ?_
  refine lv_aload_n hx hb dX2_copyFrom_1 rfl (lv_at hl 1 rfl) ?_
  refine g_X2_9 hx hb hown hts hK hW hlb ((vuN (Ne.symm hne)).trans hM) dX2_copyFrom_2 ?_
  obtain ⟨X_1, eX_1⟩ : ∃ z : CS, z = upd L 0 (M 0) := ⟨_, rfl⟩
  have hw := hw X_1 eX_1
  refine p_X2_9 (E1 := va_up E0 a X_1) hx hb hown hts hK hA hW hS hla (vuS _ _ _) dX2_copyFrom_5 (vuE eX_1) (fun H locs hW hS => ?_)
  refine lv_aload_n hx hb dX2_copyFrom_8 rfl (lv_at hl 0 rfl) ?_
  refine lv_aload_n hx hb dX2_copyFrom_9 rfl (lv_at hl 1 rfl) ?_
  refine g_X2_15 hx hb hown hts hK hW hlb ((vuN (Ne.symm hne)).trans hM) dX2_copyFrom_10 ?_
  obtain ⟨hz, hw⟩ := hw
  obtain ⟨X_2, eX_2⟩ : ∃ z : CS, z = upd X_1 1 (M 1) := ⟨_, rfl⟩
  have hw := hw X_2 eX_2
  refine p_X2_15 (E1 := va_up E0 a X_2) hx hb hown hts hK hA hW hS hla (vuS _ _ _) hz dX2_copyFrom_13 (vuE eX_2) (fun H locs hW hS => ?_)
  refine lv_aload_n hx hb dX2_copyFrom_16 rfl (lv_at hl 0 rfl) ?_
  refine lv_aload_n hx hb dX2_copyFrom_17 rfl (lv_at hl 1 rfl) ?_
  refine g_X2_19 hx hb hown hts hK hW hlb ((vuN (Ne.symm hne)).trans hM) dX2_copyFrom_18 ?_
  obtain ⟨X_3, eX_3⟩ : ∃ z : CS, z = upd X_2 2 (M 2) := ⟨_, rfl⟩
  have hw := hw X_3 eX_3
  refine p_X2_19 (E1 := va_up E0 a X_3) hx hb hown hts hK hA hW hS hla (vuS _ _ _) dX2_copyFrom_21 (vuE eX_3) (fun H locs hW hS => ?_)
  refine lv_aload_n hx hb dX2_copyFrom_24 rfl (lv_at hl 0 rfl) ?_
  refine lv_aload_n hx hb dX2_copyFrom_25 rfl (lv_at hl 1 rfl) ?_
  refine g_X2_22 hx hb hown hts hK hW hlb ((vuN (Ne.symm hne)).trans hM) dX2_copyFrom_26 ?_
  obtain ⟨X_4, eX_4⟩ : ∃ z : CS, z = upd X_3 3 (M 3) := ⟨_, rfl⟩
  have hw := hw X_4 eX_4
  refine p_X2_22 (E1 := va_up E0 a X_4) hx hb hown hts hK hA hW hS hla (vuS _ _ _) dX2_copyFrom_29 (vuE eX_4) (fun H locs hW hS => ?_)
  refine lv_aload_n hx hb dX2_copyFrom_32 rfl (lv_at hl 0 rfl) ?_
  refine lv_aload_n hx hb dX2_copyFrom_33 rfl (lv_at hl 1 rfl) ?_
  refine g_X2_25 hx hb hown hts hK hW hlb ((vuN (Ne.symm hne)).trans hM) dX2_copyFrom_34 ?_
  obtain ⟨X_5, eX_5⟩ : ∃ z : CS, z = upd X_4 4 (M 4) := ⟨_, rfl⟩
  have hw := hw X_5 eX_5
  refine p_X2_25 (E1 := va_up E0 a X_5) hx hb hown hts hK hA hW hS hla (vuS _ _ _) dX2_copyFrom_37 (vuE eX_5) (fun H locs hW hS => ?_)
  refine lv_aload_n hx hb dX2_copyFrom_40 rfl (lv_at hl 0 rfl) ?_
  refine lv_aload_n hx hb dX2_copyFrom_41 rfl (lv_at hl 1 rfl) ?_
  refine g_X2_28 hx hb hown hts hK hW hlb ((vuN (Ne.symm hne)).trans hM) dX2_copyFrom_42 ?_
  obtain ⟨X_6, eX_6⟩ : ∃ z : CS, z = upd X_5 5 (M 5) := ⟨_, rfl⟩
  have hw := hw X_6 eX_6
  refine p_X2_28 (E1 := va_up E0 a X_6) hx hb hown hts hK hA hW hS hla (vuS _ _ _) dX2_copyFrom_45 (vuE eX_6) (fun H locs hW hS => ?_)
  refine lv_aload_n hx hb dX2_copyFrom_48 rfl (lv_at hl 0 rfl) ?_
  refine lv_aload_n hx hb dX2_copyFrom_49 rfl (lv_at hl 1 rfl) ?_
  refine g_X2_31 hx hb hown hts hK hW hlb ((vuN (Ne.symm hne)).trans hM) dX2_copyFrom_50 ?_
  obtain ⟨X_7, eX_7⟩ : ∃ z : CS, z = upd X_6 6 (M 6) := ⟨_, rfl⟩
  have hw := hw X_7 eX_7
  refine p_X2_31 (E1 := va_up E0 a X_7) hx hb hown hts hK hA hW hS hla (vuS _ _ _) dX2_copyFrom_53 (vuE eX_7) (fun H locs hW hS => ?_)
  refine lv_aload_n hx hb dX2_copyFrom_56 rfl (lv_at hl 0 rfl) ?_
  refine lv_aload_n hx hb dX2_copyFrom_57 rfl (lv_at hl 1 rfl) ?_
  refine g_X2_34 hx hb hown hts hK hW hlb ((vuN (Ne.symm hne)).trans hM) dX2_copyFrom_58 ?_
  obtain ⟨X_8, eX_8⟩ : ∃ z : CS, z = upd X_7 7 (M 7) := ⟨_, rfl⟩
  have hw := hw X_8 eX_8
  refine p_X2_34 (E1 := va_up E0 a X_8) hx hb hown hts hK hA hW hS hla (vuS _ _ _) dX2_copyFrom_61 (vuE eX_8) (fun H locs hW hS => ?_)
  refine lv_aload_n hx hb dX2_copyFrom_64 rfl (lv_at hl 0 rfl) ?_
  refine lv_aload_n hx hb dX2_copyFrom_65 rfl (lv_at hl 1 rfl) ?_
  refine g_X2_37 hx hb hown hts hK hW hlb ((vuN (Ne.symm hne)).trans hM) dX2_copyFrom_66 ?_
  obtain ⟨X_9, eX_9⟩ : ∃ z : CS, z = upd X_8 8 (M 8) := ⟨_, rfl⟩
  have hw := hw X_9 eX_9
  refine p_X2_37 (E1 := va_up E0 a X_9) hx hb hown hts hK hA hW hS hla (vuS _ _ _) dX2_copyFrom_69 (vuE eX_9) (fun H locs hW hS => ?_)
  exact w_vret hx hb hr hlocks hW hS ⟨X_9, rfl, hw⟩ dX2_copyFrom_72
set_option maxHeartbeats 4000000 in
set_option maxRecDepth 100000 in
theorem c_X1_copyFrom {l : Launch} {g : GG} {lay : LY} {E0 : ES} {a b : Nat} {L M : CS} {K : CS → Prop} (hA : okL g lay) (hla : lay a = some finE) (hlb : lay b = some finE) (hL : E0 a = L) (hM : E0 b = M) (hne : a ≠ b) (hw : wp_X1_copyFrom L M K) : JMv l g lay yX1_copyFrom wsX1_copyFrom rmX1_copyFrom [.ref a, .ref b] E0 (fun E1 => ∃ L1 : CS, E1 = va_up E0 a L1 ∧ K L1) := by
  refine Met.ofW (cc := cX1_copyFrom) (maxL := 2) (ret := none) (by decide) rfl ?_
  intro p e s m args below meth c s₁ B hml hv
  obtain ⟨rfl, hK, hW⟩ := hv
  have hx := B.exec
  have hb := B.bytes
  have hr := B.returns
  have hts := gd_of (atoms_spec (ws := wsX1_copyFrom) B.pre)
  have hown : s.vm.findClass RX1 = some m.cls := findClass_of_methodNamed B.named
  have hlocks := B.notSynchronized
  have hS : va_S (Ab g) s.heap s.heap [] := va_S.rf
  have hW : Wd g lay (va_up E0 a L) s.heap := by rw [← hL, vuSelf]; exact hW
  have hl := lv_entry [.ref a, .ref b] (n := 2) (Nat.le_of_ble_eq_true rfl)
  rw [lg_entry_eq]
  generalize (lg_sl [.ref a, .ref b] ++ List.replicate (2 - (lg_sl [.ref a, .ref b]).length) Slot.unset).toArray = ls at hl ⊢
  have hl : lv_has ls 2 [(0, .ref a), (1, .ref b)] := hl
  unfold wp_X1_copyFrom at hw
  refine lv_aload_n hx hb dX1_copyFrom_0 rfl (lv_at hl 0 rfl) ?_
  refine lv_aload_n hx hb dX1_copyFrom_1 rfl (lv_at hl 1 rfl) ?_
  refine g_X1_9 hx hb hown hts hK hW hlb ((vuN (Ne.symm hne)).trans hM) dX1_copyFrom_2 ?_
  obtain ⟨X_1, eX_1⟩ : ∃ z : CS, z = upd L 0 (M 0) := ⟨_, rfl⟩
  have hw := hw X_1 eX_1
  refine p_X1_9 (E1 := va_up E0 a X_1) hx hb hown hts hK hA hW hS hla (vuS _ _ _) dX1_copyFrom_5 (vuE eX_1) (fun H locs hW hS => ?_)
  refine lv_aload_n hx hb dX1_copyFrom_8 rfl (lv_at hl 0 rfl) ?_
  refine lv_aload_n hx hb dX1_copyFrom_9 rfl (lv_at hl 1 rfl) ?_
  refine g_X1_15 hx hb hown hts hK hW hlb ((vuN (Ne.symm hne)).trans hM) dX1_copyFrom_10 ?_
  obtain ⟨X_2, eX_2⟩ : ∃ z : CS, z = upd X_1 1 (M 1) := ⟨_, rfl⟩
  have hw := hw X_2 eX_2
  refine p_X1_15 (E1 := va_up E0 a X_2) hx hb hown hts hK hA hW hS hla (vuS _ _ _) dX1_copyFrom_13 (vuE eX_2) (fun H locs hW hS => ?_)
  refine lv_aload_n hx hb dX1_copyFrom_16 rfl (lv_at hl 0 rfl) ?_
  refine lv_aload_n hx hb dX1_copyFrom_17 rfl (lv_at hl 1 rfl) ?_
  refine g_X1_18 hx hb hown hts hK hW hlb ((vuN (Ne.symm hne)).trans hM) dX1_copyFrom_18 ?_
  obtain ⟨X_3, eX_3⟩ : ∃ z : CS, z = upd X_2 2 (M 2) := ⟨_, rfl⟩
  have hw := hw X_3 eX_3
  refine p_X1_18 (E1 := va_up E0 a X_3) hx hb hown hts hK hA hW hS hla (vuS _ _ _) dX1_copyFrom_21 (vuE eX_3) (fun H locs hW hS => ?_)
  refine lv_aload_n hx hb dX1_copyFrom_24 rfl (lv_at hl 0 rfl) ?_
  refine lv_aload_n hx hb dX1_copyFrom_25 rfl (lv_at hl 1 rfl) ?_
  refine g_X1_21 hx hb hown hts hK hW hlb ((vuN (Ne.symm hne)).trans hM) dX1_copyFrom_26 ?_
  obtain ⟨X_4, eX_4⟩ : ∃ z : CS, z = upd X_3 3 (M 3) := ⟨_, rfl⟩
  have hw := hw X_4 eX_4
  refine p_X1_21 (E1 := va_up E0 a X_4) hx hb hown hts hK hA hW hS hla (vuS _ _ _) dX1_copyFrom_29 (vuE eX_4) (fun H locs hW hS => ?_)
  refine lv_aload_n hx hb dX1_copyFrom_32 rfl (lv_at hl 0 rfl) ?_
  refine lv_aload_n hx hb dX1_copyFrom_33 rfl (lv_at hl 1 rfl) ?_
  refine g_X1_24 hx hb hown hts hK hW hlb ((vuN (Ne.symm hne)).trans hM) dX1_copyFrom_34 ?_
  obtain ⟨X_5, eX_5⟩ : ∃ z : CS, z = upd X_4 4 (M 4) := ⟨_, rfl⟩
  have hw := hw X_5 eX_5
  refine p_X1_24 (E1 := va_up E0 a X_5) hx hb hown hts hK hA hW hS hla (vuS _ _ _) dX1_copyFrom_37 (vuE eX_5) (fun H locs hW hS => ?_)
  refine lv_aload_n hx hb dX1_copyFrom_40 rfl (lv_at hl 0 rfl) ?_
  refine lv_aload_n hx hb dX1_copyFrom_41 rfl (lv_at hl 1 rfl) ?_
  refine g_X1_27 hx hb hown hts hK hW hlb ((vuN (Ne.symm hne)).trans hM) dX1_copyFrom_42 ?_
  obtain ⟨X_6, eX_6⟩ : ∃ z : CS, z = upd X_5 5 (M 5) := ⟨_, rfl⟩
  have hw := hw X_6 eX_6
  refine p_X1_27 (E1 := va_up E0 a X_6) hx hb hown hts hK hA hW hS hla (vuS _ _ _) dX1_copyFrom_45 (vuE eX_6) (fun H locs hW hS => ?_)
  refine lv_aload_n hx hb dX1_copyFrom_48 rfl (lv_at hl 0 rfl) ?_
  refine lv_aload_n hx hb dX1_copyFrom_49 rfl (lv_at hl 1 rfl) ?_
  refine g_X1_30 hx hb hown hts hK hW hlb ((vuN (Ne.symm hne)).trans hM) dX1_copyFrom_50 ?_
  obtain ⟨X_7, eX_7⟩ : ∃ z : CS, z = upd X_6 6 (M 6) := ⟨_, rfl⟩
  have hw := hw X_7 eX_7
  refine p_X1_30 (E1 := va_up E0 a X_7) hx hb hown hts hK hA hW hS hla (vuS _ _ _) dX1_copyFrom_53 (vuE eX_7) (fun H locs hW hS => ?_)
  refine lv_aload_n hx hb dX1_copyFrom_56 rfl (lv_at hl 0 rfl) ?_
  refine lv_aload_n hx hb dX1_copyFrom_57 rfl (lv_at hl 1 rfl) ?_
  refine g_X1_33 hx hb hown hts hK hW hlb ((vuN (Ne.symm hne)).trans hM) dX1_copyFrom_58 ?_
  obtain ⟨X_8, eX_8⟩ : ∃ z : CS, z = upd X_7 7 (M 7) := ⟨_, rfl⟩
  have hw := hw X_8 eX_8
  refine p_X1_33 (E1 := va_up E0 a X_8) hx hb hown hts hK hA hW hS hla (vuS _ _ _) dX1_copyFrom_61 (vuE eX_8) (fun H locs hW hS => ?_)
  refine lv_aload_n hx hb dX1_copyFrom_64 rfl (lv_at hl 0 rfl) ?_
  refine lv_aload_n hx hb dX1_copyFrom_65 rfl (lv_at hl 1 rfl) ?_
  refine g_X1_36 hx hb hown hts hK hW hlb ((vuN (Ne.symm hne)).trans hM) dX1_copyFrom_66 ?_
  obtain ⟨X_9, eX_9⟩ : ∃ z : CS, z = upd X_8 8 (M 8) := ⟨_, rfl⟩
  have hw := hw X_9 eX_9
  refine p_X1_36 (E1 := va_up E0 a X_9) hx hb hown hts hK hA hW hS hla (vuS _ _ _) dX1_copyFrom_69 (vuE eX_9) (fun H locs hW hS => ?_)
  refine lv_aload_n hx hb dX1_copyFrom_72 rfl (lv_at hl 0 rfl) ?_
  refine lv_aload_n hx hb dX1_copyFrom_73 rfl (lv_at hl 1 rfl) ?_
  refine g_X1_39 hx hb hown hts hK hW hlb ((vuN (Ne.symm hne)).trans hM) dX1_copyFrom_74 ?_
  obtain ⟨X_10, eX_10⟩ : ∃ z : CS, z = upd X_9 9 (M 9) := ⟨_, rfl⟩
  have hw := hw X_10 eX_10
  refine p_X1_39 (E1 := va_up E0 a X_10) hx hb hown hts hK hA hW hS hla (vuS _ _ _) dX1_copyFrom_77 (vuE eX_10) (fun H locs hW hS => ?_)
  exact w_vret hx hb hr hlocks hW hS ⟨X_10, rfl, hw⟩ dX1_copyFrom_80
set_option maxHeartbeats 4000000 in
set_option maxRecDepth 100000 in
theorem c_X2_isCalledByAnother {l : Launch} {g : GG} {lay : LY} {E0 : ES} {a : Nat} {L : CS} {K : Int32 → Prop} (hA : okL g lay) (hla : lay a = some lineE) (hL : E0 a = L) (hw : wp_X2_isCalledByAnother L K) : JMi l g lay yX2_isCalledByAnother wsX2_isCalledByAnother rmX2_isCalledByAnother [.ref a] E0 (fun r E1 => E1 = E0 ∧ (r = 0 ∨ r = 1) ∧ K r) := by
  refine Met.ofW (cc := cX2_isCalledByAnother) (maxL := 1) (ret := (some .boolean)) (by decide) rfl ?_
  intro p e s m args below meth c s₁ B hml hv
  obtain ⟨rfl, hK, hW⟩ := hv
  have hx := B.exec
  have hb := B.bytes
  have hr := B.returns
  have hts := gd_of (atoms_spec (ws := wsX2_isCalledByAnother) B.pre)
  have hown : s.vm.findClass RX2 = some m.cls := findClass_of_methodNamed B.named
  have hlocks := B.notSynchronized
  have hS : va_S (Ab g) s.heap s.heap [] := va_S.rf
  have hl := lv_entry [.ref a] (n := 1) (Nat.le_of_ble_eq_true rfl)
  rw [lg_entry_eq]
  generalize (lg_sl [.ref a] ++ List.replicate (1 - (lg_sl [.ref a]).length) Slot.unset).toArray = ls at hl ⊢
  have hl : lv_has ls 1 [(0, .ref a)] := hl
  unfold wp_X2_isCalledByAnother at hw
  refine lv_aload_n hx hb dX2_isCalledByAnother_0 rfl (lv_at hl 0 rfl) ?_
  refine g_X2_9 hx hb hown hts hK hW hla hL dX2_isCalledByAnother_1 ?_
  refine lv_iconst (v := 5) hx hb dX2_isCalledByAnother_4 (by decide) ?_
  refine lv_icmp_eq (tgt := 17) hx hb dX2_isCalledByAnother_5 (by decide) (fun c_1 => ?_) (fun c_1 => ?_)
  · have hw := hw.1 c_1
    refine lv_iconst (v := 1) hx hb dX2_isCalledByAnother_17 (by decide) ?_
    refine lv_goto (tgt := 22) hx hb dX2_isCalledByAnother_18 (by decide) ?_
    exact w_zret hx hb hr hlocks hW hS (Or.inr rfl) ⟨rfl, (Or.inr rfl), hw⟩ dX2_isCalledByAnother_22
  · have hw := hw.2 c_1
    refine lv_aload_n hx hb dX2_isCalledByAnother_8 rfl (lv_at hl 0 rfl) ?_
    refine g_X2_9 hx hb hown hts hK hW hla hL dX2_isCalledByAnother_9 ?_
    refine lv_bipush (v := 7) hx hb dX2_isCalledByAnother_12 (by decide) ?_
    refine lv_icmp_ne (tgt := 21) hx hb dX2_isCalledByAnother_14 (by decide) (fun c_2 => ?_) (fun c_2 => ?_)
    · have hw := hw.2 c_2
      refine lv_iconst (v := 0) hx hb dX2_isCalledByAnother_21 (by decide) ?_
      exact w_zret hx hb hr hlocks hW hS (Or.inl rfl) ⟨rfl, (Or.inl rfl), hw⟩ dX2_isCalledByAnother_22
    · have hw := hw.1 c_2
      refine lv_iconst (v := 1) hx hb dX2_isCalledByAnother_17 (by decide) ?_
      refine lv_goto (tgt := 22) hx hb dX2_isCalledByAnother_18 (by decide) ?_
      exact w_zret hx hb hr hlocks hW hS (Or.inr rfl) ⟨rfl, (Or.inr rfl), hw⟩ dX2_isCalledByAnother_22
set_option maxHeartbeats 4000000 in
set_option maxRecDepth 100000 in
theorem c_X2_appendDigit {l : Launch} {g : GG} {lay : LY} {E0 : ES} {a : Nat} {L : CS} {p1 : Int32} {K : CS → Prop} (hA : okL g lay) (hla : lay a = some lineE) (hL : E0 a = L) (hw : wp_X2_appendDigit L p1 K) : JMv l g lay yX2_appendDigit wsX2_appendDigit rmX2_appendDigit [.ref a, .int p1] E0 (fun E1 => ∃ L1 : CS, E1 = va_up E0 a L1 ∧ K L1) := by
  refine Met.ofW (cc := cX2_appendDigit) (maxL := 2) (ret := none) (by decide) rfl ?_
  intro p e s m args below meth c s₁ B hml hv
  obtain ⟨rfl, hK, hW⟩ := hv
  have hx := B.exec
  have hb := B.bytes
  have hr := B.returns
  have hts := gd_of (atoms_spec (ws := wsX2_appendDigit) B.pre)
  have hown : s.vm.findClass RX2 = some m.cls := findClass_of_methodNamed B.named
  have hlocks := B.notSynchronized
  have hS : va_S (Ab g) s.heap s.heap [] := va_S.rf
  have hW : Wd g lay (va_up E0 a L) s.heap := by rw [← hL, vuSelf]; exact hW
  have hl := lv_entry [.ref a, .int p1] (n := 2) (Nat.le_of_ble_eq_true rfl)
  rw [lg_entry_eq]
  generalize (lg_sl [.ref a, .int p1] ++ List.replicate (2 - (lg_sl [.ref a, .int p1]).length) Slot.unset).toArray = ls at hl ⊢
  have hl : lv_has ls 2 [(0, .ref a), (1, .int p1)] := hl
  unfold wp_X2_appendDigit at hw
  refine lv_aload_n hx hb dX2_appendDigit_0 rfl (lv_at hl 0 rfl) ?_
  refine lv_dup hx hb dX2_appendDigit_1 rfl ?_
  refine g_X2_25 hx hb hown hts hK hW hla (vuS _ _ _) dX2_appendDigit_2 ?_
  refine lv_iload_n hx hb dX2_appendDigit_5 rfl (lv_at hl 1 rfl) ?_
  refine lv_iconst (v := 4) hx hb dX2_appendDigit_6 (by decide) ?_
  refine lv_aload_n hx hb dX2_appendDigit_7 rfl (lv_at hl 0 rfl) ?_
  refine g_X2_28 hx hb hown hts hK hW hla (vuS _ _ _) dX2_appendDigit_8 ?_
  refine lv_imul hx hb dX2_appendDigit_11 ?_
  refine lv_ishl hx hb dX2_appendDigit_12 ?_
  refine lv_ior hx hb dX2_appendDigit_13 ?_
  obtain ⟨X_1, eX_1⟩ : ∃ z : CS, z = upd L 4 ((L 4) ||| (p1 <<< (4 * (L 5) &&& 31))) := ⟨_, rfl⟩
  have hw := hw X_1 eX_1
  refine p_X2_25 (E1 := va_up E0 a X_1) hx hb hown hts hK hA hW hS hla (vuS _ _ _) dX2_appendDigit_14 (vuE eX_1) (fun H locs hW hS => ?_)
  refine lv_aload_n hx hb dX2_appendDigit_17 rfl (lv_at hl 0 rfl) ?_
  refine lv_dup hx hb dX2_appendDigit_18 rfl ?_
  refine g_X2_28 hx hb hown hts hK hW hla (vuS _ _ _) dX2_appendDigit_19 ?_
  refine lv_iconst (v := 1) hx hb dX2_appendDigit_22 (by decide) ?_
  refine lv_iadd hx hb dX2_appendDigit_23 ?_
  obtain ⟨X_2, eX_2⟩ : ∃ z : CS, z = upd X_1 5 ((X_1 5) + 1) := ⟨_, rfl⟩
  have hw := hw X_2 eX_2
  refine p_X2_28 (E1 := va_up E0 a X_2) hx hb hown hts hK hA hW hS hla (vuS _ _ _) dX2_appendDigit_24 (vuE eX_2) (fun H locs hW hS => ?_)
  exact w_vret hx hb hr hlocks hW hS ⟨X_2, rfl, hw⟩ dX2_appendDigit_27
set_option maxHeartbeats 4000000 in
set_option maxRecDepth 100000 in
theorem c_X2_takePulses {l : Launch} {g : GG} {lay : LY} {E0 : ES} {a : Nat} {L : CS} {K : Int32 → CS → Prop} (hA : okL g lay) (hla : lay a = some lineE) (hL : E0 a = L) (hw : wp_X2_takePulses L K) : JMi l g lay yX2_takePulses wsX2_takePulses rmX2_takePulses [.ref a] E0 (fun r E1 => ∃ L1 : CS, E1 = va_up E0 a L1 ∧ K r L1) := by
  refine Met.ofW (cc := cX2_takePulses) (maxL := 2) (ret := (some .int)) (by decide) rfl ?_
  intro p e s m args below meth c s₁ B hml hv
  obtain ⟨rfl, hK, hW⟩ := hv
  have hx := B.exec
  have hb := B.bytes
  have hr := B.returns
  have hts := gd_of (atoms_spec (ws := wsX2_takePulses) B.pre)
  have hown : s.vm.findClass RX2 = some m.cls := findClass_of_methodNamed B.named
  have hlocks := B.notSynchronized
  have hS : va_S (Ab g) s.heap s.heap [] := va_S.rf
  have hW : Wd g lay (va_up E0 a L) s.heap := by rw [← hL, vuSelf]; exact hW
  have hl := lv_entry [.ref a] (n := 2) (Nat.le_of_ble_eq_true rfl)
  rw [lg_entry_eq]
  generalize (lg_sl [.ref a] ++ List.replicate (2 - (lg_sl [.ref a]).length) Slot.unset).toArray = ls at hl ⊢
  have hl : lv_has ls 2 [(0, .ref a)] := hl
  unfold wp_X2_takePulses at hw
  refine lv_aload_n hx hb dX2_takePulses_0 rfl (lv_at hl 0 rfl) ?_
  refine g_X2_25 hx hb hown hts hK hW hla (vuS _ _ _) dX2_takePulses_1 ?_
  refine lv_bipush (v := 15) hx hb dX2_takePulses_4 (by decide) ?_
  refine lv_iand hx hb dX2_takePulses_6 ?_
  refine lv_topi (fun v_1 ev_1 => ?_)
  have hw := hw v_1 ev_1
  refine lv_istore_n (lv' := [(1, .int v_1), (0, .ref a)]) hx hb dX2_takePulses_7 rfl hl (by decide) rfl (fun ls hl => ?_)
  refine lv_aload_n hx hb dX2_takePulses_8 rfl (lv_at hl 1 rfl) ?_
  refine lv_dup hx hb dX2_takePulses_9 rfl ?_
  refine g_X2_25 hx hb hown hts hK hW hla (vuS _ _ _) dX2_takePulses_10 ?_
  refine lv_iconst (v := 4) hx hb dX2_takePulses_13 (by decide) ?_
  refine lv_iushr hx hb dX2_takePulses_14 rfl ?_
  obtain ⟨X_2, eX_2⟩ : ∃ z : CS, z = upd L 4 (((L 4).toUInt32 >>> ((4 : Int32).toUInt32 &&& Int32.toUInt32 31)).toInt32) := ⟨_, rfl⟩
  have hw := hw X_2 eX_2
  refine p_X2_25 (E1 := va_up E0 a X_2) hx hb hown hts hK hA hW hS hla (vuS _ _ _) dX2_takePulses_15 (vuE eX_2) (fun H locs hW hS => ?_)
  refine lv_aload_n hx hb dX2_takePulses_18 rfl (lv_at hl 1 rfl) ?_
  refine lv_dup hx hb dX2_takePulses_19 rfl ?_
  refine g_X2_28 hx hb hown hts hK hW hla (vuS _ _ _) dX2_takePulses_20 ?_
  refine lv_iconst (v := 1) hx hb dX2_takePulses_23 (by decide) ?_
  refine lv_isub hx hb dX2_takePulses_24 ?_
  obtain ⟨X_3, eX_3⟩ : ∃ z : CS, z = upd X_2 5 ((X_2 5) - 1) := ⟨_, rfl⟩
  have hw := hw X_3 eX_3
  refine p_X2_28 (E1 := va_up E0 a X_3) hx hb hown hts hK hA hW hS hla (vuS _ _ _) dX2_takePulses_25 (vuE eX_3) (fun H locs hW hS => ?_)
  refine lv_iload_n hx hb dX2_takePulses_28 rfl (lv_at hl 0 rfl) ?_
  refine lv_if_ne (tgt := 37) hx hb dX2_takePulses_29 (by decide) (fun c_4 => ?_) (fun c_4 => ?_)
  · have hw := hw.2 c_4
    refine lv_iload_n hx hb dX2_takePulses_37 rfl (lv_at hl 0 rfl) ?_
    exact w_iret hx hb hr hlocks hW hS ⟨X_3, rfl, hw⟩ dX2_takePulses_38
  · have hw := hw.1 c_4
    refine lv_bipush (v := 10) hx hb dX2_takePulses_32 (by decide) ?_
    refine lv_goto (tgt := 38) hx hb dX2_takePulses_34 (by decide) ?_
    exact w_iret hx hb hr hlocks hW hS ⟨X_3, rfl, hw⟩ dX2_takePulses_38
set_option maxHeartbeats 4000000 in
set_option maxRecDepth 100000 in
theorem c_X1_holdsConnector {l : Launch} {g : GG} {lay : LY} {E0 : ES} {a : Nat} {L : CS} {K : Int32 → Prop} (hA : okL g lay) (hla : lay a = some finE) (hL : E0 a = L) (hw : wp_X1_holdsConnector L K) : JMi l g lay yX1_holdsConnector wsX1_holdsConnector rmX1_holdsConnector [.ref a] E0 (fun r E1 => E1 = E0 ∧ (r = 0 ∨ r = 1) ∧ K r) := by
  refine Met.ofW (cc := cX1_holdsConnector) (maxL := 1) (ret := (some .boolean)) (by decide) rfl ?_
  intro p e s m args below meth c s₁ B hml hv
  obtain ⟨rfl, hK, hW⟩ := hv
  have hx := B.exec
  have hb := B.bytes
  have hr := B.returns
  have hts := gd_of (atoms_spec (ws := wsX1_holdsConnector) B.pre)
  have hown : s.vm.findClass RX1 = some m.cls := findClass_of_methodNamed B.named
  have hlocks := B.notSynchronized
  have hS : va_S (Ab g) s.heap s.heap [] := va_S.rf
  have hl := lv_entry [.ref a] (n := 1) (Nat.le_of_ble_eq_true rfl)
  rw [lg_entry_eq]
  generalize (lg_sl [.ref a] ++ List.replicate (1 - (lg_sl [.ref a]).length) Slot.unset).toArray = ls at hl ⊢
  have hl : lv_has ls 1 [(0, .ref a)] := hl
  unfold wp_X1_holdsConnector at hw
  refine lv_aload_n hx hb dX1_holdsConnector_0 rfl (lv_at hl 0 rfl) ?_
  refine g_X1_9 hx hb hown hts hK hW hla hL dX1_holdsConnector_1 ?_
  refine lv_iconst (v := 5) hx hb dX1_holdsConnector_4 (by decide) ?_
  refine lv_icmp_eq (tgt := 35) hx hb dX1_holdsConnector_5 (by decide) (fun c_1 => ?_) (fun c_1 => ?_)
  · have hw := hw.1 c_1
    refine lv_iconst (v := 1) hx hb dX1_holdsConnector_35 (by decide) ?_
    refine lv_goto (tgt := 40) hx hb dX1_holdsConnector_36 (by decide) ?_
    exact w_zret hx hb hr hlocks hW hS (Or.inr rfl) ⟨rfl, (Or.inr rfl), hw⟩ dX1_holdsConnector_40
  · have hw := hw.2 c_1
    refine lv_aload_n hx hb dX1_holdsConnector_8 rfl (lv_at hl 0 rfl) ?_
    refine g_X1_9 hx hb hown hts hK hW hla hL dX1_holdsConnector_9 ?_
    refine lv_bipush (v := 6) hx hb dX1_holdsConnector_12 (by decide) ?_
    refine lv_icmp_eq (tgt := 35) hx hb dX1_holdsConnector_14 (by decide) (fun c_2 => ?_) (fun c_2 => ?_)
    · have hw := hw.1 c_2
      refine lv_iconst (v := 1) hx hb dX1_holdsConnector_35 (by decide) ?_
      refine lv_goto (tgt := 40) hx hb dX1_holdsConnector_36 (by decide) ?_
      exact w_zret hx hb hr hlocks hW hS (Or.inr rfl) ⟨rfl, (Or.inr rfl), hw⟩ dX1_holdsConnector_40
    · have hw := hw.2 c_2
      refine lv_aload_n hx hb dX1_holdsConnector_17 rfl (lv_at hl 0 rfl) ?_
      refine g_X1_9 hx hb hown hts hK hW hla hL dX1_holdsConnector_18 ?_
      refine lv_bipush (v := 7) hx hb dX1_holdsConnector_21 (by decide) ?_
      refine lv_icmp_eq (tgt := 35) hx hb dX1_holdsConnector_23 (by decide) (fun c_3 => ?_) (fun c_3 => ?_)
      · have hw := hw.1 c_3
        refine lv_iconst (v := 1) hx hb dX1_holdsConnector_35 (by decide) ?_
        refine lv_goto (tgt := 40) hx hb dX1_holdsConnector_36 (by decide) ?_
        exact w_zret hx hb hr hlocks hW hS (Or.inr rfl) ⟨rfl, (Or.inr rfl), hw⟩ dX1_holdsConnector_40
      · have hw := hw.2 c_3
        refine lv_aload_n hx hb dX1_holdsConnector_26 rfl (lv_at hl 0 rfl) ?_
        refine g_X1_9 hx hb hown hts hK hW hla hL dX1_holdsConnector_27 ?_
        refine lv_bipush (v := 8) hx hb dX1_holdsConnector_30 (by decide) ?_
        refine lv_icmp_ne (tgt := 39) hx hb dX1_holdsConnector_32 (by decide) (fun c_4 => ?_) (fun c_4 => ?_)
        · have hw := hw.2 c_4
          refine lv_iconst (v := 0) hx hb dX1_holdsConnector_39 (by decide) ?_
          exact w_zret hx hb hr hlocks hW hS (Or.inl rfl) ⟨rfl, (Or.inl rfl), hw⟩ dX1_holdsConnector_40
        · have hw := hw.1 c_4
          refine lv_iconst (v := 1) hx hb dX1_holdsConnector_35 (by decide) ?_
          refine lv_goto (tgt := 40) hx hb dX1_holdsConnector_36 (by decide) ?_
          exact w_zret hx hb hr hlocks hW hS (Or.inr rfl) ⟨rfl, (Or.inr rfl), hw⟩ dX1_holdsConnector_40
set_option maxHeartbeats 4000000 in
set_option maxRecDepth 100000 in
theorem c_X2_waitsUnsought {l : Launch} {g : GG} {lay : LY} {E0 : ES} {a : Nat} {L : CS} {K : Int32 → Prop} (hA : okL g lay) (hla : lay a = some lineE) (hL : E0 a = L) (hw : wp_X2_waitsUnsought L K) : JMi l g lay yX2_waitsUnsought wsX2_waitsUnsought rmX2_waitsUnsought [.ref a] E0 (fun r E1 => E1 = E0 ∧ (r = 0 ∨ r = 1) ∧ K r) := by
  refine Met.ofW (cc := cX2_waitsUnsought) (maxL := 1) (ret := (some .boolean)) (by decide) rfl ?_
  intro p e s m args below meth c s₁ B hml hv
  obtain ⟨rfl, hK, hW⟩ := hv
  have hx := B.exec
  have hb := B.bytes
  have hr := B.returns
  have hts := gd_of (atoms_spec (ws := wsX2_waitsUnsought) B.pre)
  have hown : s.vm.findClass RX2 = some m.cls := findClass_of_methodNamed B.named
  have hlocks := B.notSynchronized
  have hS : va_S (Ab g) s.heap s.heap [] := va_S.rf
  have hl := lv_entry [.ref a] (n := 1) (Nat.le_of_ble_eq_true rfl)
  rw [lg_entry_eq]
  generalize (lg_sl [.ref a] ++ List.replicate (1 - (lg_sl [.ref a]).length) Slot.unset).toArray = ls at hl ⊢
  have hl : lv_has ls 1 [(0, .ref a)] := hl
  unfold wp_X2_waitsUnsought at hw
  refine lv_aload_n hx hb dX2_waitsUnsought_0 rfl (lv_at hl 0 rfl) ?_
  refine g_X2_9 hx hb hown hts hK hW hla hL dX2_waitsUnsought_1 ?_
  refine lv_iconst (v := 1) hx hb dX2_waitsUnsought_4 (by decide) ?_
  refine lv_icmp_ne (tgt := 21) hx hb dX2_waitsUnsought_5 (by decide) (fun c_1 => ?_) (fun c_1 => ?_)
  · have hw := hw.2 c_1
    refine lv_iconst (v := 0) hx hb dX2_waitsUnsought_21 (by decide) ?_
    exact w_zret hx hb hr hlocks hW hS (Or.inl rfl) ⟨rfl, (Or.inl rfl), hw⟩ dX2_waitsUnsought_22
  · have hw := hw.1 c_1
    refine lv_aload_n hx hb dX2_waitsUnsought_8 rfl (lv_at hl 0 rfl) ?_
    refine g_X2_31 hx hb hown hts hK hW hla hL dX2_waitsUnsought_9 ?_
    refine lv_bipush (v := (-6)) hx hb dX2_waitsUnsought_12 (by decide) ?_
    refine lv_icmp_ne (tgt := 21) hx hb dX2_waitsUnsought_14 (by decide) (fun c_2 => ?_) (fun c_2 => ?_)
    · have hw := hw.2 c_2
      refine lv_iconst (v := 0) hx hb dX2_waitsUnsought_21 (by decide) ?_
      exact w_zret hx hb hr hlocks hW hS (Or.inl rfl) ⟨rfl, (Or.inl rfl), hw⟩ dX2_waitsUnsought_22
    · have hw := hw.1 c_2
      refine lv_iconst (v := 1) hx hb dX2_waitsUnsought_17 (by decide) ?_
      refine lv_goto (tgt := 22) hx hb dX2_waitsUnsought_18 (by decide) ?_
      exact w_zret hx hb hr hlocks hW hS (Or.inr rfl) ⟨rfl, (Or.inr rfl), hw⟩ dX2_waitsUnsought_22
set_option maxHeartbeats 4000000 in
set_option maxRecDepth 100000 in
theorem c_X2_waitParked {l : Launch} {g : GG} {lay : LY} {E0 : ES} {a : Nat} {L : CS} {p1 : Int32} {K : CS → Prop} (hA : okL g lay) (hla : lay a = some lineE) (hL : E0 a = L) (hw : wp_X2_waitParked L p1 K) : JMv l g lay yX2_waitParked wsX2_waitParked rmX2_waitParked [.ref a, .int p1] E0 (fun E1 => ∃ L1 : CS, E1 = va_up E0 a L1 ∧ K L1) := by
  refine Met.ofW (cc := cX2_waitParked) (maxL := 2) (ret := none) (by decide) rfl ?_
  intro p e s m args below meth c s₁ B hml hv
  obtain ⟨rfl, hK, hW⟩ := hv
  have hx := B.exec
  have hb := B.bytes
  have hr := B.returns
  have hts := gd_of (atoms_spec (ws := wsX2_waitParked) B.pre)
  have hown : s.vm.findClass RX2 = some m.cls := findClass_of_methodNamed B.named
  have hlocks := B.notSynchronized
  have hS : va_S (Ab g) s.heap s.heap [] := va_S.rf
  have hW : Wd g lay (va_up E0 a L) s.heap := by rw [← hL, vuSelf]; exact hW
  have hl := lv_entry [.ref a, .int p1] (n := 2) (Nat.le_of_ble_eq_true rfl)
  rw [lg_entry_eq]
  generalize (lg_sl [.ref a, .int p1] ++ List.replicate (2 - (lg_sl [.ref a, .int p1]).length) Slot.unset).toArray = ls at hl ⊢
  have hl : lv_has ls 2 [(0, .ref a), (1, .int p1)] := hl
  unfold wp_X2_waitParked at hw
  refine lv_aload_n hx hb dX2_waitParked_0 rfl (lv_at hl 0 rfl) ?_
  refine g_X2_9 hx hb hown hts hK hW hla (vuS _ _ _) dX2_waitParked_1 ?_
  refine lv_bipush (v := 10) hx hb dX2_waitParked_4 (by decide) ?_
  refine lv_icmp_eq (tgt := 10) hx hb dX2_waitParked_6 (by decide) (fun c_1 => ?_) (fun c_1 => ?_)
  · have hw := hw.1 c_1
    refine lv_aload_n hx hb dX2_waitParked_10 rfl (lv_at hl 0 rfl) ?_
    refine lv_dup hx hb dX2_waitParked_11 rfl ?_
    refine g_X2_37 hx hb hown hts hK hW hla (vuS _ _ _) dX2_waitParked_12 ?_
    refine lv_iconst (v := 1) hx hb dX2_waitParked_15 (by decide) ?_
    refine lv_iadd hx hb dX2_waitParked_16 ?_
    obtain ⟨X_2, eX_2⟩ : ∃ z : CS, z = upd L 8 ((L 8) + 1) := ⟨_, rfl⟩
    have hw := hw X_2 eX_2
    refine p_X2_37 (E1 := va_up E0 a X_2) hx hb hown hts hK hA hW hS hla (vuS _ _ _) dX2_waitParked_17 (vuE eX_2) (fun H locs hW hS => ?_)
    refine lv_aload_n hx hb dX2_waitParked_20 rfl (lv_at hl 0 rfl) ?_
    refine g_X2_37 hx hb hown hts hK hW hla (vuS _ _ _) dX2_waitParked_21 ?_
    refine lv_iload_n hx hb dX2_waitParked_24 rfl (lv_at hl 1 rfl) ?_
    refine lv_icmp_lt (tgt := 39) hx hb dX2_waitParked_25 (by decide) (fun c_3 => ?_) (fun c_3 => ?_)
    · have hw := hw.1 c_3
      exact w_vret hx hb hr hlocks hW hS ⟨X_2, rfl, hw⟩ dX2_waitParked_39
    · have hw := hw.2 c_3
      refine lv_aload_n hx hb dX2_waitParked_28 rfl (lv_at hl 0 rfl) ?_
      refine lv_bipush (v := 11) hx hb dX2_waitParked_29 (by decide) ?_
      obtain ⟨X_4, eX_4⟩ : ∃ z : CS, z = upd X_2 0 11 := ⟨_, rfl⟩
      have hw := hw X_4 eX_4
      refine p_X2_9 (E1 := va_up E0 a X_4) hx hb hown hts hK hA hW hS hla (vuS _ _ _) dX2_waitParked_31 (vuE eX_4) (fun H locs hW hS => ?_)
      refine lv_aload_n hx hb dX2_waitParked_34 rfl (lv_at hl 0 rfl) ?_
      refine lv_iconst (v := 0) hx hb dX2_waitParked_35 (by decide) ?_
      obtain ⟨X_5, eX_5⟩ : ∃ z : CS, z = upd X_4 8 0 := ⟨_, rfl⟩
      have hw := hw X_5 eX_5
      refine p_X2_37 (E1 := va_up E0 a X_5) hx hb hown hts hK hA hW hS hla (vuS _ _ _) dX2_waitParked_36 (vuE eX_5) (fun H locs hW hS => ?_)
      exact w_vret hx hb hr hlocks hW hS ⟨X_5, rfl, hw⟩ dX2_waitParked_39
  · have hw := hw.2 c_1
    exact w_vret hx hb hr hlocks hW hS ⟨L, rfl, hw⟩ dX2_waitParked_9
set_option maxHeartbeats 4000000 in
set_option maxRecDepth 100000 in
theorem c_X2_callsAnother {l : Launch} {g : GG} {lay : LY} {E0 : ES} {a : Nat} {L : CS} {K : Int32 → Prop} (hA : okL g lay) (hla : lay a = some lineE) (hL : E0 a = L) (hw : wp_X2_callsAnother L K) : JMi l g lay yX2_callsAnother wsX2_callsAnother rmX2_callsAnother [.ref a] E0 (fun r E1 => E1 = E0 ∧ (r = 0 ∨ r = 1) ∧ K r) := by
  refine Met.ofW (cc := cX2_callsAnother) (maxL := 1) (ret := (some .boolean)) (by decide) rfl ?_
  intro p e s m args below meth c s₁ B hml hv
  obtain ⟨rfl, hK, hW⟩ := hv
  have hx := B.exec
  have hb := B.bytes
  have hr := B.returns
  have hts := gd_of (atoms_spec (ws := wsX2_callsAnother) B.pre)
  have hown : s.vm.findClass RX2 = some m.cls := findClass_of_methodNamed B.named
  have hlocks := B.notSynchronized
  have hS : va_S (Ab g) s.heap s.heap [] := va_S.rf
  have hl := lv_entry [.ref a] (n := 1) (Nat.le_of_ble_eq_true rfl)
  rw [lg_entry_eq]
  generalize (lg_sl [.ref a] ++ List.replicate (1 - (lg_sl [.ref a]).length) Slot.unset).toArray = ls at hl ⊢
  have hl : lv_has ls 1 [(0, .ref a)] := hl
  unfold wp_X2_callsAnother at hw
  refine lv_aload_n hx hb dX2_callsAnother_0 rfl (lv_at hl 0 rfl) ?_
  refine g_X2_9 hx hb hown hts hK hW hla hL dX2_callsAnother_1 ?_
  refine lv_iconst (v := 4) hx hb dX2_callsAnother_4 (by decide) ?_
  refine lv_icmp_eq (tgt := 17) hx hb dX2_callsAnother_5 (by decide) (fun c_1 => ?_) (fun c_1 => ?_)
  · have hw := hw.1 c_1
    refine lv_iconst (v := 1) hx hb dX2_callsAnother_17 (by decide) ?_
    refine lv_goto (tgt := 22) hx hb dX2_callsAnother_18 (by decide) ?_
    exact w_zret hx hb hr hlocks hW hS (Or.inr rfl) ⟨rfl, (Or.inr rfl), hw⟩ dX2_callsAnother_22
  · have hw := hw.2 c_1
    refine lv_aload_n hx hb dX2_callsAnother_8 rfl (lv_at hl 0 rfl) ?_
    refine g_X2_9 hx hb hown hts hK hW hla hL dX2_callsAnother_9 ?_
    refine lv_bipush (v := 6) hx hb dX2_callsAnother_12 (by decide) ?_
    refine lv_icmp_ne (tgt := 21) hx hb dX2_callsAnother_14 (by decide) (fun c_2 => ?_) (fun c_2 => ?_)
    · have hw := hw.2 c_2
      refine lv_iconst (v := 0) hx hb dX2_callsAnother_21 (by decide) ?_
      exact w_zret hx hb hr hlocks hW hS (Or.inl rfl) ⟨rfl, (Or.inl rfl), hw⟩ dX2_callsAnother_22
    · have hw := hw.1 c_2
      refine lv_iconst (v := 1) hx hb dX2_callsAnother_17 (by decide) ?_
      refine lv_goto (tgt := 22) hx hb dX2_callsAnother_18 (by decide) ?_
      exact w_zret hx hb hr hlocks hW hS (Or.inr rfl) ⟨rfl, (Or.inr rfl), hw⟩ dX2_callsAnother_22
set_option maxHeartbeats 4000000 in
set_option maxRecDepth 100000 in
theorem c_X1_numberFor {l : Launch} {g : GG} {lay : LY} {E0 : ES} {a : Nat} {L : CS} {p1 : Int32} {K : Int32 → Prop} (hA : okL g lay) (hla : lay a = some finE) (hL : E0 a = L) (hw : wp_X1_numberFor L p1 K) : JMi l g lay yX1_numberFor wsX1_numberFor rmX1_numberFor [.ref a, .int p1] E0 (fun r E1 => E1 = E0 ∧ K r) := by
  refine Met.ofW (cc := cX1_numberFor) (maxL := 2) (ret := (some .int)) (by decide) rfl ?_
  intro p e s m args below meth c s₁ B hml hv
  obtain ⟨rfl, hK, hW⟩ := hv
  have hx := B.exec
  have hb := B.bytes
  have hr := B.returns
  have hts := gd_of (atoms_spec (ws := wsX1_numberFor) B.pre)
  have hown : s.vm.findClass RX1 = some m.cls := findClass_of_methodNamed B.named
  have hlocks := B.notSynchronized
  have hS : va_S (Ab g) s.heap s.heap [] := va_S.rf
  have hl := lv_entry [.ref a, .int p1] (n := 2) (Nat.le_of_ble_eq_true rfl)
  rw [lg_entry_eq]
  generalize (lg_sl [.ref a, .int p1] ++ List.replicate (2 - (lg_sl [.ref a, .int p1]).length) Slot.unset).toArray = ls at hl ⊢
  have hl : lv_has ls 2 [(0, .ref a), (1, .int p1)] := hl
  unfold wp_X1_numberFor at hw
  refine lv_iload_n hx hb dX1_numberFor_0 rfl (lv_at hl 1 rfl) ?_
  by_cases c_1 : p1 = 0
  · have hw := hw.1 c_1
    refine lv_tableIn (tgt := 48) hx hb dX1_numberFor_1 (by rw [c_1]; decide) (by rw [c_1]; decide) (by rw [c_1] <;> rfl) (by decide) ?_
    refine lv_aload_n hx hb dX1_numberFor_48 rfl (lv_at hl 0 rfl) ?_
    refine g_X1_9 hx hb hown hts hK hW hla hL dX1_numberFor_49 ?_
    exact w_iret hx hb hr hlocks hW hS ⟨rfl, hw⟩ dX1_numberFor_52
  · have hw := hw.2 c_1
    by_cases c_2 : p1 = 1
    · have hw := hw.1 c_2
      refine lv_tableIn (tgt := 53) hx hb dX1_numberFor_1 (by rw [c_2]; decide) (by rw [c_2]; decide) (by rw [c_2] <;> rfl) (by decide) ?_
      refine lv_aload_n hx hb dX1_numberFor_53 rfl (lv_at hl 0 rfl) ?_
      refine g_X1_15 hx hb hown hts hK hW hla hL dX1_numberFor_54 ?_
      exact w_iret hx hb hr hlocks hW hS ⟨rfl, hw⟩ dX1_numberFor_57
    · have hw := hw.2 c_2
      by_cases c_3 : p1 = 2
      · have hw := hw.1 c_3
        refine lv_tableIn (tgt := 58) hx hb dX1_numberFor_1 (by rw [c_3]; decide) (by rw [c_3]; decide) (by rw [c_3] <;> rfl) (by decide) ?_
        refine lv_aload_n hx hb dX1_numberFor_58 rfl (lv_at hl 0 rfl) ?_
        refine g_X1_18 hx hb hown hts hK hW hla hL dX1_numberFor_59 ?_
        exact w_iret hx hb hr hlocks hW hS ⟨rfl, hw⟩ dX1_numberFor_62
      · have hw := hw.2 c_3
        by_cases c_4 : p1 = 3
        · have hw := hw.1 c_4
          refine lv_tableIn (tgt := 63) hx hb dX1_numberFor_1 (by rw [c_4]; decide) (by rw [c_4]; decide) (by rw [c_4] <;> rfl) (by decide) ?_
          refine lv_aload_n hx hb dX1_numberFor_63 rfl (lv_at hl 0 rfl) ?_
          refine g_X1_21 hx hb hown hts hK hW hla hL dX1_numberFor_64 ?_
          exact w_iret hx hb hr hlocks hW hS ⟨rfl, hw⟩ dX1_numberFor_67
        · have hw := hw.2 c_4
          by_cases c_5 : p1 = 4
          · have hw := hw.1 c_5
            refine lv_tableIn (tgt := 68) hx hb dX1_numberFor_1 (by rw [c_5]; decide) (by rw [c_5]; decide) (by rw [c_5] <;> rfl) (by decide) ?_
            refine lv_aload_n hx hb dX1_numberFor_68 rfl (lv_at hl 0 rfl) ?_
            refine g_X1_24 hx hb hown hts hK hW hla hL dX1_numberFor_69 ?_
            exact w_iret hx hb hr hlocks hW hS ⟨rfl, hw⟩ dX1_numberFor_72
          · have hw := hw.2 c_5
            by_cases c_6 : p1 = 5
            · have hw := hw.1 c_6
              refine lv_tableIn (tgt := 73) hx hb dX1_numberFor_1 (by rw [c_6]; decide) (by rw [c_6]; decide) (by rw [c_6] <;> rfl) (by decide) ?_
              refine lv_aload_n hx hb dX1_numberFor_73 rfl (lv_at hl 0 rfl) ?_
              refine g_X1_27 hx hb hown hts hK hW hla hL dX1_numberFor_74 ?_
              exact w_iret hx hb hr hlocks hW hS ⟨rfl, hw⟩ dX1_numberFor_77
            · have hw := hw.2 c_6
              by_cases c_7 : p1 = 6
              · have hw := hw.1 c_7
                refine lv_tableIn (tgt := 78) hx hb dX1_numberFor_1 (by rw [c_7]; decide) (by rw [c_7]; decide) (by rw [c_7] <;> rfl) (by decide) ?_
                refine lv_aload_n hx hb dX1_numberFor_78 rfl (lv_at hl 0 rfl) ?_
                refine g_X1_33 hx hb hown hts hK hW hla hL dX1_numberFor_79 ?_
                exact w_iret hx hb hr hlocks hW hS ⟨rfl, hw⟩ dX1_numberFor_82
              · have hw := hw.2 c_7
                by_cases c_8 : p1 = 7
                · have hw := hw.1 c_8
                  refine lv_tableIn (tgt := 83) hx hb dX1_numberFor_1 (by rw [c_8]; decide) (by rw [c_8]; decide) (by rw [c_8] <;> rfl) (by decide) ?_
                  refine lv_aload_n hx hb dX1_numberFor_83 rfl (lv_at hl 0 rfl) ?_
                  refine g_X1_36 hx hb hown hts hK hW hla hL dX1_numberFor_84 ?_
                  exact w_iret hx hb hr hlocks hW hS ⟨rfl, hw⟩ dX1_numberFor_87
                · have hw := hw.2 c_8
                  refine lv_tableOut (tgt := 88) hx hb dX1_numberFor_1 (by have zc_1 := lv_neT (a := 0) c_1 rfl; have zc_2 := lv_neT (a := 1) c_2 rfl; have zc_3 := lv_neT (a := 2) c_3 rfl; have zc_4 := lv_neT (a := 3) c_4 rfl; have zc_5 := lv_neT (a := 4) c_5 rfl; have zc_6 := lv_neT (a := 5) c_6 rfl; have zc_7 := lv_neT (a := 6) c_7 rfl; have zc_8 := lv_neT (a := 7) c_8 rfl; omega) (by decide) ?_
                  refine lv_bipush (v := (-2)) hx hb dX1_numberFor_88 (by decide) ?_
                  exact w_iret hx hb hr hlocks hW hS ⟨rfl, hw⟩ dX1_numberFor_90
set_option maxHeartbeats 4000000 in
set_option maxRecDepth 100000 in
theorem c_X4_isWithin {l : Launch} {g : GG} {lay : LY} {E0 : ES} {p1 : Int32} {p2 : Int32} {p3 : Int32} {K : Int32 → Prop} (hw : wp_X4_isWithin p1 p2 p3 K) : JMi l g lay yX4_isWithin wsX4_isWithin rmX4_isWithin [.int p1, .int p2, .int p3] E0 (fun r E1 => E1 = E0 ∧ (r = 0 ∨ r = 1) ∧ K r) := by
  refine Met.ofW (cc := cX4_isWithin) (maxL := 3) (ret := (some .boolean)) (by decide) rfl ?_
  intro p e s m args below meth c s₁ B hml hv
  obtain ⟨rfl, hK, hW⟩ := hv
  have hx := B.exec
  have hb := B.bytes
  have hr := B.returns
  have hts := gd_of (atoms_spec (ws := wsX4_isWithin) B.pre)
  have hown : s.vm.findClass RX4 = some m.cls := findClass_of_methodNamed B.named
  have hlocks := B.notSynchronized
  have hS : va_S (Ab g) s.heap s.heap [] := va_S.rf
  have hl := lv_entry [.int p1, .int p2, .int p3] (n := 3) (Nat.le_of_ble_eq_true rfl)
  rw [lg_entry_eq]
  generalize (lg_sl [.int p1, .int p2, .int p3] ++ List.replicate (3 - (lg_sl [.int p1, .int p2, .int p3]).length) Slot.unset).toArray = ls at hl ⊢
  have hl : lv_has ls 3 [(0, .int p1), (1, .int p2), (2, .int p3)] := hl
  unfold wp_X4_isWithin at hw
  refine lv_iload_n hx hb dX4_isWithin_0 rfl (lv_at hl 0 rfl) ?_
  refine lv_iload_n hx hb dX4_isWithin_1 rfl (lv_at hl 1 rfl) ?_
  refine lv_icmp_lt (tgt := 14) hx hb dX4_isWithin_2 (by decide) (fun c_1 => ?_) (fun c_1 => ?_)
  · have hw := hw.1 c_1
    refine lv_iconst (v := 0) hx hb dX4_isWithin_14 (by decide) ?_
    exact w_zret hx hb hr hlocks hW hS (Or.inl rfl) ⟨rfl, (Or.inl rfl), hw⟩ dX4_isWithin_15
  · have hw := hw.2 c_1
    refine lv_iload_n hx hb dX4_isWithin_5 rfl (lv_at hl 0 rfl) ?_
    refine lv_iload_n hx hb dX4_isWithin_6 rfl (lv_at hl 2 rfl) ?_
    refine lv_icmp_gt (tgt := 14) hx hb dX4_isWithin_7 (by decide) (fun c_2 => ?_) (fun c_2 => ?_)
    · have hw := hw.1 c_2
      refine lv_iconst (v := 0) hx hb dX4_isWithin_14 (by decide) ?_
      exact w_zret hx hb hr hlocks hW hS (Or.inl rfl) ⟨rfl, (Or.inl rfl), hw⟩ dX4_isWithin_15
    · have hw := hw.2 c_2
      refine lv_iconst (v := 1) hx hb dX4_isWithin_10 (by decide) ?_
      refine lv_goto (tgt := 15) hx hb dX4_isWithin_11 (by decide) ?_
      exact w_zret hx hb hr hlocks hW hS (Or.inr rfl) ⟨rfl, (Or.inr rfl), hw⟩ dX4_isWithin_15
set_option maxHeartbeats 4000000 in
set_option maxRecDepth 100000 in
theorem c_X4_isLine {l : Launch} {g : GG} {lay : LY} {E0 : ES} {p1 : Int32} {K : Int32 → Prop} (hw : wp_X4_isLine p1 K) : JMi l g lay yX4_isLine wsX4_isLine rmX4_isLine [.int p1] E0 (fun r E1 => E1 = E0 ∧ (r = 0 ∨ r = 1) ∧ K r) := by
  refine Met.ofW (cc := cX4_isLine) (maxL := 1) (ret := (some .boolean)) (by decide) rfl ?_
  intro p e s m args below meth c s₁ B hml hv
  obtain ⟨rfl, hK, hW⟩ := hv
  have hx := B.exec
  have hb := B.bytes
  have hr := B.returns
  have hts := gd_of (atoms_spec (ws := wsX4_isLine) B.pre)
  have hown : s.vm.findClass RX4 = some m.cls := findClass_of_methodNamed B.named
  have hlocks := B.notSynchronized
  have hS : va_S (Ab g) s.heap s.heap [] := va_S.rf
  have hl := lv_entry [.int p1] (n := 1) (Nat.le_of_ble_eq_true rfl)
  rw [lg_entry_eq]
  generalize (lg_sl [.int p1] ++ List.replicate (1 - (lg_sl [.int p1]).length) Slot.unset).toArray = ls at hl ⊢
  have hl : lv_has ls 1 [(0, .int p1)] := hl
  unfold wp_X4_isLine at hw
  refine lv_iload_n hx hb dX4_isLine_0 rfl (lv_at hl 0 rfl) ?_
  refine lv_iconst (v := 0) hx hb dX4_isLine_1 (by decide) ?_
  refine lv_bipush (v := 15) hx hb dX4_isLine_2 (by decide) ?_
  refine w_csi (As := [.int p1, .int 0, .int 15]) (rest := []) hx hb hml hown hts hK hW hS hl.1 (c_X4_isWithin hw) (k_X4_30 hts ⟨Nat.le_of_ble_eq_true rfl, Nat.le_of_ble_eq_true rfl⟩) rfl rfl (Nat.le_of_ble_eq_true rfl) dX4_isLine_4 ⟨Nat.zero_le _, Nat.zero_le _⟩ (fun r_1 Ez H locs hw2 hW hS => ?_)
  obtain ⟨ez, z_2, hw⟩ := hw2
  rw [ez] at hW
  exact w_zret hx hb hr hlocks hW hS z_2 ⟨rfl, z_2, hw⟩ dX4_isLine_7
