set_option maxHeartbeats 4000000 in
set_option maxRecDepth 100000 in
theorem c_X2_leaveCall {l : Launch} {g : GG} {lay : LY} {E0 : ES} {a : Nat} {L : CS} {p1 : Int32} {K : CS → Prop} (hA : okL g lay) (hla : lay a = some lineE) (hL : E0 a = L) (hw : wp_X2_leaveCall L p1 K) : JMv l g lay yX2_leaveCall wsX2_leaveCall rmX2_leaveCall [.ref a, .int p1] E0 (fun E1 => ∃ L1 : CS, E1 = va_up E0 a L1 ∧ K L1) := by
  refine Met.ofW (cc := cX2_leaveCall) (maxL := 2) (ret := none) (by decide) rfl ?_
  intro p e s m args below meth c s₁ B hml hv
  obtain ⟨rfl, hK, hW⟩ := hv
  have hx := B.exec
  have hb := B.bytes
  have hr := B.returns
  have hts := gd_of (atoms_spec (ws := wsX2_leaveCall) B.pre)
  have hown : s.vm.findClass RX2 = some m.cls := findClass_of_methodNamed B.named
  have hlocks := B.notSynchronized
  have hS : va_S (Ab g) s.heap s.heap [] := va_S.rf
  have hW : Wd g lay (va_up E0 a L) s.heap := by rw [← hL, vuSelf]; exact hW
  have hl := lv_entry [.ref a, .int p1] (n := 2) (Nat.le_of_ble_eq_true rfl)
  rw [lg_entry_eq]
  generalize (lg_sl [.ref a, .int p1] ++ List.replicate (2 - (lg_sl [.ref a, .int p1]).length) Slot.unset).toArray = ls at hl ⊢
  have hl : lv_has ls 2 [(0, .ref a), (1, .int p1)] := hl
  unfold wp_X2_leaveCall at hw
  refine lv_aload_n hx hb dX2_leaveCall_0 rfl (lv_at hl 0 rfl) ?_
  refine lv_iload_n hx hb dX2_leaveCall_1 rfl (lv_at hl 1 rfl) ?_
  obtain ⟨X_1, eX_1⟩ : ∃ z : CS, z = upd L 0 p1 := ⟨_, rfl⟩
  have hw := hw X_1 eX_1
  refine p_X2_9 (E1 := va_up E0 a X_1) hx hb hown hts hK hA hW hS hla (vuS _ _ _) dX2_leaveCall_2 (vuE eX_1) (fun H locs hW hS => ?_)
  refine lv_aload_n hx hb dX2_leaveCall_5 rfl (lv_at hl 0 rfl) ?_
  refine lv_bipush (v := (-6)) hx hb dX2_leaveCall_6 (by decide) ?_
  obtain ⟨X_2, eX_2⟩ : ∃ z : CS, z = upd X_1 6 (-6) := ⟨_, rfl⟩
  have hw := hw X_2 eX_2
  refine p_X2_31 (E1 := va_up E0 a X_2) hx hb hown hts hK hA hW hS hla (vuS _ _ _) dX2_leaveCall_8 (vuE eX_2) (fun H locs hW hS => ?_)
  refine lv_aload_n hx hb dX2_leaveCall_11 rfl (lv_at hl 0 rfl) ?_
  refine lv_iconst (v := 0) hx hb dX2_leaveCall_12 (by decide) ?_
  obtain ⟨X_3, eX_3⟩ : ∃ z : CS, z = upd X_2 8 0 := ⟨_, rfl⟩
  have hw := hw X_3 eX_3
  refine p_X2_37 (E1 := va_up E0 a X_3) hx hb hown hts hK hA hW hS hla (vuS _ _ _) dX2_leaveCall_13 (vuE eX_3) (fun H locs hW hS => ?_)
  refine lv_aload_n hx hb dX2_leaveCall_16 rfl (lv_at hl 0 rfl) ?_
  refine lv_iconst (v := 0) hx hb dX2_leaveCall_17 (by decide) ?_
  obtain ⟨X_4, eX_4⟩ : ∃ z : CS, z = upd X_3 4 0 := ⟨_, rfl⟩
  have hw := hw X_4 eX_4
  refine p_X2_25 (E1 := va_up E0 a X_4) hx hb hown hts hK hA hW hS hla (vuS _ _ _) dX2_leaveCall_18 (vuE eX_4) (fun H locs hW hS => ?_)
  refine lv_aload_n hx hb dX2_leaveCall_21 rfl (lv_at hl 0 rfl) ?_
  refine lv_iconst (v := 0) hx hb dX2_leaveCall_22 (by decide) ?_
  obtain ⟨X_5, eX_5⟩ : ∃ z : CS, z = upd X_4 5 0 := ⟨_, rfl⟩
  have hw := hw X_5 eX_5
  refine p_X2_28 (E1 := va_up E0 a X_5) hx hb hown hts hK hA hW hS hla (vuS _ _ _) dX2_leaveCall_23 (vuE eX_5) (fun H locs hW hS => ?_)
  exact w_vret hx hb hr hlocks hW hS ⟨X_5, rfl, hw⟩ dX2_leaveCall_26
set_option maxHeartbeats 4000000 in
set_option maxRecDepth 100000 in
theorem c_X2_renew {l : Launch} {g : GG} {lay : LY} {E0 : ES} {a : Nat} {L : CS} {K : CS → Prop} (hA : okL g lay) (hla : lay a = some lineE) (hL : E0 a = L) (hw : wp_X2_renew L K) : JMv l g lay yX2_renew wsX2_renew rmX2_renew [.ref a] E0 (fun E1 => ∃ L1 : CS, E1 = va_up E0 a L1 ∧ K L1) := by
  refine Met.ofW (cc := cX2_renew) (maxL := 1) (ret := none) (by decide) rfl ?_
  intro p e s m args below meth c s₁ B hml hv
  obtain ⟨rfl, hK, hW⟩ := hv
  have hx := B.exec
  have hb := B.bytes
  have hr := B.returns
  have hts := gd_of (atoms_spec (ws := wsX2_renew) B.pre)
  have hown : s.vm.findClass RX2 = some m.cls := findClass_of_methodNamed B.named
  have hlocks := B.notSynchronized
  have hS : va_S (Ab g) s.heap s.heap [] := va_S.rf
  have hW : Wd g lay (va_up E0 a L) s.heap := by rw [← hL, vuSelf]; exact hW
  have hl := lv_entry [.ref a] (n := 1) (Nat.le_of_ble_eq_true rfl)
  rw [lg_entry_eq]
  generalize (lg_sl [.ref a] ++ List.replicate (1 - (lg_sl [.ref a]).length) Slot.unset).toArray = ls at hl ⊢
  have hl : lv_has ls 1 [(0, .ref a)] := hl
  unfold wp_X2_renew at hw
  refine lv_aload_n hx hb dX2_renew_0 rfl (lv_at hl 0 rfl) ?_
  refine lv_iconst (v := 0) hx hb dX2_renew_1 (by decide) ?_
  refine w_cvv (As := [.int 0]) (rest := []) hx hb hml hown hts hK hW hS hl.1 (c_X2_leaveCall hA hla (vuS _ _ _) hw) (k_X2_40 hts ⟨Nat.le_of_ble_eq_true rfl, Nat.le_of_ble_eq_true rfl⟩) (w_recv hK hW hla (vuS _ _ _) rfl rfl) rfl rfl (Nat.le_of_ble_eq_true rfl) dX2_renew_2 ⟨Nat.zero_le _, Nat.zero_le _⟩ (fun Ez H locs hw2 hW hS => ?_)
  obtain ⟨Y_1, ez, hw⟩ := hw2
  rw [ez] at hW
  have hW : Wd g lay (va_up E0 a Y_1) H := by rw [← vuU E0 a L Y_1]; exact hW
  refine lv_aload_n hx hb dX2_renew_5 rfl (lv_at hl 0 rfl) ?_
  refine lv_iconst (v := 0) hx hb dX2_renew_6 (by decide) ?_
  obtain ⟨X_3, eX_3⟩ : ∃ z : CS, z = upd Y_1 1 0 := ⟨_, rfl⟩
  have hw := hw X_3 eX_3
  refine p_X2_15 (E1 := va_up E0 a X_3) hx hb hown hts hK hA hW hS hla (vuS _ _ _) (Or.inl rfl) dX2_renew_7 (vuE eX_3) (fun H locs hW hS => ?_)
  refine lv_aload_n hx hb dX2_renew_10 rfl (lv_at hl 0 rfl) ?_
  refine lv_iconst (v := 0) hx hb dX2_renew_11 (by decide) ?_
  obtain ⟨X_4, eX_4⟩ : ∃ z : CS, z = upd X_3 2 0 := ⟨_, rfl⟩
  have hw := hw X_4 eX_4
  refine p_X2_19 (E1 := va_up E0 a X_4) hx hb hown hts hK hA hW hS hla (vuS _ _ _) dX2_renew_12 (vuE eX_4) (fun H locs hW hS => ?_)
  refine lv_aload_n hx hb dX2_renew_15 rfl (lv_at hl 0 rfl) ?_
  refine lv_iconst (v := 0) hx hb dX2_renew_16 (by decide) ?_
  obtain ⟨X_5, eX_5⟩ : ∃ z : CS, z = upd X_4 3 0 := ⟨_, rfl⟩
  have hw := hw X_5 eX_5
  refine p_X2_22 (E1 := va_up E0 a X_5) hx hb hown hts hK hA hW hS hla (vuS _ _ _) dX2_renew_17 (vuE eX_5) (fun H locs hW hS => ?_)
  refine lv_aload_n hx hb dX2_renew_20 rfl (lv_at hl 0 rfl) ?_
  refine lv_iconst (v := 0) hx hb dX2_renew_21 (by decide) ?_
  obtain ⟨X_6, eX_6⟩ : ∃ z : CS, z = upd X_5 7 0 := ⟨_, rfl⟩
  have hw := hw X_6 eX_6
  refine p_X2_34 (E1 := va_up E0 a X_6) hx hb hown hts hK hA hW hS hla (vuS _ _ _) dX2_renew_22 (vuE eX_6) (fun H locs hW hS => ?_)
  exact w_vret hx hb hr hlocks hW hS ⟨X_6, rfl, hw⟩ dX2_renew_25
set_option maxHeartbeats 4000000 in
set_option maxRecDepth 100000 in
theorem c_X1_become {l : Launch} {g : GG} {lay : LY} {E0 : ES} {a : Nat} {L : CS} {p1 : Int32} {K : CS → Prop} (hA : okL g lay) (hla : lay a = some finE) (hL : E0 a = L) (hw : wp_X1_become L p1 K) : JMv l g lay yX1_become wsX1_become rmX1_become [.ref a, .int p1] E0 (fun E1 => ∃ L1 : CS, E1 = va_up E0 a L1 ∧ K L1) := by
  refine Met.ofW (cc := cX1_become) (maxL := 2) (ret := none) (by decide) rfl ?_
  intro p e s m args below meth c s₁ B hml hv
  obtain ⟨rfl, hK, hW⟩ := hv
  have hx := B.exec
  have hb := B.bytes
  have hr := B.returns
  have hts := gd_of (atoms_spec (ws := wsX1_become) B.pre)
  have hown : s.vm.findClass RX1 = some m.cls := findClass_of_methodNamed B.named
  have hlocks := B.notSynchronized
  have hS : va_S (Ab g) s.heap s.heap [] := va_S.rf
  have hW : Wd g lay (va_up E0 a L) s.heap := by rw [← hL, vuSelf]; exact hW
  have hl := lv_entry [.ref a, .int p1] (n := 2) (Nat.le_of_ble_eq_true rfl)
  rw [lg_entry_eq]
  generalize (lg_sl [.ref a, .int p1] ++ List.replicate (2 - (lg_sl [.ref a, .int p1]).length) Slot.unset).toArray = ls at hl ⊢
  have hl : lv_has ls 2 [(0, .ref a), (1, .int p1)] := hl
  unfold wp_X1_become at hw
  refine lv_aload_n hx hb dX1_become_0 rfl (lv_at hl 0 rfl) ?_
  refine lv_iload_n hx hb dX1_become_1 rfl (lv_at hl 1 rfl) ?_
  obtain ⟨X_1, eX_1⟩ : ∃ z : CS, z = upd L 0 p1 := ⟨_, rfl⟩
  have hw := hw X_1 eX_1
  refine p_X1_9 (E1 := va_up E0 a X_1) hx hb hown hts hK hA hW hS hla (vuS _ _ _) dX1_become_2 (vuE eX_1) (fun H locs hW hS => ?_)
  refine lv_aload_n hx hb dX1_become_5 rfl (lv_at hl 0 rfl) ?_
  refine lv_iconst (v := 0) hx hb dX1_become_6 (by decide) ?_
  obtain ⟨X_2, eX_2⟩ : ∃ z : CS, z = upd X_1 7 0 := ⟨_, rfl⟩
  have hw := hw X_2 eX_2
  refine p_X1_33 (E1 := va_up E0 a X_2) hx hb hown hts hK hA hW hS hla (vuS _ _ _) dX1_become_7 (vuE eX_2) (fun H locs hW hS => ?_)
  refine lv_aload_n hx hb dX1_become_10 rfl (lv_at hl 0 rfl) ?_
  refine lv_iconst (v := 0) hx hb dX1_become_11 (by decide) ?_
  obtain ⟨X_3, eX_3⟩ : ∃ z : CS, z = upd X_2 8 0 := ⟨_, rfl⟩
  have hw := hw X_3 eX_3
  refine p_X1_36 (E1 := va_up E0 a X_3) hx hb hown hts hK hA hW hS hla (vuS _ _ _) dX1_become_12 (vuE eX_3) (fun H locs hW hS => ?_)
  exact w_vret hx hb hr hlocks hW hS ⟨X_3, rfl, hw⟩ dX1_become_15
set_option maxHeartbeats 4000000 in
set_option maxRecDepth 100000 in
theorem c_X1_becomeFree {l : Launch} {g : GG} {lay : LY} {E0 : ES} {a : Nat} {L : CS} {K : CS → Prop} (hA : okL g lay) (hla : lay a = some finE) (hL : E0 a = L) (hw : wp_X1_becomeFree L K) : JMv l g lay yX1_becomeFree wsX1_becomeFree rmX1_becomeFree [.ref a] E0 (fun E1 => ∃ L1 : CS, E1 = va_up E0 a L1 ∧ K L1) := by
  refine Met.ofW (cc := cX1_becomeFree) (maxL := 1) (ret := none) (by decide) rfl ?_
  intro p e s m args below meth c s₁ B hml hv
  obtain ⟨rfl, hK, hW⟩ := hv
  have hx := B.exec
  have hb := B.bytes
  have hr := B.returns
  have hts := gd_of (atoms_spec (ws := wsX1_becomeFree) B.pre)
  have hown : s.vm.findClass RX1 = some m.cls := findClass_of_methodNamed B.named
  have hlocks := B.notSynchronized
  have hS : va_S (Ab g) s.heap s.heap [] := va_S.rf
  have hW : Wd g lay (va_up E0 a L) s.heap := by rw [← hL, vuSelf]; exact hW
  have hl := lv_entry [.ref a] (n := 1) (Nat.le_of_ble_eq_true rfl)
  rw [lg_entry_eq]
  generalize (lg_sl [.ref a] ++ List.replicate (1 - (lg_sl [.ref a]).length) Slot.unset).toArray = ls at hl ⊢
  have hl : lv_has ls 1 [(0, .ref a)] := hl
  unfold wp_X1_becomeFree at hw
  refine lv_aload_n hx hb dX1_becomeFree_0 rfl (lv_at hl 0 rfl) ?_
  refine lv_iconst (v := 0) hx hb dX1_becomeFree_1 (by decide) ?_
  refine w_cvv (As := [.int 0]) (rest := []) hx hb hml hown hts hK hW hS hl.1 (c_X1_become hA hla (vuS _ _ _) hw) (k_X1_45 hts ⟨Nat.le_of_ble_eq_true rfl, Nat.le_of_ble_eq_true rfl⟩) (w_recv hK hW hla (vuS _ _ _) rfl rfl) rfl rfl (Nat.le_of_ble_eq_true rfl) dX1_becomeFree_2 ⟨Nat.zero_le _, Nat.zero_le _⟩ (fun Ez H locs hw2 hW hS => ?_)
  obtain ⟨Y_1, ez, hw⟩ := hw2
  rw [ez] at hW
  have hW : Wd g lay (va_up E0 a Y_1) H := by rw [← vuU E0 a L Y_1]; exact hW
  refine lv_aload_n hx hb dX1_becomeFree_5 rfl (lv_at hl 0 rfl) ?_
  refine lv_bipush (v := (-6)) hx hb dX1_becomeFree_6 (by decide) ?_
  obtain ⟨X_3, eX_3⟩ : ∃ z : CS, z = upd Y_1 2 (-6) := ⟨_, rfl⟩
  have hw := hw X_3 eX_3
  refine p_X1_18 (E1 := va_up E0 a X_3) hx hb hown hts hK hA hW hS hla (vuS _ _ _) dX1_becomeFree_8 (vuE eX_3) (fun H locs hW hS => ?_)
  refine lv_aload_n hx hb dX1_becomeFree_11 rfl (lv_at hl 0 rfl) ?_
  refine lv_iconst (v := 0) hx hb dX1_becomeFree_12 (by decide) ?_
  obtain ⟨X_4, eX_4⟩ : ∃ z : CS, z = upd X_3 3 0 := ⟨_, rfl⟩
  have hw := hw X_4 eX_4
  refine p_X1_21 (E1 := va_up E0 a X_4) hx hb hown hts hK hA hW hS hla (vuS _ _ _) dX1_becomeFree_13 (vuE eX_4) (fun H locs hW hS => ?_)
  refine lv_aload_n hx hb dX1_becomeFree_16 rfl (lv_at hl 0 rfl) ?_
  refine lv_bipush (v := (-6)) hx hb dX1_becomeFree_17 (by decide) ?_
  obtain ⟨X_5, eX_5⟩ : ∃ z : CS, z = upd X_4 4 (-6) := ⟨_, rfl⟩
  have hw := hw X_5 eX_5
  refine p_X1_24 (E1 := va_up E0 a X_5) hx hb hown hts hK hA hW hS hla (vuS _ _ _) dX1_becomeFree_19 (vuE eX_5) (fun H locs hW hS => ?_)
  refine lv_aload_n hx hb dX1_becomeFree_22 rfl (lv_at hl 0 rfl) ?_
  refine lv_iconst (v := 0) hx hb dX1_becomeFree_23 (by decide) ?_
  obtain ⟨X_6, eX_6⟩ : ∃ z : CS, z = upd X_5 5 0 := ⟨_, rfl⟩
  have hw := hw X_6 eX_6
  refine p_X1_27 (E1 := va_up E0 a X_6) hx hb hown hts hK hA hW hS hla (vuS _ _ _) dX1_becomeFree_24 (vuE eX_6) (fun H locs hW hS => ?_)
  refine lv_aload_n hx hb dX1_becomeFree_27 rfl (lv_at hl 0 rfl) ?_
  refine lv_iconst (v := 0) hx hb dX1_becomeFree_28 (by decide) ?_
  obtain ⟨X_7, eX_7⟩ : ∃ z : CS, z = upd X_6 6 0 := ⟨_, rfl⟩
  have hw := hw X_7 eX_7
  refine p_X1_30 (E1 := va_up E0 a X_7) hx hb hown hts hK hA hW hS hla (vuS _ _ _) dX1_becomeFree_29 (vuE eX_7) (fun H locs hW hS => ?_)
  refine lv_aload_n hx hb dX1_becomeFree_32 rfl (lv_at hl 0 rfl) ?_
  refine lv_bipush (v := (-6)) hx hb dX1_becomeFree_33 (by decide) ?_
  obtain ⟨X_8, eX_8⟩ : ∃ z : CS, z = upd X_7 9 (-6) := ⟨_, rfl⟩
  have hw := hw X_8 eX_8
  refine p_X1_39 (E1 := va_up E0 a X_8) hx hb hown hts hK hA hW hS hla (vuS _ _ _) dX1_becomeFree_35 (vuE eX_8) (fun H locs hW hS => ?_)
  exact w_vret hx hb hr hlocks hW hS ⟨X_8, rfl, hw⟩ dX1_becomeFree_38
set_option maxHeartbeats 4000000 in
set_option maxRecDepth 100000 in
theorem c_X1_renew {l : Launch} {g : GG} {lay : LY} {E0 : ES} {a : Nat} {L : CS} {K : CS → Prop} (hA : okL g lay) (hla : lay a = some finE) (hL : E0 a = L) (hw : wp_X1_renew L K) : JMv l g lay yX1_renew wsX1_renew rmX1_renew [.ref a] E0 (fun E1 => ∃ L1 : CS, E1 = va_up E0 a L1 ∧ K L1) := by
  refine Met.ofW (cc := cX1_renew) (maxL := 1) (ret := none) (by decide) rfl ?_
  intro p e s m args below meth c s₁ B hml hv
  obtain ⟨rfl, hK, hW⟩ := hv
  have hx := B.exec
  have hb := B.bytes
  have hr := B.returns
  have hts := gd_of (atoms_spec (ws := wsX1_renew) B.pre)
  have hown : s.vm.findClass RX1 = some m.cls := findClass_of_methodNamed B.named
  have hlocks := B.notSynchronized
  have hS : va_S (Ab g) s.heap s.heap [] := va_S.rf
  have hW : Wd g lay (va_up E0 a L) s.heap := by rw [← hL, vuSelf]; exact hW
  have hl := lv_entry [.ref a] (n := 1) (Nat.le_of_ble_eq_true rfl)
  rw [lg_entry_eq]
  generalize (lg_sl [.ref a] ++ List.replicate (1 - (lg_sl [.ref a]).length) Slot.unset).toArray = ls at hl ⊢
  have hl : lv_has ls 1 [(0, .ref a)] := hl
  unfold wp_X1_renew at hw
  refine lv_aload_n hx hb dX1_renew_0 rfl (lv_at hl 0 rfl) ?_
  refine w_cvv (As := []) (rest := []) hx hb hml hown hts hK hW hS hl.1 (c_X1_becomeFree hA hla (vuS _ _ _) hw) (k_X1_42 hts ⟨Nat.le_of_ble_eq_true rfl, Nat.le_of_ble_eq_true rfl⟩) (w_recv hK hW hla (vuS _ _ _) rfl rfl) rfl rfl (Nat.le_of_ble_eq_true rfl) dX1_renew_1 ⟨Nat.zero_le _, Nat.zero_le _⟩ (fun Ez H locs hw2 hW hS => ?_)
  obtain ⟨Y_1, ez, hw⟩ := hw2
  rw [ez] at hW
  have hW : Wd g lay (va_up E0 a Y_1) H := by rw [← vuU E0 a L Y_1]; exact hW
  refine lv_aload_n hx hb dX1_renew_4 rfl (lv_at hl 0 rfl) ?_
  refine lv_iconst (v := 0) hx hb dX1_renew_5 (by decide) ?_
  obtain ⟨X_3, eX_3⟩ : ∃ z : CS, z = upd Y_1 1 0 := ⟨_, rfl⟩
  have hw := hw X_3 eX_3
  refine p_X1_15 (E1 := va_up E0 a X_3) hx hb hown hts hK hA hW hS hla (vuS _ _ _) dX1_renew_6 (vuE eX_3) (fun H locs hW hS => ?_)
  exact w_vret hx hb hr hlocks hW hS ⟨X_3, rfl, hw⟩ dX1_renew_9
set_option maxHeartbeats 4000000 in
set_option maxRecDepth 100000 in
theorem c_X2_copyFrom {l : Launch} {g : GG} {lay : LY} {E0 : ES} {a b : Nat} {L M : CS} {K : CS → Prop} (hA : okL g lay) (hla : lay a = some lineE) (hlb : lay b = some lineE) (hL : E0 a = L) (hM : E0 b = M) (hne : a ≠ b) (hw : wp_X2_copyFrom L M K) : JMv l g lay yX2_copyFrom wsX2_copyFrom rmX2_copyFrom [.ref a, .ref b] E0 (fun E1 => ∃ L1 : CS, E1 = va_up E0 a L1 ∧ K L1) := by
  refine Met.ofW (cc := cX2_copyFrom) (maxL := 2) (ret := none) (by decide) rfl ?_
  intro p e s m args below meth c s₁ B hml hv
  obtain ⟨rfl, hK, hW⟩ := hv
  have hx := B.exec
  have hb := B.bytes
  have hr := B.returns
  have hts := gd_of (atoms_spec (ws := wsX2_copyFrom) B.pre)
  have hown : s.vm.findClass RX2 = some m.cls := findClass_of_methodNamed B.named
  have hlocks := B.notSynchronized
  have hS : va_S (Ab g) s.heap s.heap [] := va_S.rf
  have hW : Wd g lay (va_up E0 a L) s.heap := by rw [← hL, vuSelf]; exact hW
  have hl := lv_entry [.ref a, .ref b] (n := 2) (Nat.le_of_ble_eq_true rfl)
  rw [lg_entry_eq]
  generalize (lg_sl [.ref a, .ref b] ++ List.replicate (2 - (lg_sl [.ref a, .ref b]).length) Slot.unset).toArray = ls at hl ⊢
  have hl : lv_has ls 2 [(0, .ref a), (1, .ref b)] := hl
  unfold wp_X2_copyFrom at hw
  refine lv_aload_n hx hb dX2_copyFrom_0 rfl (lv_at hl 0 rfl) ?_
  refine lv_aload_n hx hb dX2_copyFrom_1 rfl (lv_at hl 1 rfl) ?_
  refine g_X2_9 hx hb hown hts hK hW hlb ((vuN (Ne.symm hne)).trans hM) dX2_copyFrom_2 ?_
  obtain ⟨X_1, eX_1⟩ : ∃ z : CS, z = upd L 0 (M 0) := ⟨_, rfl⟩
  have hw := hw X_1 eX_1
  refine p_X2_9 (E1 := va_up E0 a X_1) hx hb hown hts hK hA hW hS hla (vuS _ _ _) dX2_copyFrom_5 (vuE eX_1) (fun H locs hW hS => ?_)
  refine lv_aload_n hx hb dX2_copyFrom_8 rfl (lv_at hl 0 rfl) ?_
  refine lv_aload_n hx hb dX2_copyFrom_9 rfl (lv_at hl 1 rfl) ?_
  refine g_X2_15 hx hb hown hts hK hW hlb ((vuN (Ne.symm hne)).trans hM) dX2_copyFrom_10 ?_
  obtain ⟨hz, hw⟩ := hw
  obtain ⟨X_2, eX_2⟩ : ∃ z : CS, z = upd X_1 1 (M 1) := ⟨_, rfl⟩
  have hw := hw X_2 eX_2
  refine p_X2_15 (E1 := va_up E0 a X_2) hx hb hown hts hK hA hW hS hla (vuS _ _ _) hz dX2_copyFrom_13 (vuE eX_2) (fun H locs hW hS => ?_)
  refine lv_aload_n hx hb dX2_copyFrom_16 rfl (lv_at hl 0 rfl) ?_
  refine lv_aload_n hx hb dX2_copyFrom_17 rfl (lv_at hl 1 rfl) ?_
  refine g_X2_19 hx hb hown hts hK hW hlb ((vuN (Ne.symm hne)).trans hM) dX2_copyFrom_18 ?_
  obtain ⟨X_3, eX_3⟩ : ∃ z : CS, z = upd X_2 2 (M 2) := ⟨_, rfl⟩
  have hw := hw X_3 eX_3
  refine p_X2_19 (E1 := va_up E0 a X_3) hx hb hown hts hK hA hW hS hla (vuS _ _ _) dX2_copyFrom_21 (vuE eX_3) (fun H locs hW hS => ?_)
  refine lv_aload_n hx hb dX2_copyFrom_24 rfl (lv_at hl 0 rfl) ?_
  refine lv_aload_n hx hb dX2_copyFrom_25 rfl (lv_at hl 1 rfl) ?_
  refine g_X2_22 hx hb hown hts hK hW hlb ((vuN (Ne.symm hne)).trans hM) dX2_copyFrom_26 ?_
  obtain ⟨X_4, eX_4⟩ : ∃ z : CS, z = upd X_3 3 (M 3) := ⟨_, rfl⟩
  have hw := hw X_4 eX_4
  refine p_X2_22 (E1 := va_up E0 a X_4) hx hb hown hts hK hA hW hS hla (vuS _ _ _) dX2_copyFrom_29 (vuE eX_4) (fun H locs hW hS => ?_)
  refine lv_aload_n hx hb dX2_copyFrom_32 rfl (lv_at hl 0 rfl) ?_
  refine lv_aload_n hx hb dX2_copyFrom_33 rfl (lv_at hl 1 rfl) ?_
  refine g_X2_25 hx hb hown hts hK hW hlb ((vuN (Ne.symm hne)).trans hM) dX2_copyFrom_34 ?_
  obtain ⟨X_5, eX_5⟩ : ∃ z : CS, z = upd X_4 4 (M 4) := ⟨_, rfl⟩
  have hw := hw X_5 eX_5
  refine p_X2_25 (E1 := va_up E0 a X_5) hx hb hown hts hK hA hW hS hla (vuS _ _ _) dX2_copyFrom_37 (vuE eX_5) (fun H locs hW hS => ?_)
  refine lv_aload_n hx hb dX2_copyFrom_40 rfl (lv_at hl 0 rfl) ?_
  refine lv_aload_n hx hb dX2_copyFrom_41 rfl (lv_at hl 1 rfl) ?_
  refine g_X2_28 hx hb hown hts hK hW hlb ((vuN (Ne.symm hne)).trans hM) dX2_copyFrom_42 ?_
  obtain ⟨X_6, eX_6⟩ : ∃ z : CS, z = upd X_5 5 (M 5) := ⟨_, rfl⟩
  have hw := hw X_6 eX_6
  refine p_X2_28 (E1 := va_up E0 a X_6) hx hb hown hts hK hA hW hS hla (vuS _ _ _) dX2_copyFrom_45 (vuE eX_6) (fun H locs hW hS => ?_)
  refine lv_aload_n hx hb dX2_copyFrom_48 rfl (lv_at hl 0 rfl) ?_
  refine lv_aload_n hx hb dX2_copyFrom_49 rfl (lv_at hl 1 rfl) ?_
  refine g_X2_31 hx hb hown hts hK hW hlb ((vuN (Ne.symm hne)).trans hM) dX2_copyFrom_50 ?_
  obtain ⟨X_7, eX_7⟩ : ∃ z : CS, z = upd X_6 6 (M 6) := ⟨_, rfl⟩
  have hw := hw X_7 eX_7
  refine p_X2_31 (E1 := va_up E0 a X_7) hx hb hown hts hK hA hW hS hla (vuS _ _ _) dX2_copyFrom_53 (vuE eX_7) (fun H locs hW hS => ?_)
  refine lv_aload_n hx hb dX2_copyFrom_56 rfl (lv_at hl 0 rfl) ?_
  refine lv_aload_n hx hb dX2_copyFrom_57 rfl (lv_at hl 1 rfl) ?_
  refine g_X2_34 hx hb hown hts hK hW hlb ((vuN (Ne.symm hne)).trans hM) dX2_copyFrom_58 ?_
  obtain ⟨X_8, eX_8⟩ : ∃ z : CS, z = upd X_7 7 (M 7) := ⟨_, rfl⟩
  have hw := hw X_8 eX_8
  refine p_X2_34 (E1 := va_up E0 a X_8) hx hb hown hts hK hA hW hS hla (vuS _ _ _) dX2_copyFrom_61 (vuE eX_8) (fun H locs hW hS => ?_)
  refine lv_aload_n hx hb dX2_copyFrom_64 rfl (lv_at hl 0 rfl) ?_
  refine lv_aload_n hx hb dX2_copyFrom_65 rfl (lv_at hl 1 rfl) ?_
  refine g_X2_37 hx hb hown hts hK hW hlb ((vuN (Ne.symm hne)).trans hM) dX2_copyFrom_66 ?_
  obtain ⟨X_9, eX_9⟩ : ∃ z : CS, z = upd X_8 8 (M 8) := ⟨_, rfl⟩
  have hw := hw X_9 eX_9
  refine p_X2_37 (E1 := va_up E0 a X_9) hx hb hown hts hK hA hW hS hla (vuS _ _ _) dX2_copyFrom_69 (vuE eX_9) (fun H locs hW hS => ?_)
  exact w_vret hx hb hr hlocks hW hS ⟨X_9, rfl, hw⟩ dX2_copyFrom_72
set_option maxHeartbeats 4000000 in
set_option maxRecDepth 100000 in
theorem c_X1_copyFrom {l : Launch} {g : GG} {lay : LY} {E0 : ES} {a b : Nat} {L M : CS} {K : CS → Prop} (hA : okL g lay) (hla : lay a = some finE) (hlb : lay b = some finE) (hL : E0 a = L) (hM : E0 b = M) (hne : a ≠ b) (hw : wp_X1_copyFrom L M K) : JMv l g lay yX1_copyFrom wsX1_copyFrom rmX1_copyFrom [.ref a, .ref b] E0 (fun E1 => ∃ L1 : CS, E1 = va_up E0 a L1 ∧ K L1) := by
  refine Met.ofW (cc := cX1_copyFrom) (maxL := 2) (ret := none) (by decide) rfl ?_
  intro p e s m args below meth c s₁ B hml hv
  obtain ⟨rfl, hK, hW⟩ := hv
  have hx := B.exec
  have hb := B.bytes
  have hr := B.returns
  have hts := gd_of (atoms_spec (ws := wsX1_copyFrom) B.pre)
  have hown : s.vm.findClass RX1 = some m.cls := findClass_of_methodNamed B.named
  have hlocks := B.notSynchronized
  have hS : va_S (Ab g) s.heap s.heap [] := va_S.rf
  have hW : Wd g lay (va_up E0 a L) s.heap := by rw [← hL, vuSelf]; exact hW
  have hl := lv_entry [.ref a, .ref b] (n := 2) (Nat.le_of_ble_eq_true rfl)
  rw [lg_entry_eq]
  generalize (lg_sl [.ref a, .ref b] ++ List.replicate (2 - (lg_sl [.ref a, .ref b]).length) Slot.unset).toArray = ls at hl ⊢
  have hl : lv_has ls 2 [(0, .ref a), (1, .ref b)] := hl
  unfold wp_X1_copyFrom at hw
  refine lv_aload_n hx hb dX1_copyFrom_0 rfl (lv_at hl 0 rfl) ?_
  refine lv_aload_n hx hb dX1_copyFrom_1 rfl (lv_at hl 1 rfl) ?_
  refine g_X1_9 hx hb hown hts hK hW hlb ((vuN (Ne.symm hne)).trans hM) dX1_copyFrom_2 ?_
  obtain ⟨X_1, eX_1⟩ : ∃ z : CS, z = upd L 0 (M 0) := ⟨_, rfl⟩
  have hw := hw X_1 eX_1
  refine p_X1_9 (E1 := va_up E0 a X_1) hx hb hown hts hK hA hW hS hla (vuS _ _ _) dX1_copyFrom_5 (vuE eX_1) (fun H locs hW hS => ?_)
  refine lv_aload_n hx hb dX1_copyFrom_8 rfl (lv_at hl 0 rfl) ?_
  refine lv_aload_n hx hb dX1_copyFrom_9 rfl (lv_at hl 1 rfl) ?_
  refine g_X1_15 hx hb hown hts hK hW hlb ((vuN (Ne.symm hne)).trans hM) dX1_copyFrom_10 ?_
  obtain ⟨X_2, eX_2⟩ : ∃ z : CS, z = upd X_1 1 (M 1) := ⟨_, rfl⟩
  have hw := hw X_2 eX_2
  refine p_X1_15 (E1 := va_up E0 a X_2) hx hb hown hts hK hA hW hS hla (vuS _ _ _) dX1_copyFrom_13 (vuE eX_2) (fun H locs hW hS => ?_)
  refine lv_aload_n hx hb dX1_copyFrom_16 rfl (lv_at hl 0 rfl) ?_
  refine lv_aload_n hx hb dX1_copyFrom_17 rfl (lv_at hl 1 rfl) ?_
  refine g_X1_18 hx hb hown hts hK hW hlb ((vuN (Ne.symm hne)).trans hM) dX1_copyFrom_18 ?_
  obtain ⟨X_3, eX_3⟩ : ∃ z : CS, z = upd X_2 2 (M 2) := ⟨_, rfl⟩
  have hw := hw X_3 eX_3
  refine p_X1_18 (E1 := va_up E0 a X_3) hx hb hown hts hK hA hW hS hla (vuS _ _ _) dX1_copyFrom_21 (vuE eX_3) (fun H locs hW hS => ?_)
  refine lv_aload_n hx hb dX1_copyFrom_24 rfl (lv_at hl 0 rfl) ?_
  refine lv_aload_n hx hb dX1_copyFrom_25 rfl (lv_at hl 1 rfl) ?_
  refine g_X1_21 hx hb hown hts hK hW hlb ((vuN (Ne.symm hne)).trans hM) dX1_copyFrom_26 ?_
  obtain ⟨X_4, eX_4⟩ : ∃ z : CS, z = upd X_3 3 (M 3) := ⟨_, rfl⟩
  have hw := hw X_4 eX_4
  refine p_X1_21 (E1 := va_up E0 a X_4) hx hb hown hts hK hA hW hS hla (vuS _ _ _) dX1_copyFrom_29 (vuE eX_4) (fun H locs hW hS => ?_)
  refine lv_aload_n hx hb dX1_copyFrom_32 rfl (lv_at hl 0 rfl) ?_
  refine lv_aload_n hx hb dX1_copyFrom_33 rfl (lv_at hl 1 rfl) ?_
  refine g_X1_24 hx hb hown hts hK hW hlb ((vuN (Ne.symm hne)).trans hM) dX1_copyFrom_34 ?_
  obtain ⟨X_5, eX_5⟩ : ∃ z : CS, z = upd X_4 4 (M 4) := ⟨_, rfl⟩
  have hw := hw X_5 eX_5
  refine p_X1_24 (E1 := va_up E0 a X_5) hx hb hown hts hK hA hW hS hla (vuS _ _ _) dX1_copyFrom_37 (vuE eX_5) (fun H locs hW hS => ?_)
  refine lv_aload_n hx hb dX1_copyFrom_40 rfl (lv_at hl 0 rfl) ?_
  refine lv_aload_n hx hb dX1_copyFrom_41 rfl (lv_at hl 1 rfl) ?_
  refine g_X1_27 hx hb hown hts hK hW hlb ((vuN (Ne.symm hne)).trans hM) dX1_copyFrom_42 ?_
  obtain ⟨X_6, eX_6⟩ : ∃ z : CS, z = upd X_5 5 (M 5) := ⟨_, rfl⟩
  have hw := hw X_6 eX_6
  refine p_X1_27 (E1 := va_up E0 a X_6) hx hb hown hts hK hA hW hS hla (vuS _ _ _) dX1_copyFrom_45 (vuE eX_6) (fun H locs hW hS => ?_)
  refine lv_aload_n hx hb dX1_copyFrom_48 rfl (lv_at hl 0 rfl) ?_
  refine lv_aload_n hx hb dX1_copyFrom_49 rfl (lv_at hl 1 rfl) ?_
  refine g_X1_30 hx hb hown hts hK hW hlb ((vuN (Ne.symm hne)).trans hM) dX1_copyFrom_50 ?_
  obtain ⟨X_7, eX_7⟩ : ∃ z : CS, z = upd X_6 6 (M 6) := ⟨_, rfl⟩
  have hw := hw X_7 eX_7
  refine p_X1_30 (E1 := va_up E0 a X_7) hx hb hown hts hK hA hW hS hla (vuS _ _ _) dX1_copyFrom_53 (vuE eX_7) (fun H locs hW hS => ?_)
  refine lv_aload_n hx hb dX1_copyFrom_56 rfl (lv_at hl 0 rfl) ?_
  refine lv_aload_n hx hb dX1_copyFrom_57 rfl (lv_at hl 1 rfl) ?_
  refine g_X1_33 hx hb hown hts hK hW hlb ((vuN (Ne.symm hne)).trans hM) dX1_copyFrom_58 ?_
  obtain ⟨X_8, eX_8⟩ : ∃ z : CS, z = upd X_7 7 (M 7) := ⟨_, rfl⟩
  have hw := hw X_8 eX_8
  refine p_X1_33 (E1 := va_up E0 a X_8) hx hb hown hts hK hA hW hS hla (vuS _ _ _) dX1_copyFrom_61 (vuE eX_8) (fun H locs hW hS => ?_)
  refine lv_aload_n hx hb dX1_copyFrom_64 rfl (lv_at hl 0 rfl) ?_
  refine lv_aload_n hx hb dX1_copyFrom_65 rfl (lv_at hl 1 rfl) ?_
  refine g_X1_36 hx hb hown hts hK hW hlb ((vuN (Ne.symm hne)).trans hM) dX1_copyFrom_66 ?_
  obtain ⟨X_9, eX_9⟩ : ∃ z : CS, z = upd X_8 8 (M 8) := ⟨_, rfl⟩
  have hw := hw X_9 eX_9
  refine p_X1_36 (E1 := va_up E0 a X_9) hx hb hown hts hK hA hW hS hla (vuS _ _ _) dX1_copyFrom_69 (vuE eX_9) (fun H locs hW hS => ?_)
  refine lv_aload_n hx hb dX1_copyFrom_72 rfl (lv_at hl 0 rfl) ?_
  refine lv_aload_n hx hb dX1_copyFrom_73 rfl (lv_at hl 1 rfl) ?_
  refine g_X1_39 hx hb hown hts hK hW hlb ((vuN (Ne.symm hne)).trans hM) dX1_copyFrom_74 ?_
  obtain ⟨X_10, eX_10⟩ : ∃ z : CS, z = upd X_9 9 (M 9) := ⟨_, rfl⟩
  have hw := hw X_10 eX_10
  refine p_X1_39 (E1 := va_up E0 a X_10) hx hb hown hts hK hA hW hS hla (vuS _ _ _) dX1_copyFrom_77 (vuE eX_10) (fun H locs hW hS => ?_)
  exact w_vret hx hb hr hlocks hW hS ⟨X_10, rfl, hw⟩ dX1_copyFrom_80
set_option maxHeartbeats 4000000 in
set_option maxRecDepth 100000 in
theorem c_X2_isCalledByAnother {l : Launch} {g : GG} {lay : LY} {E0 : ES} {a : Nat} {L : CS} {K : Int32 → Prop} (hA : okL g lay) (hla : lay a = some lineE) (hL : E0 a = L) (hw : wp_X2_isCalledByAnother L K) : JMi l g lay yX2_isCalledByAnother wsX2_isCalledByAnother rmX2_isCalledByAnother [.ref a] E0 (fun r E1 => E1 = E0 ∧ (r = 0 ∨ r = 1) ∧ K r) := by
  refine Met.ofW (cc := cX2_isCalledByAnother) (maxL := 1) (ret := (some .boolean)) (by decide) rfl ?_
  intro p e s m args below meth c s₁ B hml hv
  obtain ⟨rfl, hK, hW⟩ := hv
  have hx := B.exec
  have hb := B.bytes
  have hr := B.returns
  have hts := gd_of (atoms_spec (ws := wsX2_isCalledByAnother) B.pre)
  have hown : s.vm.findClass RX2 = some m.cls := findClass_of_methodNamed B.named
  have hlocks := B.notSynchronized
  have hS : va_S (Ab g) s.heap s.heap [] := va_S.rf
  have hl := lv_entry [.ref a] (n := 1) (Nat.le_of_ble_eq_true rfl)
  rw [lg_entry_eq]
  generalize (lg_sl [.ref a] ++ List.replicate (1 - (lg_sl [.ref a]).length) Slot.unset).toArray = ls at hl ⊢
  have hl : lv_has ls 1 [(0, .ref a)] := hl
  unfold wp_X2_isCalledByAnother at hw
  refine lv_aload_n hx hb dX2_isCalledByAnother_0 rfl (lv_at hl 0 rfl) ?_
  refine g_X2_9 hx hb hown hts hK hW hla hL dX2_isCalledByAnother_1 ?_
  refine lv_iconst (v := 5) hx hb dX2_isCalledByAnother_4 (by decide) ?_
  refine lv_icmp_eq (tgt := 17) hx hb dX2_isCalledByAnother_5 (by decide) (fun c_1 => ?_) (fun c_1 => ?_)
  · have hw := hw.1 c_1
    refine lv_iconst (v := 1) hx hb dX2_isCalledByAnother_17 (by decide) ?_
    refine lv_goto (tgt := 22) hx hb dX2_isCalledByAnother_18 (by decide) ?_
    exact w_zret hx hb hr hlocks hW hS (Or.inr rfl) ⟨rfl, (Or.inr rfl), hw⟩ dX2_isCalledByAnother_22
  · have hw := hw.2 c_1
    refine lv_aload_n hx hb dX2_isCalledByAnother_8 rfl (lv_at hl 0 rfl) ?_
    refine g_X2_9 hx hb hown hts hK hW hla hL dX2_isCalledByAnother_9 ?_
    refine lv_bipush (v := 7) hx hb dX2_isCalledByAnother_12 (by decide) ?_
    refine lv_icmp_ne (tgt := 21) hx hb dX2_isCalledByAnother_14 (by decide) (fun c_2 => ?_) (fun c_2 => ?_)
    · have hw := hw.2 c_2
      refine lv_iconst (v := 0) hx hb dX2_isCalledByAnother_21 (by decide) ?_
      exact w_zret hx hb hr hlocks hW hS (Or.inl rfl) ⟨rfl, (Or.inl rfl), hw⟩ dX2_isCalledByAnother_22
    · have hw := hw.1 c_2
      refine lv_iconst (v := 1) hx hb dX2_isCalledByAnother_17 (by decide) ?_
      refine lv_goto (tgt := 22) hx hb dX2_isCalledByAnother_18 (by decide) ?_
      exact w_zret hx hb hr hlocks hW hS (Or.inr rfl) ⟨rfl, (Or.inr rfl), hw⟩ dX2_isCalledByAnother_22
set_option maxHeartbeats 4000000 in
set_option maxRecDepth 100000 in
theorem c_X2_appendDigit {l : Launch} {g : GG} {lay : LY} {E0 : ES} {a : Nat} {L : CS} {p1 : Int32} {K : CS → Prop} (hA : okL g lay) (hla : lay a = some lineE) (hL : E0 a = L) (hw : wp_X2_appendDigit L p1 K) : JMv l g lay yX2_appendDigit wsX2_appendDigit rmX2_appendDigit [.ref a, .int p1] E0 (fun E1 => ∃ L1 : CS, E1 = va_up E0 a L1 ∧ K L1) := by
  refine Met.ofW (cc := cX2_appendDigit) (maxL := 2) (ret := none) (by decide) rfl ?_
  intro p e s m args below meth c s₁ B hml hv
  obtain ⟨rfl, hK, hW⟩ := hv
  have hx := B.exec
  have hb := B.bytes
  have hr := B.returns
  have hts := gd_of (atoms_spec (ws := wsX2_appendDigit) B.pre)
  have hown : s.vm.findClass RX2 = some m.cls := findClass_of_methodNamed B.named
  have hlocks := B.notSynchronized
  have hS : va_S (Ab g) s.heap s.heap [] := va_S.rf
  have hW : Wd g lay (va_up E0 a L) s.heap := by rw [← hL, vuSelf]; exact hW
  have hl := lv_entry [.ref a, .int p1] (n := 2) (Nat.le_of_ble_eq_true rfl)
  rw [lg_entry_eq]
  generalize (lg_sl [.ref a, .int p1] ++ List.replicate (2 - (lg_sl [.ref a, .int p1]).length) Slot.unset).toArray = ls at hl ⊢
  have hl : lv_has ls 2 [(0, .ref a), (1, .int p1)] := hl
  unfold wp_X2_appendDigit at hw
  refine lv_aload_n hx hb dX2_appendDigit_0 rfl (lv_at hl 0 rfl) ?_
  refine lv_dup hx hb dX2_appendDigit_1 rfl ?_
  refine g_X2_25 hx hb hown hts hK hW hla (vuS _ _ _) dX2_appendDigit_2 ?_
  refine lv_iload_n hx hb dX2_appendDigit_5 rfl (lv_at hl 1 rfl) ?_
  refine lv_iconst (v := 4) hx hb dX2_appendDigit_6 (by decide) ?_
  refine lv_aload_n hx hb dX2_appendDigit_7 rfl (lv_at hl 0 rfl) ?_
  refine g_X2_28 hx hb hown hts hK hW hla (vuS _ _ _) dX2_appendDigit_8 ?_
  refine lv_imul hx hb dX2_appendDigit_11 ?_
  refine lv_ishl hx hb dX2_appendDigit_12 ?_
  refine lv_ior hx hb dX2_appendDigit_13 ?_
  obtain ⟨X_1, eX_1⟩ : ∃ z : CS, z = upd L 4 ((L 4) ||| (p1 <<< (4 * (L 5) &&& 31))) := ⟨_, rfl⟩
  have hw := hw X_1 eX_1
  refine p_X2_25 (E1 := va_up E0 a X_1) hx hb hown hts hK hA hW hS hla (vuS _ _ _) dX2_appendDigit_14 (vuE eX_1) (fun H locs hW hS => ?_)
  refine lv_aload_n hx hb dX2_appendDigit_17 rfl (lv_at hl 0 rfl) ?_
  refine lv_dup hx hb dX2_appendDigit_18 rfl ?_
  refine g_X2_28 hx hb hown hts hK hW hla (vuS _ _ _) dX2_appendDigit_19 ?_
  refine lv_iconst (v := 1) hx hb dX2_appendDigit_22 (by decide) ?_
  refine lv_iadd hx hb dX2_appendDigit_23 ?_
  obtain ⟨X_2, eX_2⟩ : ∃ z : CS, z = upd X_1 5 ((X_1 5) + 1) := ⟨_, rfl⟩
  have hw := hw X_2 eX_2
  refine p_X2_28 (E1 := va_up E0 a X_2) hx hb hown hts hK hA hW hS hla (vuS _ _ _) dX2_appendDigit_24 (vuE eX_2) (fun H locs hW hS => ?_)
  exact w_vret hx hb hr hlocks hW hS ⟨X_2, rfl, hw⟩ dX2_appendDigit_27
set_option maxHeartbeats 4000000 in
set_option maxRecDepth 100000 in
theorem c_X2_takePulses {l : Launch} {g : GG} {lay : LY} {E0 : ES} {a : Nat} {L : CS} {K : Int32 → CS → Prop} (hA : okL g lay) (hla : lay a = some lineE) (hL : E0 a = L) (hw : wp_X2_takePulses L K) : JMi l g lay yX2_takePulses wsX2_takePulses rmX2_takePulses [.ref a] E0 (fun r E1 => ∃ L1 : CS, E1 = va_up E0 a L1 ∧ K r L1) := by
  refine Met.ofW (cc := cX2_takePulses) (maxL := 2) (ret := (some .int)) (by decide) rfl ?_
  intro p e s m args below meth c s₁ B hml hv
  obtain ⟨rfl, hK, hW⟩ := hv
  have hx := B.exec
  have hb := B.bytes
  have hr := B.returns
  have hts := gd_of (atoms_spec (ws := wsX2_takePulses) B.pre)
  have hown : s.vm.findClass RX2 = some m.cls := findClass_of_methodNamed B.named
  have hlocks := B.notSynchronized
  have hS : va_S (Ab g) s.heap s.heap [] := va_S.rf
  have hW : Wd g lay (va_up E0 a L) s.heap := by rw [← hL, vuSelf]; exact hW
  have hl := lv_entry [.ref a] (n := 2) (Nat.le_of_ble_eq_true rfl)
  rw [lg_entry_eq]
  generalize (lg_sl [.ref a] ++ List.replicate (2 - (lg_sl [.ref a]).length) Slot.unset).toArray = ls at hl ⊢
  have hl : lv_has ls 2 [(0, .ref a)] := hl
  unfold wp_X2_takePulses at hw
  refine lv_aload_n hx hb dX2_takePulses_0 rfl (lv_at hl 0 rfl) ?_
  refine g_X2_25 hx hb hown hts hK hW hla (vuS _ _ _) dX2_takePulses_1 ?_
  refine lv_bipush (v := 15) hx hb dX2_takePulses_4 (by decide) ?_
  refine lv_iand hx hb dX2_takePulses_6 ?_
  refine lv_topi (fun v_1 ev_1 => ?_)
  have hw := hw v_1 ev_1
  refine lv_istore_n (lv' := [(1, .int v_1), (0, .ref a)]) hx hb dX2_takePulses_7 rfl hl (by decide) rfl (fun ls hl => ?_)
  refine lv_aload_n hx hb dX2_takePulses_8 rfl (lv_at hl 1 rfl) ?_
  refine lv_dup hx hb dX2_takePulses_9 rfl ?_
  refine g_X2_25 hx hb hown hts hK hW hla (vuS _ _ _) dX2_takePulses_10 ?_
  refine lv_iconst (v := 4) hx hb dX2_takePulses_13 (by decide) ?_
  refine lv_iushr hx hb dX2_takePulses_14 rfl ?_
  obtain ⟨X_2, eX_2⟩ : ∃ z : CS, z = upd L 4 (((L 4).toUInt32 >>> ((4 : Int32).toUInt32 &&& Int32.toUInt32 31)).toInt32) := ⟨_, rfl⟩
  have hw := hw X_2 eX_2
  refine p_X2_25 (E1 := va_up E0 a X_2) hx hb hown hts hK hA hW hS hla (vuS _ _ _) dX2_takePulses_15 (vuE eX_2) (fun H locs hW hS => ?_)
  refine lv_aload_n hx hb dX2_takePulses_18 rfl (lv_at hl 1 rfl) ?_
  refine lv_dup hx hb dX2_takePulses_19 rfl ?_
  refine g_X2_28 hx hb hown hts hK hW hla (vuS _ _ _) dX2_takePulses_20 ?_
  refine lv_iconst (v := 1) hx hb dX2_takePulses_23 (by decide) ?_
  refine lv_isub hx hb dX2_takePulses_24 ?_
  obtain ⟨X_3, eX_3⟩ : ∃ z : CS, z = upd X_2 5 ((X_2 5) - 1) := ⟨_, rfl⟩
  have hw := hw X_3 eX_3
  refine p_X2_28 (E1 := va_up E0 a X_3) hx hb hown hts hK hA hW hS hla (vuS _ _ _) dX2_takePulses_25 (vuE eX_3) (fun H locs hW hS => ?_)
  refine lv_iload_n hx hb dX2_takePulses_28 rfl (lv_at hl 0 rfl) ?_
  refine lv_if_ne (tgt := 37) hx hb dX2_takePulses_29 (by decide) (fun c_4 => ?_) (fun c_4 => ?_)
  · have hw := hw.2 c_4
    refine lv_iload_n hx hb dX2_takePulses_37 rfl (lv_at hl 0 rfl) ?_
    exact w_iret hx hb hr hlocks hW hS ⟨X_3, rfl, hw⟩ dX2_takePulses_38
  · have hw := hw.1 c_4
    refine lv_bipush (v := 10) hx hb dX2_takePulses_32 (by decide) ?_
    refine lv_goto (tgt := 38) hx hb dX2_takePulses_34 (by decide) ?_
    exact w_iret hx hb hr hlocks hW hS ⟨X_3, rfl, hw⟩ dX2_takePulses_38
set_option maxHeartbeats 4000000 in
set_option maxRecDepth 100000 in
theorem c_X1_holdsConnector {l : Launch} {g : GG} {lay : LY} {E0 : ES} {a : Nat} {L : CS} {K : Int32 → Prop} (hA : okL g lay) (hla : lay a = some finE) (hL : E0 a = L) (hw : wp_X1_holdsConnector L K) : JMi l g lay yX1_holdsConnector wsX1_holdsConnector rmX1_holdsConnector [.ref a] E0 (fun r E1 => E1 = E0 ∧ (r = 0 ∨ r = 1) ∧ K r) := by
  refine Met.ofW (cc := cX1_holdsConnector) (maxL := 1) (ret := (some .boolean)) (by decide) rfl ?_
  intro p e s m args below meth c s₁ B hml hv
  obtain ⟨rfl, hK, hW⟩ := hv
  have hx := B.exec
  have hb := B.bytes
  have hr := B.returns
  have hts := gd_of (atoms_spec (ws := wsX1_holdsConnector) B.pre)
  have hown : s.vm.findClass RX1 = some m.cls := findClass_of_methodNamed B.named
  have hlocks := B.notSynchronized
  have hS : va_S (Ab g) s.heap s.heap [] := va_S.rf
  have hl := lv_entry [.ref a] (n := 1) (Nat.le_of_ble_eq_true rfl)
  rw [lg_entry_eq]
  generalize (lg_sl [.ref a] ++ List.replicate (1 - (lg_sl [.ref a]).length) Slot.unset).toArray = ls at hl ⊢
  have hl : lv_has ls 1 [(0, .ref a)] := hl
  unfold wp_X1_holdsConnector at hw
  refine lv_aload_n hx hb dX1_holdsConnector_0 rfl (lv_at hl 0 rfl) ?_
  refine g_X1_9 hx hb hown hts hK hW hla hL dX1_holdsConnector_1 ?_
  refine lv_iconst (v := 5) hx hb dX1_holdsConnector_4 (by decide) ?_
  refine lv_icmp_eq (tgt := 35) hx hb dX1_holdsConnector_5 (by decide) (fun c_1 => ?_) (fun c_1 => ?_)
  · have hw := hw.1 c_1
    refine lv_iconst (v := 1) hx hb dX1_holdsConnector_35 (by decide) ?_
    refine lv_goto (tgt := 40) hx hb dX1_holdsConnector_36 (by decide) ?_
    exact w_zret hx hb hr hlocks hW hS (Or.inr rfl) ⟨rfl, (Or.inr rfl), hw⟩ dX1_holdsConnector_40
  · have hw := hw.2 c_1
    refine lv_aload_n hx hb dX1_holdsConnector_8 rfl (lv_at hl 0 rfl) ?_
    refine g_X1_9 hx hb hown hts hK hW hla hL dX1_holdsConnector_9 ?_
    refine lv_bipush (v := 6) hx hb dX1_holdsConnector_12 (by decide) ?_
    refine lv_icmp_eq (tgt := 35) hx hb dX1_holdsConnector_14 (by decide) (fun c_2 => ?_) (fun c_2 => ?_)
    · have hw := hw.1 c_2
      refine lv_iconst (v := 1) hx hb dX1_holdsConnector_35 (by decide) ?_
      refine lv_goto (tgt := 40) hx hb dX1_holdsConnector_36 (by decide) ?_
      exact w_zret hx hb hr hlocks hW hS (Or.inr rfl) ⟨rfl, (Or.inr rfl), hw⟩ dX1_holdsConnector_40
    · have hw := hw.2 c_2
      refine lv_aload_n hx hb dX1_holdsConnector_17 rfl (lv_at hl 0 rfl) ?_
      refine g_X1_9 hx hb hown hts hK hW hla hL dX1_holdsConnector_18 ?_
      refine lv_bipush (v := 7) hx hb dX1_holdsConnector_21 (by decide) ?_
      refine lv_icmp_eq (tgt := 35) hx hb dX1_holdsConnector_23 (by decide) (fun c_3 => ?_) (fun c_3 => ?_)
      · have hw := hw.1 c_3
        refine lv_iconst (v := 1) hx hb dX1_holdsConnector_35 (by decide) ?_
        refine lv_goto (tgt := 40) hx hb dX1_holdsConnector_36 (by decide) ?_
        exact w_zret hx hb hr hlocks hW hS (Or.inr rfl) ⟨rfl, (Or.inr rfl), hw⟩ dX1_holdsConnector_40
      · have hw := hw.2 c_3
        refine lv_aload_n hx hb dX1_holdsConnector_26 rfl (lv_at hl 0 rfl) ?_
        refine g_X1_9 hx hb hown hts hK hW hla hL dX1_holdsConnector_27 ?_
        refine lv_bipush (v := 8) hx hb dX1_holdsConnector_30 (by decide) ?_
        refine lv_icmp_ne (tgt := 39) hx hb dX1_holdsConnector_32 (by decide) (fun c_4 => ?_) (fun c_4 => ?_)
        · have hw := hw.2 c_4
          refine lv_iconst (v := 0) hx hb dX1_holdsConnector_39 (by decide) ?_
          exact w_zret hx hb hr hlocks hW hS (Or.inl rfl) ⟨rfl, (Or.inl rfl), hw⟩ dX1_holdsConnector_40
        · have hw := hw.1 c_4
          refine lv_iconst (v := 1) hx hb dX1_holdsConnector_35 (by decide) ?_
          refine lv_goto (tgt := 40) hx hb dX1_holdsConnector_36 (by decide) ?_
          exact w_zret hx hb hr hlocks hW hS (Or.inr rfl) ⟨rfl, (Or.inr rfl), hw⟩ dX1_holdsConnector_40
set_option maxHeartbeats 4000000 in
set_option maxRecDepth 100000 in
theorem c_X2_waitsUnsought {l : Launch} {g : GG} {lay : LY} {E0 : ES} {a : Nat} {L : CS} {K : Int32 → Prop} (hA : okL g lay) (hla : lay a = some lineE) (hL : E0 a = L) (hw : wp_X2_waitsUnsought L K) : JMi l g lay yX2_waitsUnsought wsX2_waitsUnsought rmX2_waitsUnsought [.ref a] E0 (fun r E1 => E1 = E0 ∧ (r = 0 ∨ r = 1) ∧ K r) := by
  refine Met.ofW (cc := cX2_waitsUnsought) (maxL := 1) (ret := (some .boolean)) (by decide) rfl ?_
  intro p e s m args below meth c s₁ B hml hv
  obtain ⟨rfl, hK, hW⟩ := hv
  have hx := B.exec
  have hb := B.bytes
  have hr := B.returns
  have hts := gd_of (atoms_spec (ws := wsX2_waitsUnsought) B.pre)
  have hown : s.vm.findClass RX2 = some m.cls := findClass_of_methodNamed B.named
  have hlocks := B.notSynchronized
  have hS : va_S (Ab g) s.heap s.heap [] := va_S.rf
  have hl := lv_entry [.ref a] (n := 1) (Nat.le_of_ble_eq_true rfl)
  rw [lg_entry_eq]
  generalize (lg_sl [.ref a] ++ List.replicate (1 - (lg_sl [.ref a]).length) Slot.unset).toArray = ls at hl ⊢
  have hl : lv_has ls 1 [(0, .ref a)] := hl
  unfold wp_X2_waitsUnsought at hw
  refine lv_aload_n hx hb dX2_waitsUnsought_0 rfl (lv_at hl 0 rfl) ?_
  refine g_X2_9 hx hb hown hts hK hW hla hL dX2_waitsUnsought_1 ?_
  refine lv_iconst (v := 1) hx hb dX2_waitsUnsought_4 (by decide) ?_
  refine lv_icmp_ne (tgt := 21) hx hb dX2_waitsUnsought_5 (by decide) (fun c_1 => ?_) (fun c_1 => ?_)
  · have hw := hw.2 c_1
    refine lv_iconst (v := 0) hx hb dX2_waitsUnsought_21 (by decide) ?_
    exact w_zret hx hb hr hlocks hW hS (Or.inl rfl) ⟨rfl, (Or.inl rfl), hw⟩ dX2_waitsUnsought_22
  · have hw := hw.1 c_1
    refine lv_aload_n hx hb dX2_waitsUnsought_8 rfl (lv_at hl 0 rfl) ?_
    refine g_X2_31 hx hb hown hts hK hW hla hL dX2_waitsUnsought_9 ?_
    refine lv_bipush (v := (-6)) hx hb dX2_waitsUnsought_12 (by decide) ?_
    refine lv_icmp_ne (tgt := 21) hx hb dX2_waitsUnsought_14 (by decide) (fun c_2 => ?_) (fun c_2 => ?_)
    · have hw := hw.2 c_2
      refine lv_iconst (v := 0) hx hb dX2_waitsUnsought_21 (by decide) ?_
      exact w_zret hx hb hr hlocks hW hS (Or.inl rfl) ⟨rfl, (Or.inl rfl), hw⟩ dX2_waitsUnsought_22
    · have hw := hw.1 c_2
      refine lv_iconst (v := 1) hx hb dX2_waitsUnsought_17 (by decide) ?_
      refine lv_goto (tgt := 22) hx hb dX2_waitsUnsought_18 (by decide) ?_
      exact w_zret hx hb hr hlocks hW hS (Or.inr rfl) ⟨rfl, (Or.inr rfl), hw⟩ dX2_waitsUnsought_22
set_option maxHeartbeats 4000000 in
set_option maxRecDepth 100000 in
theorem c_X2_waitParked {l : Launch} {g : GG} {lay : LY} {E0 : ES} {a : Nat} {L : CS} {p1 : Int32} {K : CS → Prop} (hA : okL g lay) (hla : lay a = some lineE) (hL : E0 a = L) (hw : wp_X2_waitParked L p1 K) : JMv l g lay yX2_waitParked wsX2_waitParked rmX2_waitParked [.ref a, .int p1] E0 (fun E1 => ∃ L1 : CS, E1 = va_up E0 a L1 ∧ K L1) := by
  refine Met.ofW (cc := cX2_waitParked) (maxL := 2) (ret := none) (by decide) rfl ?_
  intro p e s m args below meth c s₁ B hml hv
  obtain ⟨rfl, hK, hW⟩ := hv
  have hx := B.exec
  have hb := B.bytes
  have hr := B.returns
  have hts := gd_of (atoms_spec (ws := wsX2_waitParked) B.pre)
  have hown : s.vm.findClass RX2 = some m.cls := findClass_of_methodNamed B.named
  have hlocks := B.notSynchronized
  have hS : va_S (Ab g) s.heap s.heap [] := va_S.rf
  have hW : Wd g lay (va_up E0 a L) s.heap := by rw [← hL, vuSelf]; exact hW
  have hl := lv_entry [.ref a, .int p1] (n := 2) (Nat.le_of_ble_eq_true rfl)
  rw [lg_entry_eq]
  generalize (lg_sl [.ref a, .int p1] ++ List.replicate (2 - (lg_sl [.ref a, .int p1]).length) Slot.unset).toArray = ls at hl ⊢
  have hl : lv_has ls 2 [(0, .ref a), (1, .int p1)] := hl
  unfold wp_X2_waitParked at hw
  refine lv_aload_n hx hb dX2_waitParked_0 rfl (lv_at hl 0 rfl) ?_
  refine g_X2_9 hx hb hown hts hK hW hla (vuS _ _ _) dX2_waitParked_1 ?_
  refine lv_bipush (v := 10) hx hb dX2_waitParked_4 (by decide) ?_
  refine lv_icmp_eq (tgt := 10) hx hb dX2_waitParked_6 (by decide) (fun c_1 => ?_) (fun c_1 => ?_)
  · have hw := hw.1 c_1
    refine lv_aload_n hx hb dX2_waitParked_10 rfl (lv_at hl 0 rfl) ?_
    refine lv_dup hx hb dX2_waitParked_11 rfl ?_
    refine g_X2_37 hx hb hown hts hK hW hla (vuS _ _ _) dX2_waitParked_12 ?_
    refine lv_iconst (v := 1) hx hb dX2_waitParked_15 (by decide) ?_
    refine lv_iadd hx hb dX2_waitParked_16 ?_
    obtain ⟨X_2, eX_2⟩ : ∃ z : CS, z = upd L 8 ((L 8) + 1) := ⟨_, rfl⟩
    have hw := hw X_2 eX_2
    refine p_X2_37 (E1 := va_up E0 a X_2) hx hb hown hts hK hA hW hS hla (vuS _ _ _) dX2_waitParked_17 (vuE eX_2) (fun H locs hW hS => ?_)
    refine lv_aload_n hx hb dX2_waitParked_20 rfl (lv_at hl 0 rfl) ?_
    refine g_X2_37 hx hb hown hts hK hW hla (vuS _ _ _) dX2_waitParked_21 ?_
    refine lv_iload_n hx hb dX2_waitParked_24 rfl (lv_at hl 1 rfl) ?_
    refine lv_icmp_lt (tgt := 39) hx hb dX2_waitParked_25 (by decide) (fun c_3 => ?_) (fun c_3 => ?_)
    · have hw := hw.1 c_3
      exact w_vret hx hb hr hlocks hW hS ⟨X_2, rfl, hw⟩ dX2_waitParked_39
    · have hw := hw.2 c_3
      refine lv_aload_n hx hb dX2_waitParked_28 rfl (lv_at hl 0 rfl) ?_
      refine lv_bipush (v := 11) hx hb dX2_waitParked_29 (by decide) ?_
      obtain ⟨X_4, eX_4⟩ : ∃ z : CS, z = upd X_2 0 11 := ⟨_, rfl⟩
      have hw := hw X_4 eX_4
      refine p_X2_9 (E1 := va_up E0 a X_4) hx hb hown hts hK hA hW hS hla (vuS _ _ _) dX2_waitParked_31 (vuE eX_4) (fun H locs hW hS => ?_)
      refine lv_aload_n hx hb dX2_waitParked_34 rfl (lv_at hl 0 rfl) ?_
      refine lv_iconst (v := 0) hx hb dX2_waitParked_35 (by decide) ?_
      obtain ⟨X_5, eX_5⟩ : ∃ z : CS, z = upd X_4 8 0 := ⟨_, rfl⟩
      have hw := hw X_5 eX_5
      refine p_X2_37 (E1 := va_up E0 a X_5) hx hb hown hts hK hA hW hS hla (vuS _ _ _) dX2_waitParked_36 (vuE eX_5) (fun H locs hW hS => ?_)
      exact w_vret hx hb hr hlocks hW hS ⟨X_5, rfl, hw⟩ dX2_waitParked_39
  · have hw := hw.2 c_1
    exact w_vret hx hb hr hlocks hW hS ⟨L, rfl, hw⟩ dX2_waitParked_9
set_option maxHeartbeats 4000000 in
set_option maxRecDepth 100000 in
theorem c_X2_callsAnother {l : Launch} {g : GG} {lay : LY} {E0 : ES} {a : Nat} {L : CS} {K : Int32 → Prop} (hA : okL g lay) (hla : lay a = some lineE) (hL : E0 a = L) (hw : wp_X2_callsAnother L K) : JMi l g lay yX2_callsAnother wsX2_callsAnother rmX2_callsAnother [.ref a] E0 (fun r E1 => E1 = E0 ∧ (r = 0 ∨ r = 1) ∧ K r) := by
  refine Met.ofW (cc := cX2_callsAnother) (maxL := 1) (ret := (some .boolean)) (by decide) rfl ?_
  intro p e s m args below meth c s₁ B hml hv
  obtain ⟨rfl, hK, hW⟩ := hv
  have hx := B.exec
  have hb := B.bytes
  have hr := B.returns
  have hts := gd_of (atoms_spec (ws := wsX2_callsAnother) B.pre)
  have hown : s.vm.findClass RX2 = some m.cls := findClass_of_methodNamed B.named
  have hlocks := B.notSynchronized
  have hS : va_S (Ab g) s.heap s.heap [] := va_S.rf
  have hl := lv_entry [.ref a] (n := 1) (Nat.le_of_ble_eq_true rfl)
  rw [lg_entry_eq]
  generalize (lg_sl [.ref a] ++ List.replicate (1 - (lg_sl [.ref a]).length) Slot.unset).toArray = ls at hl ⊢
  have hl : lv_has ls 1 [(0, .ref a)] := hl
  unfold wp_X2_callsAnother at hw
  refine lv_aload_n hx hb dX2_callsAnother_0 rfl (lv_at hl 0 rfl) ?_
  refine g_X2_9 hx hb hown hts hK hW hla hL dX2_callsAnother_1 ?_
  refine lv_iconst (v := 4) hx hb dX2_callsAnother_4 (by decide) ?_
  refine lv_icmp_eq (tgt := 17) hx hb dX2_callsAnother_5 (by decide) (fun c_1 => ?_) (fun c_1 => ?_)
  · have hw := hw.1 c_1
    refine lv_iconst (v := 1) hx hb dX2_callsAnother_17 (by decide) ?_
    refine lv_goto (tgt := 22) hx hb dX2_callsAnother_18 (by decide) ?_
    exact w_zret hx hb hr hlocks hW hS (Or.inr rfl) ⟨rfl, (Or.inr rfl), hw⟩ dX2_callsAnother_22
  · have hw := hw.2 c_1
    refine lv_aload_n hx hb dX2_callsAnother_8 rfl (lv_at hl 0 rfl) ?_
    refine g_X2_9 hx hb hown hts hK hW hla hL dX2_callsAnother_9 ?_
    refine lv_bipush (v := 6) hx hb dX2_callsAnother_12 (by decide) ?_
    refine lv_icmp_ne (tgt := 21) hx hb dX2_callsAnother_14 (by decide) (fun c_2 => ?_) (fun c_2 => ?_)
    · have hw := hw.2 c_2
      refine lv_iconst (v := 0) hx hb dX2_callsAnother_21 (by decide) ?_
      exact w_zret hx hb hr hlocks hW hS (Or.inl rfl) ⟨rfl, (Or.inl rfl), hw⟩ dX2_callsAnother_22
    · have hw := hw.1 c_2
      refine lv_iconst (v := 1) hx hb dX2_callsAnother_17 (by decide) ?_
      refine lv_goto (tgt := 22) hx hb dX2_callsAnother_18 (by decide) ?_
      exact w_zret hx hb hr hlocks hW hS (Or.inr rfl) ⟨rfl, (Or.inr rfl), hw⟩ dX2_callsAnother_22
set_option maxHeartbeats 4000000 in
set_option maxRecDepth 100000 in
theorem c_X1_numberFor {l : Launch} {g : GG} {lay : LY} {E0 : ES} {a : Nat} {L : CS} {p1 : Int32} {K : Int32 → Prop} (hA : okL g lay) (hla : lay a = some finE) (hL : E0 a = L) (hw : wp_X1_numberFor L p1 K) : JMi l g lay yX1_numberFor wsX1_numberFor rmX1_numberFor [.ref a, .int p1] E0 (fun r E1 => E1 = E0 ∧ K r) := by
  refine Met.ofW (cc := cX1_numberFor) (maxL := 2) (ret := (some .int)) (by decide) rfl ?_
  intro p e s m args below meth c s₁ B hml hv
  obtain ⟨rfl, hK, hW⟩ := hv
  have hx := B.exec
  have hb := B.bytes
  have hr := B.returns
  have hts := gd_of (atoms_spec (ws := wsX1_numberFor) B.pre)
  have hown : s.vm.findClass RX1 = some m.cls := findClass_of_methodNamed B.named
  have hlocks := B.notSynchronized
  have hS : va_S (Ab g) s.heap s.heap [] := va_S.rf
  have hl := lv_entry [.ref a, .int p1] (n := 2) (Nat.le_of_ble_eq_true rfl)
  rw [lg_entry_eq]
  generalize (lg_sl [.ref a, .int p1] ++ List.replicate (2 - (lg_sl [.ref a, .int p1]).length) Slot.unset).toArray = ls at hl ⊢
  have hl : lv_has ls 2 [(0, .ref a), (1, .int p1)] := hl
  unfold wp_X1_numberFor at hw
  refine lv_iload_n hx hb dX1_numberFor_0 rfl (lv_at hl 1 rfl) ?_
  by_cases c_1 : p1 = 0
  · have hw := hw.1 c_1
    refine lv_tableIn (tgt := 48) hx hb dX1_numberFor_1 (by rw [c_1]; decide) (by rw [c_1]; decide) (by rw [c_1] <;> rfl) (by decide) ?_
    refine lv_aload_n hx hb dX1_numberFor_48 rfl (lv_at hl 0 rfl) ?_
    refine g_X1_9 hx hb hown hts hK hW hla hL dX1_numberFor_49 ?_
    exact w_iret hx hb hr hlocks hW hS ⟨rfl, hw⟩ dX1_numberFor_52
  · have hw := hw.2 c_1
    by_cases c_2 : p1 = 1
    · have hw := hw.1 c_2
      refine lv_tableIn (tgt := 53) hx hb dX1_numberFor_1 (by rw [c_2]; decide) (by rw [c_2]; decide) (by rw [c_2] <;> rfl) (by decide) ?_
      refine lv_aload_n hx hb dX1_numberFor_53 rfl (lv_at hl 0 rfl) ?_
      refine g_X1_15 hx hb hown hts hK hW hla hL dX1_numberFor_54 ?_
      exact w_iret hx hb hr hlocks hW hS ⟨rfl, hw⟩ dX1_numberFor_57
    · have hw := hw.2 c_2
      by_cases c_3 : p1 = 2
      · have hw := hw.1 c_3
        refine lv_tableIn (tgt := 58) hx hb dX1_numberFor_1 (by rw [c_3]; decide) (by rw [c_3]; decide) (by rw [c_3] <;> rfl) (by decide) ?_
        refine lv_aload_n hx hb dX1_numberFor_58 rfl (lv_at hl 0 rfl) ?_
        refine g_X1_18 hx hb hown hts hK hW hla hL dX1_numberFor_59 ?_
        exact w_iret hx hb hr hlocks hW hS ⟨rfl, hw⟩ dX1_numberFor_62
      · have hw := hw.2 c_3
        by_cases c_4 : p1 = 3
        · have hw := hw.1 c_4
          refine lv_tableIn (tgt := 63) hx hb dX1_numberFor_1 (by rw [c_4]; decide) (by rw [c_4]; decide) (by rw [c_4] <;> rfl) (by decide) ?_
          refine lv_aload_n hx hb dX1_numberFor_63 rfl (lv_at hl 0 rfl) ?_
          refine g_X1_21 hx hb hown hts hK hW hla hL dX1_numberFor_64 ?_
          exact w_iret hx hb hr hlocks hW hS ⟨rfl, hw⟩ dX1_numberFor_67
        · have hw := hw.2 c_4
          by_cases c_5 : p1 = 4
          · have hw := hw.1 c_5
            refine lv_tableIn (tgt := 68) hx hb dX1_numberFor_1 (by rw [c_5]; decide) (by rw [c_5]; decide) (by rw [c_5] <;> rfl) (by decide) ?_
            refine lv_aload_n hx hb dX1_numberFor_68 rfl (lv_at hl 0 rfl) ?_
            refine g_X1_24 hx hb hown hts hK hW hla hL dX1_numberFor_69 ?_
            exact w_iret hx hb hr hlocks hW hS ⟨rfl, hw⟩ dX1_numberFor_72
          · have hw := hw.2 c_5
            by_cases c_6 : p1 = 5
            · have hw := hw.1 c_6
              refine lv_tableIn (tgt := 73) hx hb dX1_numberFor_1 (by rw [c_6]; decide) (by rw [c_6]; decide) (by rw [c_6] <;> rfl) (by decide) ?_
              refine lv_aload_n hx hb dX1_numberFor_73 rfl (lv_at hl 0 rfl) ?_
              refine g_X1_27 hx hb hown hts hK hW hla hL dX1_numberFor_74 ?_
              exact w_iret hx hb hr hlocks hW hS ⟨rfl, hw⟩ dX1_numberFor_77
            · have hw := hw.2 c_6
              by_cases c_7 : p1 = 6
              · have hw := hw.1 c_7
                refine lv_tableIn (tgt := 78) hx hb dX1_numberFor_1 (by rw [c_7]; decide) (by rw [c_7]; decide) (by rw [c_7] <;> rfl) (by decide) ?_
                refine lv_aload_n hx hb dX1_numberFor_78 rfl (lv_at hl 0 rfl) ?_
                refine g_X1_33 hx hb hown hts hK hW hla hL dX1_numberFor_79 ?_
                exact w_iret hx hb hr hlocks hW hS ⟨rfl, hw⟩ dX1_numberFor_82
              · have hw := hw.2 c_7
                by_cases c_8 : p1 = 7
                · have hw := hw.1 c_8
                  refine lv_tableIn (tgt := 83) hx hb dX1_numberFor_1 (by rw [c_8]; decide) (by rw [c_8]; decide) (by rw [c_8] <;> rfl) (by decide) ?_
                  refine lv_aload_n hx hb dX1_numberFor_83 rfl (lv_at hl 0 rfl) ?_
                  refine g_X1_36 hx hb hown hts hK hW hla hL dX1_numberFor_84 ?_
                  exact w_iret hx hb hr hlocks hW hS ⟨rfl, hw⟩ dX1_numberFor_87
                · have hw := hw.2 c_8
                  refine lv_tableOut (tgt := 88) hx hb dX1_numberFor_1 (by have zc_1 := lv_neT (a := 0) c_1 rfl; have zc_2 := lv_neT (a := 1) c_2 rfl; have zc_3 := lv_neT (a := 2) c_3 rfl; have zc_4 := lv_neT (a := 3) c_4 rfl; have zc_5 := lv_neT (a := 4) c_5 rfl; have zc_6 := lv_neT (a := 5) c_6 rfl; have zc_7 := lv_neT (a := 6) c_7 rfl; have zc_8 := lv_neT (a := 7) c_8 rfl; omega) (by decide) ?_
                  refine lv_bipush (v := (-2)) hx hb dX1_numberFor_88 (by decide) ?_
                  exact w_iret hx hb hr hlocks hW hS ⟨rfl, hw⟩ dX1_numberFor_90
set_option maxHeartbeats 4000000 in
set_option maxRecDepth 100000 in
theorem c_X3_codeAt {l : Launch} {g : GG} {lay : LY} {E0 : ES} {o : Nat} {X : ES} {p1 : Int32} {K : Int32 → Prop} (hA : okL g lay) (HB : PL g lay o) (hX : ∀ k, k < 2 → E0 (o + k) = X k) (hw : wp_X3_codeAt X p1 K) : JMi l g lay yX3_codeAt wsX3_codeAt rmX3_codeAt [.ref o, .int p1] E0 (fun r E1 => E1 = E0 ∧ K r) := by
  refine Met.ofW (cc := cX3_codeAt) (maxL := 2) (ret := (some .int)) (by decide) rfl ?_
  intro p e s m args below meth c s₁ B hml hv
  obtain ⟨rfl, hK, hW⟩ := hv
  have hx := B.exec
  have hb := B.bytes
  have hr := B.returns
  have hts := gd_of (atoms_spec (ws := wsX3_codeAt) B.pre)
  have hown : s.vm.findClass RX3 = some m.cls := findClass_of_methodNamed B.named
  have hlocks := B.notSynchronized
  have hS : va_S (Ab g) s.heap s.heap [] := va_S.rf
  have hl := lv_entry [.ref o, .int p1] (n := 2) (Nat.le_of_ble_eq_true rfl)
  rw [lg_entry_eq]
  generalize (lg_sl [.ref o, .int p1] ++ List.replicate (2 - (lg_sl [.ref o, .int p1]).length) Slot.unset).toArray = ls at hl ⊢
  have hl : lv_has ls 2 [(0, .ref o), (1, .int p1)] := hl
  unfold wp_X3_codeAt at hw
  refine lv_iload_n hx hb dX3_codeAt_0 rfl (lv_at hl 1 rfl) ?_
  refine lv_if_lt (tgt := 30) hx hb dX3_codeAt_1 (by decide) (fun c_1 => ?_) (fun c_1 => ?_)
  · have hw := hw.1 c_1
    refine lv_iconst (v := 0) hx hb dX3_codeAt_30 (by decide) ?_
    exact w_iret hx hb hr hlocks hW hS ⟨rfl, hw⟩ dX3_codeAt_31
  · have hw := hw.2 c_1
    refine lv_iload_n hx hb dX3_codeAt_4 rfl (lv_at hl 1 rfl) ?_
    refine lv_aload_n hx hb dX3_codeAt_5 rfl (lv_at hl 0 rfl) ?_
    refine g_X3_15 hx hb hown hts hK hW HB.1 (hX 0 (by decide)) dX3_codeAt_6 ?_
    refine lv_icmp_ge (tgt := 30) hx hb dX3_codeAt_9 (by decide) (fun c_2 => ?_) (fun c_2 => ?_)
    · have hw := hw.1 c_2
      refine lv_iconst (v := 0) hx hb dX3_codeAt_30 (by decide) ?_
      exact w_iret hx hb hr hlocks hW hS ⟨rfl, hw⟩ dX3_codeAt_31
    · have hw := hw.2 c_2
      refine lv_iload_n hx hb dX3_codeAt_12 rfl (lv_at hl 1 rfl) ?_
      refine lv_aload_n hx hb dX3_codeAt_13 rfl (lv_at hl 0 rfl) ?_
      refine g_X3_9 hx hb hown hts hK hW HB.1 (hX 0 (by decide)) dX3_codeAt_14 ?_
      refine w_alen (v := 60) hx hb hK hW 0 rfl HB.2 (hX 1 (by decide)) rfl rfl dX3_codeAt_17 ?_
      refine lv_icmp_ge (tgt := 30) hx hb dX3_codeAt_18 (by decide) (fun c_3 => ?_) (fun c_3 => ?_)
      · have hw := hw.1 c_3
        refine lv_iconst (v := 0) hx hb dX3_codeAt_30 (by decide) ?_
        exact w_iret hx hb hr hlocks hW hS ⟨rfl, hw⟩ dX3_codeAt_31
      · have hw := hw.2 c_3
        refine lv_aload_n hx hb dX3_codeAt_21 rfl (lv_at hl 0 rfl) ?_
        refine g_X3_9 hx hb hown hts hK hW HB.1 (hX 0 (by decide)) dX3_codeAt_22 ?_
        refine lv_iload_n hx hb dX3_codeAt_25 rfl (lv_at hl 1 rfl) ?_
        obtain ⟨hin, hw⟩ := hw
        refine w_iald hx hb hK hW HB.2 (hX 1 (by decide)) hin dX3_codeAt_26 ?_
        refine lv_goto (tgt := 31) hx hb dX3_codeAt_27 (by decide) ?_
        exact w_iret hx hb hr hlocks hW hS ⟨rfl, hw⟩ dX3_codeAt_31
set_option maxHeartbeats 4000000 in
set_option maxRecDepth 100000 in
theorem c_X4_isWithin {l : Launch} {g : GG} {lay : LY} {E0 : ES} {p1 : Int32} {p2 : Int32} {p3 : Int32} {K : Int32 → Prop} (hw : wp_X4_isWithin p1 p2 p3 K) : JMi l g lay yX4_isWithin wsX4_isWithin rmX4_isWithin [.int p1, .int p2, .int p3] E0 (fun r E1 => E1 = E0 ∧ (r = 0 ∨ r = 1) ∧ K r) := by
  refine Met.ofW (cc := cX4_isWithin) (maxL := 3) (ret := (some .boolean)) (by decide) rfl ?_
  intro p e s m args below meth c s₁ B hml hv
  obtain ⟨rfl, hK, hW⟩ := hv
  have hx := B.exec
  have hb := B.bytes
  have hr := B.returns
  have hts := gd_of (atoms_spec (ws := wsX4_isWithin) B.pre)
  have hown : s.vm.findClass RX4 = some m.cls := findClass_of_methodNamed B.named
  have hlocks := B.notSynchronized
  have hS : va_S (Ab g) s.heap s.heap [] := va_S.rf
  have hl := lv_entry [.int p1, .int p2, .int p3] (n := 3) (Nat.le_of_ble_eq_true rfl)
  rw [lg_entry_eq]
  generalize (lg_sl [.int p1, .int p2, .int p3] ++ List.replicate (3 - (lg_sl [.int p1, .int p2, .int p3]).length) Slot.unset).toArray = ls at hl ⊢
  have hl : lv_has ls 3 [(0, .int p1), (1, .int p2), (2, .int p3)] := hl
  unfold wp_X4_isWithin at hw
  refine lv_iload_n hx hb dX4_isWithin_0 rfl (lv_at hl 0 rfl) ?_
  refine lv_iload_n hx hb dX4_isWithin_1 rfl (lv_at hl 1 rfl) ?_
  refine lv_icmp_lt (tgt := 14) hx hb dX4_isWithin_2 (by decide) (fun c_1 => ?_) (fun c_1 => ?_)
  · have hw := hw.1 c_1
    refine lv_iconst (v := 0) hx hb dX4_isWithin_14 (by decide) ?_
    exact w_zret hx hb hr hlocks hW hS (Or.inl rfl) ⟨rfl, (Or.inl rfl), hw⟩ dX4_isWithin_15
  · have hw := hw.2 c_1
    refine lv_iload_n hx hb dX4_isWithin_5 rfl (lv_at hl 0 rfl) ?_
    refine lv_iload_n hx hb dX4_isWithin_6 rfl (lv_at hl 2 rfl) ?_
    refine lv_icmp_gt (tgt := 14) hx hb dX4_isWithin_7 (by decide) (fun c_2 => ?_) (fun c_2 => ?_)
    · have hw := hw.1 c_2
      refine lv_iconst (v := 0) hx hb dX4_isWithin_14 (by decide) ?_
      exact w_zret hx hb hr hlocks hW hS (Or.inl rfl) ⟨rfl, (Or.inl rfl), hw⟩ dX4_isWithin_15
    · have hw := hw.2 c_2
      refine lv_iconst (v := 1) hx hb dX4_isWithin_10 (by decide) ?_
      refine lv_goto (tgt := 15) hx hb dX4_isWithin_11 (by decide) ?_
      exact w_zret hx hb hr hlocks hW hS (Or.inr rfl) ⟨rfl, (Or.inr rfl), hw⟩ dX4_isWithin_15
set_option maxHeartbeats 4000000 in
set_option maxRecDepth 100000 in
theorem c_X3_countOf {l : Launch} {g : GG} {lay : LY} {E0 : ES} {p1 : Int64} {K : Int32 → Prop} (hw : wp_X3_countOf p1 K) : JMi l g lay yX3_countOf wsX3_countOf rmX3_countOf [.long p1] E0 (fun r E1 => E1 = E0 ∧ K r) := by
  refine Met.ofW (cc := cX3_countOf) (maxL := 6) (ret := (some .int)) (by decide) rfl ?_
  intro p e s m args below meth c s₁ B hml hv
  obtain ⟨rfl, hK, hW⟩ := hv
  have hx := B.exec
  have hb := B.bytes
  have hr := B.returns
  have hts := gd_of (atoms_spec (ws := wsX3_countOf) B.pre)
  have hown : s.vm.findClass RX3 = some m.cls := findClass_of_methodNamed B.named
  have hlocks := B.notSynchronized
  have hS : va_S (Ab g) s.heap s.heap [] := va_S.rf
  have hl := lv_entry [.long p1] (n := 6) (Nat.le_of_ble_eq_true rfl)
  rw [lg_entry_eq]
  generalize (lg_sl [.long p1] ++ List.replicate (6 - (lg_sl [.long p1]).length) Slot.unset).toArray = ls at hl ⊢
  have hl : lv_has ls 6 [(0, .long p1)] := hl
  unfold wp_X3_countOf at hw
  refine lv_iconst (v := 0) hx hb dX3_countOf_0 (by decide) ?_
  refine lv_istore_n (lv' := [(2, .int 0), (0, .long p1)]) hx hb dX3_countOf_1 rfl hl (by decide) rfl (fun ls hl => ?_)
  refine lv_lload_n hx hb dX3_countOf_2 rfl (lv_at hl 1 rfl) ?_
  refine lv_lstore_n (lv' := [(3, .long p1), (2, .int 0), (0, .long p1)]) hx hb dX3_countOf_3 rfl hl (by decide) rfl (fun ls hl => ?_)
  refine lv_iconst (v := 0) hx hb dX3_countOf_4 (by decide) ?_
  refine lv_istore (lv' := [(5, .int 0), (3, .long p1), (2, .int 0), (0, .long p1)]) hx hb dX3_countOf_5 hl (by decide) rfl (fun ls hl => ?_)
  obtain ⟨n_24, hw⟩ := hw
  refine w_loop (KT := Int32 → Int64 → Int32 → Prop) (σ := Int32 × Int64 × Int32) (Wl := fun Kx_7 n_7 q => wpl_X3_countOf_7 K Kx_7 n_7 q.1 q.2.1 q.2.2) (Pw := fun q => Wd g lay (E0)) (lvf := fun q => [(0, .long p1), (2, .int q.1), (3, .long q.2.1), (5, .int q.2.2)]) (nL := 6) n_24 (0, p1, 0) hw hW hS (lv_sub hl [3, 2, 1, 0] rfl) (fun _ h => h) (fun Kx_7 eK_7 n_7 q H locs ls hw hW hS hl ih_7 => ?_)
  obtain ⟨i_1, i_2, i_3⟩ := q
  try dsimp only at hw
  rw [wpl_X3_countOf_7] at hw
  have hl : lv_has ls 6 [(0, .long p1), (2, .int i_1), (3, .long i_2), (5, .int i_3)] := hl
  have hW : Wd g lay (E0) H := hW
  refine lv_iload hx hb dX3_countOf_7 (lv_at hl 3 rfl) ?_
  refine lv_bipush (v := 8) hx hb dX3_countOf_9 (by decide) ?_
  refine lv_icmp_ge (tgt := 52) hx hb dX3_countOf_11 (by decide) (fun c_16 => ?_) (fun c_16 => ?_)
  · have hw := hw.1 c_16
    rw [eK_7] at hw
    refine lv_iload_n hx hb dX3_countOf_52 rfl (lv_at hl 1 rfl) ?_
    exact w_iret hx hb hr hlocks hW hS ⟨rfl, hw⟩ dX3_countOf_53
  · have hw := hw.2 c_16
    refine lv_lload_n hx hb dX3_countOf_14 rfl (lv_at hl 2 rfl) ?_
    refine lv_lconst (v := 0) hx hb dX3_countOf_15 (by decide) ?_
    refine W.lcmp hx hb dX3_countOf_16 ?_
    refine lv_if_eq (tgt := 52) hx hb dX3_countOf_17 (by decide) (fun c_17 => ?_) (fun c_17 => ?_)
    · have hw := hw.1 c_17
      rw [eK_7] at hw
      refine lv_iload_n hx hb dX3_countOf_52 rfl (lv_at hl 1 rfl) ?_
      exact w_iret hx hb hr hlocks hW hS ⟨rfl, hw⟩ dX3_countOf_53
    · have hw := hw.2 c_17
      refine lv_lload_n hx hb dX3_countOf_20 rfl (lv_at hl 2 rfl) ?_
      refine lv_l2i hx hb dX3_countOf_21 rfl ?_
      refine lv_sipush (v := 255) hx hb dX3_countOf_22 (by decide) ?_
      refine lv_iand hx hb dX3_countOf_25 ?_
      refine lv_bipush (v := 33) hx hb dX3_countOf_26 (by decide) ?_
      refine lv_bipush (v := 126) hx hb dX3_countOf_28 (by decide) ?_
      refine w_csiN (As := [.int ((i_2.toInt32) &&& 255), .int 33, .int 126]) (rest := []) hx hb hml hown hts hK hW hS hl.1 (c_X4_isWithin hw) (k_X3_27 hK.2.1 hts ⟨Nat.le_of_ble_eq_true rfl, Nat.le_of_ble_eq_true rfl⟩) rfl rfl (Nat.le_of_ble_eq_true rfl) dX3_countOf_30 ⟨Nat.zero_le _, Nat.zero_le _⟩ (fun r_18 Ez H locs hw2 hW hS => ?_)
      obtain ⟨ez, z_19, hw⟩ := hw2
      rw [ez] at hW
      refine lv_if_ne (tgt := 38) hx hb dX3_countOf_33 (by decide) (fun c_20 => ?_) (fun c_20 => ?_)
      · have hw := hw.2 c_20
        obtain ⟨v_21, ev_21⟩ : ∃ z : Int32, z = i_1 + 1 := ⟨_, rfl⟩
        have hw := hw v_21 ev_21
        refine lv_iinc (v := v_21) (lv' := [(2, .int v_21), (0, .long p1), (3, .long i_2), (5, .int i_3)]) hx hb dX3_countOf_38 hl (k := 1) rfl (by rw [ev_21]; rfl) (by decide) rfl (fun ls hl => ?_)
        refine lv_lload_n hx hb dX3_countOf_41 rfl (lv_at hl 2 rfl) ?_
        refine lv_bipush (v := 8) hx hb dX3_countOf_42 (by decide) ?_
        refine lv_lushr hx hb dX3_countOf_44 rfl ?_
        refine lv_topl (fun v_22 ev_22 => ?_)
        have hw := hw v_22 ev_22
        refine lv_lstore_n (lv' := [(3, .long v_22), (2, .int v_21), (0, .long p1), (5, .int i_3)]) hx hb dX3_countOf_45 rfl hl (by decide) rfl (fun ls hl => ?_)
        obtain ⟨v_23, ev_23⟩ : ∃ z : Int32, z = i_3 + 1 := ⟨_, rfl⟩
        have hw := hw v_23 ev_23
        refine lv_iinc (v := v_23) (lv' := [(5, .int v_23), (3, .long v_22), (2, .int v_21), (0, .long p1)]) hx hb dX3_countOf_46 hl (k := 3) rfl (by rw [ev_23]; rfl) (by decide) rfl (fun ls hl => ?_)
        refine lv_goto (tgt := 7) hx hb dX3_countOf_49 (by decide) ?_
        exact ih_7 (v_21, v_22, v_23) _ _ _ hw hW hS (lv_sub hl [3, 2, 1, 0] rfl)
      · have hw := hw.1 c_20
        refine lv_iconst (v := 0) hx hb dX3_countOf_36 (by decide) ?_
        exact w_iret hx hb hr hlocks hW hS ⟨rfl, hw⟩ dX3_countOf_37
set_option maxHeartbeats 4000000 in
set_option maxRecDepth 100000 in
theorem c_X3_appendCode {l : Launch} {g : GG} {lay : LY} {E0 : ES} {o : Nat} {X : ES} {p1 : Int32} {K : ES → Prop} (hA : okL g lay) (HB : PL g lay o) (hX : ∀ k, k < 2 → E0 (o + k) = X k) (hw : wp_X3_appendCode X p1 K) : JMv l g lay yX3_appendCode wsX3_appendCode rmX3_appendCode [.ref o, .int p1] E0 (fun E1 => ∃ X1 : ES, E1 = put 2 o X1 E0 ∧ K X1) := by
  refine Met.ofW (cc := cX3_appendCode) (maxL := 2) (ret := none) (by decide) rfl ?_
  intro p e s m args below meth c s₁ B hml hv
  obtain ⟨rfl, hK, hW⟩ := hv
  have hx := B.exec
  have hb := B.bytes
  have hr := B.returns
  have hts := gd_of (atoms_spec (ws := wsX3_appendCode) B.pre)
  have hown : s.vm.findClass RX3 = some m.cls := findClass_of_methodNamed B.named
  have hlocks := B.notSynchronized
  have hS : va_S (Ab g) s.heap s.heap [] := va_S.rf
  have hW : Wd g lay (put 2 o X E0) s.heap := by rw [putSelf hX]; exact hW
  have hl := lv_entry [.ref o, .int p1] (n := 2) (Nat.le_of_ble_eq_true rfl)
  rw [lg_entry_eq]
  generalize (lg_sl [.ref o, .int p1] ++ List.replicate (2 - (lg_sl [.ref o, .int p1]).length) Slot.unset).toArray = ls at hl ⊢
  have hl : lv_has ls 2 [(0, .ref o), (1, .int p1)] := hl
  unfold wp_X3_appendCode at hw
  refine lv_aload_n hx hb dX3_appendCode_0 rfl (lv_at hl 0 rfl) ?_
  refine g_X3_15 hx hb hown hts hK hW HB.1 (putAt (k := 0) (by decide)) dX3_appendCode_1 ?_
  refine lv_if_lt (tgt := 39) hx hb dX3_appendCode_4 (by decide) (fun c_1 => ?_) (fun c_1 => ?_)
  · have hw := hw.1 c_1
    exact w_vret hx hb hr hlocks hW hS ⟨X, rfl, hw⟩ dX3_appendCode_39
  · have hw := hw.2 c_1
    refine lv_aload_n hx hb dX3_appendCode_7 rfl (lv_at hl 0 rfl) ?_
    refine g_X3_15 hx hb hown hts hK hW HB.1 (putAt (k := 0) (by decide)) dX3_appendCode_8 ?_
    refine lv_aload_n hx hb dX3_appendCode_11 rfl (lv_at hl 0 rfl) ?_
    refine g_X3_9 hx hb hown hts hK hW HB.1 (putAt (k := 0) (by decide)) dX3_appendCode_12 ?_
    refine w_alen (v := 60) hx hb hK hW 0 rfl HB.2 (putAt (k := 1) (by decide)) rfl rfl dX3_appendCode_15 ?_
    refine lv_icmp_ge (tgt := 39) hx hb dX3_appendCode_16 (by decide) (fun c_2 => ?_) (fun c_2 => ?_)
    · have hw := hw.1 c_2
      exact w_vret hx hb hr hlocks hW hS ⟨X, rfl, hw⟩ dX3_appendCode_39
    · have hw := hw.2 c_2
      refine lv_aload_n hx hb dX3_appendCode_19 rfl (lv_at hl 0 rfl) ?_
      refine g_X3_9 hx hb hown hts hK hW HB.1 (putAt (k := 0) (by decide)) dX3_appendCode_20 ?_
      refine lv_aload_n hx hb dX3_appendCode_23 rfl (lv_at hl 0 rfl) ?_
      refine g_X3_15 hx hb hown hts hK hW HB.1 (putAt (k := 0) (by decide)) dX3_appendCode_24 ?_
      refine lv_iload_n hx hb dX3_appendCode_27 rfl (lv_at hl 1 rfl) ?_
      obtain ⟨hin, hw⟩ := hw
      obtain ⟨X_3, eX_3⟩ : ∃ z : ES, z = va_up X 1 (upd (X 1) ((X 0) 1).toNatClampNeg p1) := ⟨_, rfl⟩
      have hw := hw X_3 eX_3
      refine w_iast (E1 := put 2 o X_3 E0) hx hb hK hA hW hS HB.2 (putAt (k := 1) (by decide)) hin dX3_appendCode_28 (puE (k := 1) (by decide) eX_3) (fun H locs hW hS => ?_)
      refine lv_aload_n hx hb dX3_appendCode_29 rfl (lv_at hl 0 rfl) ?_
      refine lv_dup hx hb dX3_appendCode_30 rfl ?_
      refine g_X3_15 hx hb hown hts hK hW HB.1 (putAt (k := 0) (by decide)) dX3_appendCode_31 ?_
      refine lv_iconst (v := 1) hx hb dX3_appendCode_34 (by decide) ?_
      refine lv_iadd hx hb dX3_appendCode_35 ?_
      obtain ⟨X_4, eX_4⟩ : ∃ z : ES, z = va_up X_3 0 (upd (X_3 0) 1 (((X_3 0) 1) + 1)) := ⟨_, rfl⟩
      have hw := hw X_4 eX_4
      refine p_X3_15 (E1 := put 2 o X_4 E0) hx hb hown hts hK hA hW hS HB.1 (putAt (k := 0) (by decide)) dX3_appendCode_36 (puE (k := 0) (by decide) eX_4) (fun H locs hW hS => ?_)
      exact w_vret hx hb hr hlocks hW hS ⟨X_4, rfl, hw⟩ dX3_appendCode_39
set_option maxHeartbeats 4000000 in
set_option maxRecDepth 100000 in
theorem c_X3_append {l : Launch} {g : GG} {lay : LY} {E0 : ES} {o : Nat} {X : ES} {p1 : Int64} {K : Int32 → ES → Prop} (hA : okL g lay) (HB : PL g lay o) (hX : ∀ k, k < 2 → E0 (o + k) = X k) (hw : wp_X3_append X p1 K) : JMi l g lay yX3_append wsX3_append rmX3_append [.ref o, .long p1] E0 (fun r E1 => ∃ X1 : ES, E1 = put 2 o X1 E0 ∧ K r X1) := by
  refine Met.ofW (cc := cX3_append) (maxL := 5) (ret := (some .int)) (by decide) rfl ?_
  intro p e s m args below meth c s₁ B hml hv
  obtain ⟨rfl, hK, hW⟩ := hv
  have hx := B.exec
  have hb := B.bytes
  have hr := B.returns
  have hts := gd_of (atoms_spec (ws := wsX3_append) B.pre)
  have hown : s.vm.findClass RX3 = some m.cls := findClass_of_methodNamed B.named
  have hlocks := B.notSynchronized
  have hS : va_S (Ab g) s.heap s.heap [] := va_S.rf
  have hW : Wd g lay (put 2 o X E0) s.heap := by rw [putSelf hX]; exact hW
  have hl := lv_entry [.ref o, .long p1] (n := 5) (Nat.le_of_ble_eq_true rfl)
  rw [lg_entry_eq]
  generalize (lg_sl [.ref o, .long p1] ++ List.replicate (5 - (lg_sl [.ref o, .long p1]).length) Slot.unset).toArray = ls at hl ⊢
  have hl : lv_has ls 5 [(0, .ref o), (1, .long p1)] := hl
  unfold wp_X3_append at hw
  refine lv_lload_n hx hb dX3_append_0 rfl (lv_at hl 1 rfl) ?_
  refine w_csi (As := [.long p1]) (rest := []) hx hb hml hown hts hK hW hS hl.1 (c_X3_countOf hw) (k_X3_19 hts ⟨Nat.le_of_ble_eq_true rfl, Nat.le_of_ble_eq_true rfl⟩) rfl rfl (Nat.le_of_ble_eq_true rfl) dX3_append_1 ⟨Nat.zero_le _, Nat.zero_le _⟩ (fun r_1 Ez H locs hw2 hW hS => ?_)
  obtain ⟨ez, hw⟩ := hw2
  rw [ez] at hW
  refine lv_istore_n (lv' := [(3, .int r_1), (0, .ref o), (1, .long p1)]) hx hb dX3_append_4 rfl hl (by decide) rfl (fun ls hl => ?_)
  refine lv_iload_n hx hb dX3_append_5 rfl (lv_at hl 0 rfl) ?_
  refine lv_if_ne (tgt := 12) hx hb dX3_append_6 (by decide) (fun c_2 => ?_) (fun c_2 => ?_)
  · have hw := hw.2 c_2
    refine lv_aload_n hx hb dX3_append_12 rfl (lv_at hl 1 rfl) ?_
    refine g_X3_15 hx hb hown hts hK hW HB.1 (putAt (k := 0) (by decide)) dX3_append_13 ?_
    refine lv_iload_n hx hb dX3_append_16 rfl (lv_at hl 0 rfl) ?_
    refine lv_iadd hx hb dX3_append_17 ?_
    refine lv_bipush (v := 60) hx hb dX3_append_18 (by decide) ?_
    refine lv_icmp_le (tgt := 26) hx hb dX3_append_20 (by decide) (fun c_3 => ?_) (fun c_3 => ?_)
    · have hw := hw.1 c_3
      refine lv_iload_n hx hb dX3_append_26 rfl (lv_at hl 0 rfl) ?_
      refine lv_iconst (v := 1) hx hb dX3_append_27 (by decide) ?_
      refine lv_isub hx hb dX3_append_28 ?_
      refine lv_topi (fun v_4 ev_4 => ?_)
      have hw := hw v_4 ev_4
      refine lv_istore (lv' := [(4, .int v_4), (3, .int r_1), (0, .ref o), (1, .long p1)]) hx hb dX3_append_29 hl (by decide) rfl (fun ls hl => ?_)
      obtain ⟨n_17, hw⟩ := hw
      refine w_loop (KT := Int32 → ES → Prop) (σ := Int32 × ES) (Wl := fun Kx_31 n_31 q => wpl_X3_append_31 p1 K Kx_31 n_31 q.1 q.2) (Pw := fun q => Wd g lay (put 2 o q.2 E0)) (lvf := fun q => [(0, .ref o), (1, .long p1), (3, .int r_1), (4, .int q.1)]) (nL := 5) n_17 (v_4, X) hw hW hS (lv_sub hl [2, 3, 1, 0] rfl) (fun _ h => h) (fun Kx_31 eK_31 n_31 q H locs ls hw hW hS hl ih_31 => ?_)
      obtain ⟨i_5, X_6⟩ := q
      try dsimp only at hw
      rw [wpl_X3_append_31] at hw
      have hl : lv_has ls 5 [(0, .ref o), (1, .long p1), (3, .int r_1), (4, .int i_5)] := hl
      have hW : Wd g lay (put 2 o X_6 E0) H := hW
      refine lv_iload hx hb dX3_append_31 (lv_at hl 3 rfl) ?_
      refine lv_if_lt (tgt := 58) hx hb dX3_append_33 (by decide) (fun c_14 => ?_) (fun c_14 => ?_)
      · have hw := hw.1 c_14
        rw [eK_31] at hw
        refine lv_aload_n hx hb dX3_append_58 rfl (lv_at hl 0 rfl) ?_
        refine g_X3_15 hx hb hown hts hK hW HB.1 (putAt (k := 0) (by decide)) dX3_append_59 ?_
        exact w_iret hx hb hr hlocks hW hS ⟨X_6, rfl, hw⟩ dX3_append_62
      · have hw := hw.2 c_14
        refine lv_aload_n hx hb dX3_append_36 rfl (lv_at hl 0 rfl) ?_
        refine lv_lload_n hx hb dX3_append_37 rfl (lv_at hl 1 rfl) ?_
        refine lv_bipush (v := 8) hx hb dX3_append_38 (by decide) ?_
        refine lv_iload hx hb dX3_append_40 (lv_at hl 3 rfl) ?_
        refine lv_imul hx hb dX3_append_42 ?_
        refine lv_lushr hx hb dX3_append_43 rfl ?_
        refine lv_l2i hx hb dX3_append_44 rfl ?_
        refine lv_sipush (v := 255) hx hb dX3_append_45 (by decide) ?_
        refine lv_iand hx hb dX3_append_48 ?_
        refine w_cvv (As := [.int ((((p1.toUInt64 >>> ((8 * i_5).toInt64.toUInt64 &&& Int64.toUInt64 63)).toInt64).toInt32) &&& 255)]) (rest := []) hx hb hml hown hts hK hW hS hl.1 (c_X3_appendCode hA HB (fun k hk => putAt hk)  hw) (k_X3_23 hts ⟨Nat.le_of_ble_eq_true rfl, Nat.le_of_ble_eq_true rfl⟩) (w_recv hK hW HB.1 (putAt (k := 0) (by decide)) rfl rfl) rfl rfl (Nat.le_of_ble_eq_true rfl) dX3_append_49 ⟨Nat.zero_le _, Nat.zero_le _⟩ (fun Ez H locs hw2 hW hS => ?_)
        obtain ⟨X_15, ez, hw⟩ := hw2
        rw [ez, putPut] at hW
        obtain ⟨v_16, ev_16⟩ : ∃ z : Int32, z = i_5 + (-1) := ⟨_, rfl⟩
        have hw := hw v_16 ev_16
        refine lv_iinc (v := v_16) (lv' := [(4, .int v_16), (0, .ref o), (1, .long p1), (3, .int r_1)]) hx hb dX3_append_52 hl (k := 3) rfl (by rw [ev_16]; rfl) (by decide) rfl (fun ls hl => ?_)
        refine lv_goto (tgt := 31) hx hb dX3_append_55 (by decide) ?_
        exact ih_31 (v_16, X_15) _ _ _ hw hW hS (lv_sub hl [1, 2, 3, 0] rfl)
    · have hw := hw.2 c_3
      refine lv_bipush (v := (-4)) hx hb dX3_append_23 (by decide) ?_
      exact w_iret hx hb hr hlocks hW hS ⟨X, rfl, hw⟩ dX3_append_25
  · have hw := hw.1 c_2
    refine lv_bipush (v := (-2)) hx hb dX3_append_9 (by decide) ?_
    exact w_iret hx hb hr hlocks hW hS ⟨X, rfl, hw⟩ dX3_append_11
set_option maxHeartbeats 4000000 in
set_option maxRecDepth 100000 in
theorem c_X3_isDigit {l : Launch} {g : GG} {lay : LY} {E0 : ES} {p1 : Int32} {K : Int32 → Prop} (hw : wp_X3_isDigit p1 K) : JMi l g lay yX3_isDigit wsX3_isDigit rmX3_isDigit [.int p1] E0 (fun r E1 => E1 = E0 ∧ (r = 0 ∨ r = 1) ∧ K r) := by
  refine Met.ofW (cc := cX3_isDigit) (maxL := 1) (ret := (some .boolean)) (by decide) rfl ?_
  intro p e s m args below meth c s₁ B hml hv
  obtain ⟨rfl, hK, hW⟩ := hv
  have hx := B.exec
  have hb := B.bytes
  have hr := B.returns
  have hts := gd_of (atoms_spec (ws := wsX3_isDigit) B.pre)
  have hown : s.vm.findClass RX3 = some m.cls := findClass_of_methodNamed B.named
  have hlocks := B.notSynchronized
  have hS : va_S (Ab g) s.heap s.heap [] := va_S.rf
  have hl := lv_entry [.int p1] (n := 1) (Nat.le_of_ble_eq_true rfl)
  rw [lg_entry_eq]
  generalize (lg_sl [.int p1] ++ List.replicate (1 - (lg_sl [.int p1]).length) Slot.unset).toArray = ls at hl ⊢
  have hl : lv_has ls 1 [(0, .int p1)] := hl
  unfold wp_X3_isDigit at hw
  refine lv_iload_n hx hb dX3_isDigit_0 rfl (lv_at hl 0 rfl) ?_
  refine lv_bipush (v := 48) hx hb dX3_isDigit_1 (by decide) ?_
  refine lv_bipush (v := 57) hx hb dX3_isDigit_3 (by decide) ?_
  refine w_csiN (As := [.int p1, .int 48, .int 57]) (rest := []) hx hb hml hown hts hK hW hS hl.1 (c_X4_isWithin hw) (k_X3_27 hK.2.1 hts ⟨Nat.le_of_ble_eq_true rfl, Nat.le_of_ble_eq_true rfl⟩) rfl rfl (Nat.le_of_ble_eq_true rfl) dX3_isDigit_5 ⟨Nat.zero_le _, Nat.zero_le _⟩ (fun r_1 Ez H locs hw2 hW hS => ?_)
  obtain ⟨ez, z_2, hw⟩ := hw2
  rw [ez] at hW
  exact w_zret hx hb hr hlocks hW hS z_2 ⟨rfl, z_2, hw⟩ dX3_isDigit_8
set_option maxHeartbeats 4000000 in
set_option maxRecDepth 100000 in
theorem c_X3_awaitedBehindLetter {l : Launch} {g : GG} {lay : LY} {E0 : ES} {p1 : Int32} {K : Int32 → Prop} (hw : wp_X3_awaitedBehindLetter p1 K) : JMi l g lay yX3_awaitedBehindLetter wsX3_awaitedBehindLetter rmX3_awaitedBehindLetter [.int p1] E0 (fun r E1 => E1 = E0 ∧ K r) := by
  refine Met.ofW (cc := cX3_awaitedBehindLetter) (maxL := 1) (ret := (some .int)) (by decide) rfl ?_
  intro p e s m args below meth c s₁ B hml hv
  obtain ⟨rfl, hK, hW⟩ := hv
  have hx := B.exec
  have hb := B.bytes
  have hr := B.returns
  have hts := gd_of (atoms_spec (ws := wsX3_awaitedBehindLetter) B.pre)
  have hown : s.vm.findClass RX3 = some m.cls := findClass_of_methodNamed B.named
  have hlocks := B.notSynchronized
  have hS : va_S (Ab g) s.heap s.heap [] := va_S.rf
  have hl := lv_entry [.int p1] (n := 1) (Nat.le_of_ble_eq_true rfl)
  rw [lg_entry_eq]
  generalize (lg_sl [.int p1] ++ List.replicate (1 - (lg_sl [.int p1]).length) Slot.unset).toArray = ls at hl ⊢
  have hl : lv_has ls 1 [(0, .int p1)] := hl
  unfold wp_X3_awaitedBehindLetter at hw
  refine lv_iload_n hx hb dX3_awaitedBehindLetter_0 rfl (lv_at hl 0 rfl) ?_
  by_cases c_1 : p1 = 100
  · have hw := hw.1 c_1
    refine lv_lookup (tgt := 46) hx hb dX3_awaitedBehindLetter_1 (by decide) (by rw [c_1] <;> rfl) (by decide) ?_
    refine lv_iconst (v := 2) hx hb dX3_awaitedBehindLetter_46 (by decide) ?_
    exact w_iret hx hb hr hlocks hW hS ⟨rfl, hw⟩ dX3_awaitedBehindLetter_47
  · have hw := hw.2 c_1
    by_cases c_2 : p1 = 104
    · have hw := hw.1 c_2
      refine lv_lookup (tgt := 44) hx hb dX3_awaitedBehindLetter_1 (by decide) (by rw [c_2] <;> rfl) (by decide) ?_
      refine lv_iconst (v := 1) hx hb dX3_awaitedBehindLetter_44 (by decide) ?_
      exact w_iret hx hb hr hlocks hW hS ⟨rfl, hw⟩ dX3_awaitedBehindLetter_45
    · have hw := hw.2 c_2
      by_cases c_3 : p1 = 108
      · have hw := hw.1 c_3
        refine lv_lookup (tgt := 44) hx hb dX3_awaitedBehindLetter_1 (by decide) (by rw [c_3] <;> rfl) (by decide) ?_
        refine lv_iconst (v := 1) hx hb dX3_awaitedBehindLetter_44 (by decide) ?_
        exact w_iret hx hb hr hlocks hW hS ⟨rfl, hw⟩ dX3_awaitedBehindLetter_45
      · have hw := hw.2 c_3
        by_cases c_4 : p1 = 116
        · have hw := hw.1 c_4
          refine lv_lookup (tgt := 48) hx hb dX3_awaitedBehindLetter_1 (by decide) (by rw [c_4] <;> rfl) (by decide) ?_
          refine lv_iconst (v := 5) hx hb dX3_awaitedBehindLetter_48 (by decide) ?_
          exact w_iret hx hb hr hlocks hW hS ⟨rfl, hw⟩ dX3_awaitedBehindLetter_49
        · have hw := hw.2 c_4
          refine lv_lookup (off := 49) (tgt := 50) hx hb dX3_awaitedBehindLetter_1 (by decide) (by show Op.lookupswitch.offset [(100, 45), (104, 43), (108, 43), (116, 47)] _ _ = _; rw [lv_osw (a := 100) c_1 (by decide), lv_osw (a := 104) c_2 (by decide), lv_osw (a := 108) c_3 (by decide), lv_osw (a := 116) c_4 (by decide)] <;> rfl) (by decide) ?_
          refine lv_bipush (v := 8) hx hb dX3_awaitedBehindLetter_50 (by decide) ?_
          exact w_iret hx hb hr hlocks hW hS ⟨rfl, hw⟩ dX3_awaitedBehindLetter_52
set_option maxHeartbeats 4000000 in
set_option maxRecDepth 100000 in
theorem c_X3_lineOf {l : Launch} {g : GG} {lay : LY} {E0 : ES} {p1 : Int32} {K : Int32 → Prop} (hw : wp_X3_lineOf p1 K) : JMi l g lay yX3_lineOf wsX3_lineOf rmX3_lineOf [.int p1] E0 (fun r E1 => E1 = E0 ∧ K r) := by
  refine Met.ofW (cc := cX3_lineOf) (maxL := 1) (ret := (some .int)) (by decide) rfl ?_
  intro p e s m args below meth c s₁ B hml hv
  obtain ⟨rfl, hK, hW⟩ := hv
  have hx := B.exec
  have hb := B.bytes
  have hr := B.returns
  have hts := gd_of (atoms_spec (ws := wsX3_lineOf) B.pre)
  have hown : s.vm.findClass RX3 = some m.cls := findClass_of_methodNamed B.named
  have hlocks := B.notSynchronized
  have hS : va_S (Ab g) s.heap s.heap [] := va_S.rf
  have hl := lv_entry [.int p1] (n := 1) (Nat.le_of_ble_eq_true rfl)
  rw [lg_entry_eq]
  generalize (lg_sl [.int p1] ++ List.replicate (1 - (lg_sl [.int p1]).length) Slot.unset).toArray = ls at hl ⊢
  have hl : lv_has ls 1 [(0, .int p1)] := hl
  unfold wp_X3_lineOf at hw
  refine lv_iload_n hx hb dX3_lineOf_0 rfl (lv_at hl 0 rfl) ?_
  refine w_csi (As := [.int p1]) (rest := []) hx hb hml hown hts hK hW hS hl.1 (c_X3_isDigit hw) (k_X3_35 hts ⟨Nat.le_of_ble_eq_true rfl, Nat.le_of_ble_eq_true rfl⟩) rfl rfl (Nat.le_of_ble_eq_true rfl) dX3_lineOf_1 ⟨Nat.zero_le _, Nat.zero_le _⟩ (fun r_1 Ez H locs hw2 hW hS => ?_)
  obtain ⟨ez, z_2, hw⟩ := hw2
  rw [ez] at hW
  refine lv_if_eq (tgt := 12) hx hb dX3_lineOf_4 (by decide) (fun c_3 => ?_) (fun c_3 => ?_)
  · have hw := hw.1 c_3
    refine lv_iload_n hx hb dX3_lineOf_12 rfl (lv_at hl 0 rfl) ?_
    refine lv_bipush (v := 97) hx hb dX3_lineOf_13 (by decide) ?_
    refine lv_bipush (v := 102) hx hb dX3_lineOf_15 (by decide) ?_
    refine w_csiN (As := [.int p1, .int 97, .int 102]) (rest := []) hx hb hml hown hts hK hW hS hl.1 (c_X4_isWithin hw) (k_X3_27 hK.2.1 hts ⟨Nat.le_of_ble_eq_true rfl, Nat.le_of_ble_eq_true rfl⟩) rfl rfl (Nat.le_of_ble_eq_true rfl) dX3_lineOf_17 ⟨Nat.zero_le _, Nat.zero_le _⟩ (fun r_4 Ez H locs hw2 hW hS => ?_)
    obtain ⟨ez, z_5, hw⟩ := hw2
    rw [ez] at hW
    refine lv_if_eq (tgt := 33) hx hb dX3_lineOf_20 (by decide) (fun c_6 => ?_) (fun c_6 => ?_)
    · have hw := hw.1 c_6
      refine lv_bipush (v := (-6)) hx hb dX3_lineOf_33 (by decide) ?_
      exact w_iret hx hb hr hlocks hW hS ⟨rfl, hw⟩ dX3_lineOf_35
    · have hw := hw.2 c_6
      refine lv_iload_n hx hb dX3_lineOf_23 rfl (lv_at hl 0 rfl) ?_
      refine lv_bipush (v := 97) hx hb dX3_lineOf_24 (by decide) ?_
      refine lv_isub hx hb dX3_lineOf_26 ?_
      refine lv_bipush (v := 10) hx hb dX3_lineOf_27 (by decide) ?_
      refine lv_iadd hx hb dX3_lineOf_29 ?_
      refine lv_goto (tgt := 35) hx hb dX3_lineOf_30 (by decide) ?_
      exact w_iret hx hb hr hlocks hW hS ⟨rfl, hw⟩ dX3_lineOf_35
  · have hw := hw.2 c_3
    refine lv_iload_n hx hb dX3_lineOf_7 rfl (lv_at hl 0 rfl) ?_
    refine lv_bipush (v := 48) hx hb dX3_lineOf_8 (by decide) ?_
    refine lv_isub hx hb dX3_lineOf_10 ?_
    exact w_iret hx hb hr hlocks hW hS ⟨rfl, hw⟩ dX3_lineOf_11
set_option maxHeartbeats 4000000 in
set_option maxRecDepth 100000 in
theorem c_X3_awaitedBehindComma {l : Launch} {g : GG} {lay : LY} {E0 : ES} {p1 : Int32} {K : Int32 → Prop} (hw : wp_X3_awaitedBehindComma p1 K) : JMi l g lay yX3_awaitedBehindComma wsX3_awaitedBehindComma rmX3_awaitedBehindComma [.int p1] E0 (fun r E1 => E1 = E0 ∧ K r) := by
  refine Met.ofW (cc := cX3_awaitedBehindComma) (maxL := 1) (ret := (some .int)) (by decide) rfl ?_
  intro p e s m args below meth c s₁ B hml hv
  obtain ⟨rfl, hK, hW⟩ := hv
  have hx := B.exec
  have hb := B.bytes
  have hr := B.returns
  have hts := gd_of (atoms_spec (ws := wsX3_awaitedBehindComma) B.pre)
  have hown : s.vm.findClass RX3 = some m.cls := findClass_of_methodNamed B.named
  have hlocks := B.notSynchronized
  have hS : va_S (Ab g) s.heap s.heap [] := va_S.rf
  have hl := lv_entry [.int p1] (n := 1) (Nat.le_of_ble_eq_true rfl)
  rw [lg_entry_eq]
  generalize (lg_sl [.int p1] ++ List.replicate (1 - (lg_sl [.int p1]).length) Slot.unset).toArray = ls at hl ⊢
  have hl : lv_has ls 1 [(0, .int p1)] := hl
  unfold wp_X3_awaitedBehindComma at hw
  refine lv_iload_n hx hb dX3_awaitedBehindComma_0 rfl (lv_at hl 0 rfl) ?_
  refine lv_bipush (v := 44) hx hb dX3_awaitedBehindComma_1 (by decide) ?_
  refine lv_icmp_ne (tgt := 10) hx hb dX3_awaitedBehindComma_3 (by decide) (fun c_1 => ?_) (fun c_1 => ?_)
  · have hw := hw.2 c_1
    refine lv_bipush (v := 8) hx hb dX3_awaitedBehindComma_10 (by decide) ?_
    exact w_iret hx hb hr hlocks hW hS ⟨rfl, hw⟩ dX3_awaitedBehindComma_12
  · have hw := hw.1 c_1
    refine lv_iconst (v := 0) hx hb dX3_awaitedBehindComma_6 (by decide) ?_
    refine lv_goto (tgt := 12) hx hb dX3_awaitedBehindComma_7 (by decide) ?_
    exact w_iret hx hb hr hlocks hW hS ⟨rfl, hw⟩ dX3_awaitedBehindComma_12
set_option maxHeartbeats 4000000 in
set_option maxRecDepth 100000 in
theorem c_X3_awaitedBehind {l : Launch} {g : GG} {lay : LY} {E0 : ES} {p1 : Int32} {p2 : Int32} {p3 : Int32} {K : Int32 → Prop} (hw : wp_X3_awaitedBehind p1 p2 p3 K) : JMi l g lay yX3_awaitedBehind wsX3_awaitedBehind rmX3_awaitedBehind [.int p1, .int p2, .int p3] E0 (fun r E1 => E1 = E0 ∧ K r) := by
  refine Met.ofW (cc := cX3_awaitedBehind) (maxL := 3) (ret := (some .int)) (by decide) rfl ?_
  intro p e s m args below meth c s₁ B hml hv
  obtain ⟨rfl, hK, hW⟩ := hv
  have hx := B.exec
  have hb := B.bytes
  have hr := B.returns
  have hts := gd_of (atoms_spec (ws := wsX3_awaitedBehind) B.pre)
  have hown : s.vm.findClass RX3 = some m.cls := findClass_of_methodNamed B.named
  have hlocks := B.notSynchronized
  have hS : va_S (Ab g) s.heap s.heap [] := va_S.rf
  have hl := lv_entry [.int p1, .int p2, .int p3] (n := 3) (Nat.le_of_ble_eq_true rfl)
  rw [lg_entry_eq]
  generalize (lg_sl [.int p1, .int p2, .int p3] ++ List.replicate (3 - (lg_sl [.int p1, .int p2, .int p3]).length) Slot.unset).toArray = ls at hl ⊢
  have hl : lv_has ls 3 [(0, .int p1), (1, .int p2), (2, .int p3)] := hl
  unfold wp_X3_awaitedBehind at hw
  refine lv_iload_n hx hb dX3_awaitedBehind_0 rfl (lv_at hl 0 rfl) ?_
  by_cases c_1 : p1 = 0
  · have hw := hw.1 c_1
    refine lv_tableIn (tgt := 44) hx hb dX3_awaitedBehind_1 (by rw [c_1]; decide) (by rw [c_1]; decide) (by rw [c_1] <;> rfl) (by decide) ?_
    refine lv_iload_n hx hb dX3_awaitedBehind_44 rfl (lv_at hl 1 rfl) ?_
    refine w_csi (As := [.int p2]) (rest := []) hx hb hml hown hts hK hW hS hl.1 (c_X3_awaitedBehindLetter hw) (k_X3_43 hts ⟨Nat.le_of_ble_eq_true rfl, Nat.le_of_ble_eq_true rfl⟩) rfl rfl (Nat.le_of_ble_eq_true rfl) dX3_awaitedBehind_45 ⟨Nat.zero_le _, Nat.zero_le _⟩ (fun r_2 Ez H locs hw2 hW hS => ?_)
    obtain ⟨ez, hw⟩ := hw2
    rw [ez] at hW
    exact w_iret hx hb hr hlocks hW hS ⟨rfl, hw⟩ dX3_awaitedBehind_48
  · have hw := hw.2 c_1
    by_cases c_3 : p1 = 1
    · have hw := hw.1 c_3
      refine lv_tableIn (tgt := 49) hx hb dX3_awaitedBehind_1 (by rw [c_3]; decide) (by rw [c_3]; decide) (by rw [c_3] <;> rfl) (by decide) ?_
      refine lv_iload_n hx hb dX3_awaitedBehind_49 rfl (lv_at hl 1 rfl) ?_
      refine w_csi (As := [.int p2]) (rest := []) hx hb hml hown hts hK hW hS hl.1 (c_X3_lineOf hw) (k_X3_46 hts ⟨Nat.le_of_ble_eq_true rfl, Nat.le_of_ble_eq_true rfl⟩) rfl rfl (Nat.le_of_ble_eq_true rfl) dX3_awaitedBehind_50 ⟨Nat.zero_le _, Nat.zero_le _⟩ (fun r_4 Ez H locs hw2 hW hS => ?_)
      obtain ⟨ez, hw⟩ := hw2
      rw [ez] at hW
      refine lv_bipush (v := (-6)) hx hb dX3_awaitedBehind_53 (by decide) ?_
      refine lv_icmp_ne (tgt := 63) hx hb dX3_awaitedBehind_55 (by decide) (fun c_5 => ?_) (fun c_5 => ?_)
      · have hw := hw.2 c_5
        refine lv_bipush (v := 7) hx hb dX3_awaitedBehind_63 (by decide) ?_
        exact w_iret hx hb hr hlocks hW hS ⟨rfl, hw⟩ dX3_awaitedBehind_65
      · have hw := hw.1 c_5
        refine lv_bipush (v := 8) hx hb dX3_awaitedBehind_58 (by decide) ?_
        refine lv_goto (tgt := 65) hx hb dX3_awaitedBehind_60 (by decide) ?_
        exact w_iret hx hb hr hlocks hW hS ⟨rfl, hw⟩ dX3_awaitedBehind_65
    · have hw := hw.2 c_3
      by_cases c_6 : p1 = 2
      · have hw := hw.1 c_6
        refine lv_tableIn (tgt := 66) hx hb dX3_awaitedBehind_1 (by rw [c_6]; decide) (by rw [c_6]; decide) (by rw [c_6] <;> rfl) (by decide) ?_
        refine lv_iload_n hx hb dX3_awaitedBehind_66 rfl (lv_at hl 1 rfl) ?_
        refine w_csi (As := [.int p2]) (rest := []) hx hb hml hown hts hK hW hS hl.1 (c_X3_lineOf hw) (k_X3_46 hts ⟨Nat.le_of_ble_eq_true rfl, Nat.le_of_ble_eq_true rfl⟩) rfl rfl (Nat.le_of_ble_eq_true rfl) dX3_awaitedBehind_67 ⟨Nat.zero_le _, Nat.zero_le _⟩ (fun r_7 Ez H locs hw2 hW hS => ?_)
        obtain ⟨ez, hw⟩ := hw2
        rw [ez] at hW
        refine lv_bipush (v := (-6)) hx hb dX3_awaitedBehind_70 (by decide) ?_
        refine lv_icmp_ne (tgt := 80) hx hb dX3_awaitedBehind_72 (by decide) (fun c_8 => ?_) (fun c_8 => ?_)
        · have hw := hw.2 c_8
          refine lv_iconst (v := 3) hx hb dX3_awaitedBehind_80 (by decide) ?_
          exact w_iret hx hb hr hlocks hW hS ⟨rfl, hw⟩ dX3_awaitedBehind_81
        · have hw := hw.1 c_8
          refine lv_bipush (v := 8) hx hb dX3_awaitedBehind_75 (by decide) ?_
          refine lv_goto (tgt := 81) hx hb dX3_awaitedBehind_77 (by decide) ?_
          exact w_iret hx hb hr hlocks hW hS ⟨rfl, hw⟩ dX3_awaitedBehind_81
      · have hw := hw.2 c_6
        by_cases c_9 : p1 = 3
        · have hw := hw.1 c_9
          refine lv_tableIn (tgt := 82) hx hb dX3_awaitedBehind_1 (by rw [c_9]; decide) (by rw [c_9]; decide) (by rw [c_9] <;> rfl) (by decide) ?_
          refine lv_iload_n hx hb dX3_awaitedBehind_82 rfl (lv_at hl 1 rfl) ?_
          refine w_csi (As := [.int p2]) (rest := []) hx hb hml hown hts hK hW hS hl.1 (c_X3_isDigit hw) (k_X3_35 hts ⟨Nat.le_of_ble_eq_true rfl, Nat.le_of_ble_eq_true rfl⟩) rfl rfl (Nat.le_of_ble_eq_true rfl) dX3_awaitedBehind_83 ⟨Nat.zero_le _, Nat.zero_le _⟩ (fun r_10 Ez H locs hw2 hW hS => ?_)
          obtain ⟨ez, z_11, hw⟩ := hw2
          rw [ez] at hW
          refine lv_if_eq (tgt := 93) hx hb dX3_awaitedBehind_86 (by decide) (fun c_12 => ?_) (fun c_12 => ?_)
          · have hw := hw.1 c_12
            refine lv_bipush (v := 8) hx hb dX3_awaitedBehind_93 (by decide) ?_
            exact w_iret hx hb hr hlocks hW hS ⟨rfl, hw⟩ dX3_awaitedBehind_95
          · have hw := hw.2 c_12
            refine lv_iconst (v := 4) hx hb dX3_awaitedBehind_89 (by decide) ?_
            refine lv_goto (tgt := 95) hx hb dX3_awaitedBehind_90 (by decide) ?_
            exact w_iret hx hb hr hlocks hW hS ⟨rfl, hw⟩ dX3_awaitedBehind_95
        · have hw := hw.2 c_9
          by_cases c_13 : p1 = 4
          · have hw := hw.1 c_13
            refine lv_tableIn (tgt := 96) hx hb dX3_awaitedBehind_1 (by rw [c_13]; decide) (by rw [c_13]; decide) (by rw [c_13] <;> rfl) (by decide) ?_
            refine lv_iload_n hx hb dX3_awaitedBehind_96 rfl (lv_at hl 1 rfl) ?_
            refine w_csi (As := [.int p2]) (rest := []) hx hb hml hown hts hK hW hS hl.1 (c_X3_isDigit hw) (k_X3_35 hts ⟨Nat.le_of_ble_eq_true rfl, Nat.le_of_ble_eq_true rfl⟩) rfl rfl (Nat.le_of_ble_eq_true rfl) dX3_awaitedBehind_97 ⟨Nat.zero_le _, Nat.zero_le _⟩ (fun r_14 Ez H locs hw2 hW hS => ?_)
            obtain ⟨ez, z_15, hw⟩ := hw2
            rw [ez] at hW
            refine lv_if_eq (tgt := 107) hx hb dX3_awaitedBehind_100 (by decide) (fun c_16 => ?_) (fun c_16 => ?_)
            · have hw := hw.1 c_16
              refine lv_iload_n hx hb dX3_awaitedBehind_107 rfl (lv_at hl 1 rfl) ?_
              refine w_csi (As := [.int p2]) (rest := []) hx hb hml hown hts hK hW hS hl.1 (c_X3_awaitedBehindComma hw) (k_X3_49 hts ⟨Nat.le_of_ble_eq_true rfl, Nat.le_of_ble_eq_true rfl⟩) rfl rfl (Nat.le_of_ble_eq_true rfl) dX3_awaitedBehind_108 ⟨Nat.zero_le _, Nat.zero_le _⟩ (fun r_17 Ez H locs hw2 hW hS => ?_)
              obtain ⟨ez, hw⟩ := hw2
              rw [ez] at hW
              exact w_iret hx hb hr hlocks hW hS ⟨rfl, hw⟩ dX3_awaitedBehind_111
            · have hw := hw.2 c_16
              refine lv_iconst (v := 4) hx hb dX3_awaitedBehind_103 (by decide) ?_
              refine lv_goto (tgt := 111) hx hb dX3_awaitedBehind_104 (by decide) ?_
              exact w_iret hx hb hr hlocks hW hS ⟨rfl, hw⟩ dX3_awaitedBehind_111
          · have hw := hw.2 c_13
            by_cases c_18 : p1 = 5
            · have hw := hw.1 c_18
              refine lv_tableIn (tgt := 112) hx hb dX3_awaitedBehind_1 (by rw [c_18]; decide) (by rw [c_18]; decide) (by rw [c_18] <;> rfl) (by decide) ?_
              refine lv_iload_n hx hb dX3_awaitedBehind_112 rfl (lv_at hl 2 rfl) ?_
              refine lv_iconst (v := 1) hx hb dX3_awaitedBehind_113 (by decide) ?_
              refine lv_sipush (v := 200) hx hb dX3_awaitedBehind_114 (by decide) ?_
              refine w_csiN (As := [.int p3, .int 1, .int 200]) (rest := []) hx hb hml hown hts hK hW hS hl.1 (c_X4_isWithin hw) (k_X3_27 hK.2.1 hts ⟨Nat.le_of_ble_eq_true rfl, Nat.le_of_ble_eq_true rfl⟩) rfl rfl (Nat.le_of_ble_eq_true rfl) dX3_awaitedBehind_117 ⟨Nat.zero_le _, Nat.zero_le _⟩ (fun r_19 Ez H locs hw2 hW hS => ?_)
              obtain ⟨ez, z_20, hw⟩ := hw2
              rw [ez] at hW
              refine lv_if_eq (tgt := 128) hx hb dX3_awaitedBehind_120 (by decide) (fun c_21 => ?_) (fun c_21 => ?_)
              · have hw := hw.1 c_21
                refine lv_bipush (v := 8) hx hb dX3_awaitedBehind_128 (by decide) ?_
                exact w_iret hx hb hr hlocks hW hS ⟨rfl, hw⟩ dX3_awaitedBehind_130
              · have hw := hw.2 c_21
                refine lv_bipush (v := 6) hx hb dX3_awaitedBehind_123 (by decide) ?_
                refine lv_goto (tgt := 130) hx hb dX3_awaitedBehind_125 (by decide) ?_
                exact w_iret hx hb hr hlocks hW hS ⟨rfl, hw⟩ dX3_awaitedBehind_130
            · have hw := hw.2 c_18
              by_cases c_22 : p1 = 6
              · have hw := hw.1 c_22
                refine lv_tableIn (tgt := 131) hx hb dX3_awaitedBehind_1 (by rw [c_22]; decide) (by rw [c_22]; decide) (by rw [c_22] <;> rfl) (by decide) ?_
                refine lv_iload_n hx hb dX3_awaitedBehind_131 rfl (lv_at hl 2 rfl) ?_
                refine lv_iconst (v := 1) hx hb dX3_awaitedBehind_132 (by decide) ?_
                refine lv_sipush (v := 200) hx hb dX3_awaitedBehind_133 (by decide) ?_
                refine w_csiN (As := [.int p3, .int 1, .int 200]) (rest := []) hx hb hml hown hts hK hW hS hl.1 (c_X4_isWithin hw) (k_X3_27 hK.2.1 hts ⟨Nat.le_of_ble_eq_true rfl, Nat.le_of_ble_eq_true rfl⟩) rfl rfl (Nat.le_of_ble_eq_true rfl) dX3_awaitedBehind_136 ⟨Nat.zero_le _, Nat.zero_le _⟩ (fun r_23 Ez H locs hw2 hW hS => ?_)
                obtain ⟨ez, z_24, hw⟩ := hw2
                rw [ez] at hW
                refine lv_if_eq (tgt := 147) hx hb dX3_awaitedBehind_139 (by decide) (fun c_25 => ?_) (fun c_25 => ?_)
                · have hw := hw.1 c_25
                  refine lv_iload_n hx hb dX3_awaitedBehind_147 rfl (lv_at hl 1 rfl) ?_
                  refine w_csi (As := [.int p2]) (rest := []) hx hb hml hown hts hK hW hS hl.1 (c_X3_awaitedBehindComma hw) (k_X3_49 hts ⟨Nat.le_of_ble_eq_true rfl, Nat.le_of_ble_eq_true rfl⟩) rfl rfl (Nat.le_of_ble_eq_true rfl) dX3_awaitedBehind_148 ⟨Nat.zero_le _, Nat.zero_le _⟩ (fun r_26 Ez H locs hw2 hW hS => ?_)
                  obtain ⟨ez, hw⟩ := hw2
                  rw [ez] at hW
                  exact w_iret hx hb hr hlocks hW hS ⟨rfl, hw⟩ dX3_awaitedBehind_151
                · have hw := hw.2 c_25
                  refine lv_bipush (v := 6) hx hb dX3_awaitedBehind_142 (by decide) ?_
                  refine lv_goto (tgt := 151) hx hb dX3_awaitedBehind_144 (by decide) ?_
                  exact w_iret hx hb hr hlocks hW hS ⟨rfl, hw⟩ dX3_awaitedBehind_151
              · have hw := hw.2 c_22
                refine lv_tableOut (tgt := 152) hx hb dX3_awaitedBehind_1 (by have zc_1 := lv_neT (a := 0) c_1 rfl; have zc_3 := lv_neT (a := 1) c_3 rfl; have zc_6 := lv_neT (a := 2) c_6 rfl; have zc_9 := lv_neT (a := 3) c_9 rfl; have zc_13 := lv_neT (a := 4) c_13 rfl; have zc_18 := lv_neT (a := 5) c_18 rfl; have zc_22 := lv_neT (a := 6) c_22 rfl; omega) (by decide) ?_
                refine lv_iload_n hx hb dX3_awaitedBehind_152 rfl (lv_at hl 1 rfl) ?_
                refine w_csi (As := [.int p2]) (rest := []) hx hb hml hown hts hK hW hS hl.1 (c_X3_awaitedBehindComma hw) (k_X3_49 hts ⟨Nat.le_of_ble_eq_true rfl, Nat.le_of_ble_eq_true rfl⟩) rfl rfl (Nat.le_of_ble_eq_true rfl) dX3_awaitedBehind_153 ⟨Nat.zero_le _, Nat.zero_le _⟩ (fun r_27 Ez H locs hw2 hW hS => ?_)
                obtain ⟨ez, hw⟩ := hw2
                rw [ez] at hW
                exact w_iret hx hb hr hlocks hW hS ⟨rfl, hw⟩ dX3_awaitedBehind_156
set_option maxHeartbeats 4000000 in
set_option maxRecDepth 100000 in
theorem c_X3_firstFault {l : Launch} {g : GG} {lay : LY} {E0 : ES} {o : Nat} {X : ES} {K : Int32 → Prop} (hA : okL g lay) (HB : PL g lay o) (hX : ∀ k, k < 2 → E0 (o + k) = X k) (hw : wp_X3_firstFault X K) : JMi l g lay yX3_firstFault wsX3_firstFault rmX3_firstFault [.ref o] E0 (fun r E1 => E1 = E0 ∧ K r) := by
  refine Met.ofW (cc := cX3_firstFault) (maxL := 5) (ret := (some .int)) (by decide) rfl ?_
  intro p e s m args below meth c s₁ B hml hv
  obtain ⟨rfl, hK, hW⟩ := hv
  have hx := B.exec
  have hb := B.bytes
  have hr := B.returns
  have hts := gd_of (atoms_spec (ws := wsX3_firstFault) B.pre)
  have hown : s.vm.findClass RX3 = some m.cls := findClass_of_methodNamed B.named
  have hlocks := B.notSynchronized
  have hS : va_S (Ab g) s.heap s.heap [] := va_S.rf
  have hl := lv_entry [.ref o] (n := 5) (Nat.le_of_ble_eq_true rfl)
  rw [lg_entry_eq]
  generalize (lg_sl [.ref o] ++ List.replicate (5 - (lg_sl [.ref o]).length) Slot.unset).toArray = ls at hl ⊢
  have hl : lv_has ls 5 [(0, .ref o)] := hl
  unfold wp_X3_firstFault at hw
  refine lv_iconst (v := 0) hx hb dX3_firstFault_0 (by decide) ?_
  refine lv_istore_n (lv' := [(1, .int 0), (0, .ref o)]) hx hb dX3_firstFault_1 rfl hl (by decide) rfl (fun ls hl => ?_)
  refine lv_iconst (v := 0) hx hb dX3_firstFault_2 (by decide) ?_
  refine lv_istore_n (lv' := [(2, .int 0), (1, .int 0), (0, .ref o)]) hx hb dX3_firstFault_3 rfl hl (by decide) rfl (fun ls hl => ?_)
  refine lv_iconst (v := 0) hx hb dX3_firstFault_4 (by decide) ?_
  refine lv_istore_n (lv' := [(3, .int 0), (2, .int 0), (1, .int 0), (0, .ref o)]) hx hb dX3_firstFault_5 rfl hl (by decide) rfl (fun ls hl => ?_)
  obtain ⟨n_40, hw⟩ := hw
  refine w_loop (KT := Int32 → Int32 → Int32 → Prop) (σ := Int32 × Int32 × Int32) (Wl := fun Kx_6 n_6 q => wpl_X3_firstFault_6 X K Kx_6 n_6 q.1 q.2.1 q.2.2) (Pw := fun q => Wd g lay (E0)) (lvf := fun q => [(0, .ref o), (1, .int q.1), (2, .int q.2.1), (3, .int q.2.2)]) (nL := 5) n_40 (0, 0, 0) hw hW hS (lv_sub hl [3, 2, 1, 0] rfl) (fun _ h => h) (fun Kx_6 eK_6 n_6 q H locs ls hw hW hS hl ih_6 => ?_)
  obtain ⟨i_1, i_2, i_3⟩ := q
  try dsimp only at hw
  rw [wpl_X3_firstFault_6] at hw
  have hl : lv_has ls 5 [(0, .ref o), (1, .int i_1), (2, .int i_2), (3, .int i_3)] := hl
  have hW : Wd g lay (E0) H := hW
  refine lv_iload_n hx hb dX3_firstFault_6 rfl (lv_at hl 3 rfl) ?_
  refine lv_aload_n hx hb dX3_firstFault_7 rfl (lv_at hl 0 rfl) ?_
  refine g_X3_15 hx hb hown hts hK hW HB.1 (hX 0 (by decide)) dX3_firstFault_8 ?_
  refine lv_icmp_ge (tgt := 66) hx hb dX3_firstFault_11 (by decide) (fun c_25 => ?_) (fun c_25 => ?_)
  · have hw := hw.1 c_25
    rw [eK_6] at hw
    refine lv_iload_n hx hb dX3_firstFault_66 rfl (lv_at hl 1 rfl) ?_
    refine lv_bipush (v := 7) hx hb dX3_firstFault_67 (by decide) ?_
    refine lv_icmp_eq (tgt := 83) hx hb dX3_firstFault_69 (by decide) (fun c_26 => ?_) (fun c_26 => ?_)
    · have hw := hw.1 c_26
      refine lv_iconst (v := 1) hx hb dX3_firstFault_83 (by decide) ?_
      refine lv_goto (tgt := 88) hx hb dX3_firstFault_84 (by decide) ?_
      refine lv_istore_n (lv' := [(3, .int 1), (0, .ref o), (1, .int i_1), (2, .int i_2)]) hx hb dX3_firstFault_88 rfl hl (by decide) rfl (fun ls hl => ?_)
      refine lv_iload_n hx hb dX3_firstFault_89 rfl (lv_at hl 0 rfl) ?_
      refine lv_if_eq (tgt := 98) hx hb dX3_firstFault_90 (by decide) (fun cz => absurd cz (by decide)) (fun _ => ?_)
      refine lv_bipush (v := (-6)) hx hb dX3_firstFault_93 (by decide) ?_
      refine lv_goto (tgt := 102) hx hb dX3_firstFault_95 (by decide) ?_
      exact w_iret hx hb hr hlocks hW hS ⟨rfl, hw⟩ dX3_firstFault_102
    · have hw := hw.2 c_26
      refine lv_iload_n hx hb dX3_firstFault_72 rfl (lv_at hl 1 rfl) ?_
      refine lv_iconst (v := 4) hx hb dX3_firstFault_73 (by decide) ?_
      refine lv_icmp_eq (tgt := 83) hx hb dX3_firstFault_74 (by decide) (fun c_27 => ?_) (fun c_27 => ?_)
      · have hw := hw.1 c_27
        refine lv_iconst (v := 1) hx hb dX3_firstFault_83 (by decide) ?_
        refine lv_goto (tgt := 88) hx hb dX3_firstFault_84 (by decide) ?_
        refine lv_istore_n (lv' := [(3, .int 1), (0, .ref o), (1, .int i_1), (2, .int i_2)]) hx hb dX3_firstFault_88 rfl hl (by decide) rfl (fun ls hl => ?_)
        refine lv_iload_n hx hb dX3_firstFault_89 rfl (lv_at hl 0 rfl) ?_
        refine lv_if_eq (tgt := 98) hx hb dX3_firstFault_90 (by decide) (fun cz => absurd cz (by decide)) (fun _ => ?_)
        refine lv_bipush (v := (-6)) hx hb dX3_firstFault_93 (by decide) ?_
        refine lv_goto (tgt := 102) hx hb dX3_firstFault_95 (by decide) ?_
        exact w_iret hx hb hr hlocks hW hS ⟨rfl, hw⟩ dX3_firstFault_102
      · have hw := hw.2 c_27
        refine lv_iload_n hx hb dX3_firstFault_77 rfl (lv_at hl 1 rfl) ?_
        refine lv_bipush (v := 6) hx hb dX3_firstFault_78 (by decide) ?_
        refine lv_icmp_ne (tgt := 87) hx hb dX3_firstFault_80 (by decide) (fun c_28 => ?_) (fun c_28 => ?_)
        · have hw := hw.2 c_28
          refine lv_iconst (v := 0) hx hb dX3_firstFault_87 (by decide) ?_
          refine lv_istore_n (lv' := [(3, .int 0), (0, .ref o), (1, .int i_1), (2, .int i_2)]) hx hb dX3_firstFault_88 rfl hl (by decide) rfl (fun ls hl => ?_)
          refine lv_iload_n hx hb dX3_firstFault_89 rfl (lv_at hl 0 rfl) ?_
          refine lv_if_eq (tgt := 98) hx hb dX3_firstFault_90 (by decide) (fun _ => ?_) (fun cz => absurd cz (by decide))
          refine lv_aload_n hx hb dX3_firstFault_98 rfl (lv_at hl 1 rfl) ?_
          refine g_X3_15 hx hb hown hts hK hW HB.1 (hX 0 (by decide)) dX3_firstFault_99 ?_
          exact w_iret hx hb hr hlocks hW hS ⟨rfl, hw⟩ dX3_firstFault_102
        · have hw := hw.1 c_28
          refine lv_iconst (v := 1) hx hb dX3_firstFault_83 (by decide) ?_
          refine lv_goto (tgt := 88) hx hb dX3_firstFault_84 (by decide) ?_
          refine lv_istore_n (lv' := [(3, .int 1), (0, .ref o), (1, .int i_1), (2, .int i_2)]) hx hb dX3_firstFault_88 rfl hl (by decide) rfl (fun ls hl => ?_)
          refine lv_iload_n hx hb dX3_firstFault_89 rfl (lv_at hl 0 rfl) ?_
          refine lv_if_eq (tgt := 98) hx hb dX3_firstFault_90 (by decide) (fun cz => absurd cz (by decide)) (fun _ => ?_)
          refine lv_bipush (v := (-6)) hx hb dX3_firstFault_93 (by decide) ?_
          refine lv_goto (tgt := 102) hx hb dX3_firstFault_95 (by decide) ?_
          exact w_iret hx hb hr hlocks hW hS ⟨rfl, hw⟩ dX3_firstFault_102
  · have hw := hw.2 c_25
    refine lv_aload_n hx hb dX3_firstFault_14 rfl (lv_at hl 0 rfl) ?_
    refine lv_iload_n hx hb dX3_firstFault_15 rfl (lv_at hl 3 rfl) ?_
    refine w_cvi (As := [.int i_3]) (rest := []) hx hb hml hown hts hK hW hS hl.1 (c_X3_codeAt hA HB hX  hw) (k_X3_31 hts ⟨Nat.le_of_ble_eq_true rfl, Nat.le_of_ble_eq_true rfl⟩) (w_recv hK hW HB.1 (hX 0 (by decide)) rfl rfl) rfl rfl (Nat.le_of_ble_eq_true rfl) dX3_firstFault_16 ⟨Nat.zero_le _, Nat.zero_le _⟩ (fun r_29 Ez H locs hw2 hW hS => ?_)
    obtain ⟨ez, hw⟩ := hw2
    rw [ez] at hW
    refine lv_istore (lv' := [(4, .int r_29), (0, .ref o), (1, .int i_1), (2, .int i_2), (3, .int i_3)]) hx hb dX3_firstFault_19 hl (by decide) rfl (fun ls hl => ?_)
    refine lv_iload hx hb dX3_firstFault_21 (lv_at hl 0 rfl) ?_
    refine w_csi (As := [.int r_29]) (rest := []) hx hb hml hown hts hK hW hS hl.1 (c_X3_isDigit hw) (k_X3_35 hts ⟨Nat.le_of_ble_eq_true rfl, Nat.le_of_ble_eq_true rfl⟩) rfl rfl (Nat.le_of_ble_eq_true rfl) dX3_firstFault_23 ⟨Nat.zero_le _, Nat.zero_le _⟩ (fun r_30 Ez H locs hw2 hW hS => ?_)
    obtain ⟨ez, z_31, hw⟩ := hw2
    rw [ez] at hW
    refine lv_if_eq (tgt := 42) hx hb dX3_firstFault_26 (by decide) (fun c_32 => ?_) (fun c_32 => ?_)
    · have hw := hw.1 c_32
      refine lv_iconst (v := 0) hx hb dX3_firstFault_42 (by decide) ?_
      refine lv_istore_n (lv' := [(2, .int 0), (4, .int r_29), (0, .ref o), (1, .int i_1), (3, .int i_3)]) hx hb dX3_firstFault_43 rfl hl (by decide) rfl (fun ls hl => ?_)
      refine lv_iload_n hx hb dX3_firstFault_44 rfl (lv_at hl 3 rfl) ?_
      refine lv_iload hx hb dX3_firstFault_45 (lv_at hl 1 rfl) ?_
      refine lv_iload_n hx hb dX3_firstFault_47 rfl (lv_at hl 0 rfl) ?_
      refine w_csi (As := [.int i_1, .int r_29, .int 0]) (rest := []) hx hb hml hown hts hK hW hS hl.1 (c_X3_awaitedBehind hw) (k_X3_39 hts ⟨Nat.le_of_ble_eq_true rfl, Nat.le_of_ble_eq_true rfl⟩) rfl rfl (Nat.le_of_ble_eq_true rfl) dX3_firstFault_48 ⟨Nat.zero_le _, Nat.zero_le _⟩ (fun r_33 Ez H locs hw2 hW hS => ?_)
      obtain ⟨ez, hw⟩ := hw2
      rw [ez] at hW
      refine lv_istore_n (lv' := [(1, .int r_33), (2, .int 0), (4, .int r_29), (0, .ref o), (3, .int i_3)]) hx hb dX3_firstFault_51 rfl hl (by decide) rfl (fun ls hl => ?_)
      refine lv_iload_n hx hb dX3_firstFault_52 rfl (lv_at hl 0 rfl) ?_
      refine lv_bipush (v := 8) hx hb dX3_firstFault_53 (by decide) ?_
      refine lv_icmp_ne (tgt := 60) hx hb dX3_firstFault_55 (by decide) (fun c_34 => ?_) (fun c_34 => ?_)
      · have hw := hw.2 c_34
        obtain ⟨v_35, ev_35⟩ : ∃ z : Int32, z = i_3 + 1 := ⟨_, rfl⟩
        have hw := hw v_35 ev_35
        refine lv_iinc (v := v_35) (lv' := [(3, .int v_35), (1, .int r_33), (2, .int 0), (4, .int r_29), (0, .ref o)]) hx hb dX3_firstFault_60 hl (k := 4) rfl (by rw [ev_35]; rfl) (by decide) rfl (fun ls hl => ?_)
        refine lv_goto (tgt := 6) hx hb dX3_firstFault_63 (by decide) ?_
        exact ih_6 (r_33, 0, v_35) _ _ _ hw hW hS (lv_sub hl [4, 1, 2, 0] rfl)
      · have hw := hw.1 c_34
        refine lv_iload_n hx hb dX3_firstFault_58 rfl (lv_at hl 4 rfl) ?_
        exact w_iret hx hb hr hlocks hW hS ⟨rfl, hw⟩ dX3_firstFault_59
    · have hw := hw.2 c_32
      refine lv_bipush (v := 10) hx hb dX3_firstFault_29 (by decide) ?_
      refine lv_iload_n hx hb dX3_firstFault_31 rfl (lv_at hl 3 rfl) ?_
      refine lv_imul hx hb dX3_firstFault_32 ?_
      refine lv_iload hx hb dX3_firstFault_33 (lv_at hl 0 rfl) ?_
      refine lv_iadd hx hb dX3_firstFault_35 ?_
      refine lv_bipush (v := 48) hx hb dX3_firstFault_36 (by decide) ?_
      refine lv_isub hx hb dX3_firstFault_38 ?_
      refine lv_goto (tgt := 43) hx hb dX3_firstFault_39 (by decide) ?_
      refine lv_topi (fun v_36 ev_36 => ?_)
      have hw := hw v_36 ev_36
      refine lv_istore_n (lv' := [(2, .int v_36), (4, .int r_29), (0, .ref o), (1, .int i_1), (3, .int i_3)]) hx hb dX3_firstFault_43 rfl hl (by decide) rfl (fun ls hl => ?_)
      refine lv_iload_n hx hb dX3_firstFault_44 rfl (lv_at hl 3 rfl) ?_
      refine lv_iload hx hb dX3_firstFault_45 (lv_at hl 1 rfl) ?_
      refine lv_iload_n hx hb dX3_firstFault_47 rfl (lv_at hl 0 rfl) ?_
      refine w_csi (As := [.int i_1, .int r_29, .int v_36]) (rest := []) hx hb hml hown hts hK hW hS hl.1 (c_X3_awaitedBehind hw) (k_X3_39 hts ⟨Nat.le_of_ble_eq_true rfl, Nat.le_of_ble_eq_true rfl⟩) rfl rfl (Nat.le_of_ble_eq_true rfl) dX3_firstFault_48 ⟨Nat.zero_le _, Nat.zero_le _⟩ (fun r_37 Ez H locs hw2 hW hS => ?_)
      obtain ⟨ez, hw⟩ := hw2
      rw [ez] at hW
      refine lv_istore_n (lv' := [(1, .int r_37), (2, .int v_36), (4, .int r_29), (0, .ref o), (3, .int i_3)]) hx hb dX3_firstFault_51 rfl hl (by decide) rfl (fun ls hl => ?_)
      refine lv_iload_n hx hb dX3_firstFault_52 rfl (lv_at hl 0 rfl) ?_
      refine lv_bipush (v := 8) hx hb dX3_firstFault_53 (by decide) ?_
      refine lv_icmp_ne (tgt := 60) hx hb dX3_firstFault_55 (by decide) (fun c_38 => ?_) (fun c_38 => ?_)
      · have hw := hw.2 c_38
        obtain ⟨v_39, ev_39⟩ : ∃ z : Int32, z = i_3 + 1 := ⟨_, rfl⟩
        have hw := hw v_39 ev_39
        refine lv_iinc (v := v_39) (lv' := [(3, .int v_39), (1, .int r_37), (2, .int v_36), (4, .int r_29), (0, .ref o)]) hx hb dX3_firstFault_60 hl (k := 4) rfl (by rw [ev_39]; rfl) (by decide) rfl (fun ls hl => ?_)
        refine lv_goto (tgt := 6) hx hb dX3_firstFault_63 (by decide) ?_
        exact ih_6 (r_37, v_36, v_39) _ _ _ hw hW hS (lv_sub hl [4, 1, 2, 0] rfl)
      · have hw := hw.1 c_38
        refine lv_iload_n hx hb dX3_firstFault_58 rfl (lv_at hl 4 rfl) ?_
        exact w_iret hx hb hr hlocks hW hS ⟨rfl, hw⟩ dX3_firstFault_59
set_option maxHeartbeats 4000000 in
set_option maxRecDepth 100000 in
theorem c_X3_beginsAnAct {l : Launch} {g : GG} {lay : LY} {E0 : ES} {o : Nat} {X : ES} {p1 : Int32} {K : Int32 → Prop} (hA : okL g lay) (HB : PL g lay o) (hX : ∀ k, k < 2 → E0 (o + k) = X k) (hw : wp_X3_beginsAnAct X p1 K) : JMi l g lay yX3_beginsAnAct wsX3_beginsAnAct rmX3_beginsAnAct [.ref o, .int p1] E0 (fun r E1 => E1 = E0 ∧ (r = 0 ∨ r = 1) ∧ K r) := by
  refine Met.ofW (cc := cX3_beginsAnAct) (maxL := 2) (ret := (some .boolean)) (by decide) rfl ?_
  intro p e s m args below meth c s₁ B hml hv
  obtain ⟨rfl, hK, hW⟩ := hv
  have hx := B.exec
  have hb := B.bytes
  have hr := B.returns
  have hts := gd_of (atoms_spec (ws := wsX3_beginsAnAct) B.pre)
  have hown : s.vm.findClass RX3 = some m.cls := findClass_of_methodNamed B.named
  have hlocks := B.notSynchronized
  have hS : va_S (Ab g) s.heap s.heap [] := va_S.rf
  have hl := lv_entry [.ref o, .int p1] (n := 2) (Nat.le_of_ble_eq_true rfl)
  rw [lg_entry_eq]
  generalize (lg_sl [.ref o, .int p1] ++ List.replicate (2 - (lg_sl [.ref o, .int p1]).length) Slot.unset).toArray = ls at hl ⊢
  have hl : lv_has ls 2 [(0, .ref o), (1, .int p1)] := hl
  unfold wp_X3_beginsAnAct at hw
  refine lv_iload_n hx hb dX3_beginsAnAct_0 rfl (lv_at hl 1 rfl) ?_
  refine lv_if_eq (tgt := 16) hx hb dX3_beginsAnAct_1 (by decide) (fun c_1 => ?_) (fun c_1 => ?_)
  · have hw := hw.1 c_1
    refine lv_iconst (v := 1) hx hb dX3_beginsAnAct_16 (by decide) ?_
    refine lv_goto (tgt := 21) hx hb dX3_beginsAnAct_17 (by decide) ?_
    exact w_zret hx hb hr hlocks hW hS (Or.inr rfl) ⟨rfl, (Or.inr rfl), hw⟩ dX3_beginsAnAct_21
  · have hw := hw.2 c_1
    refine lv_aload_n hx hb dX3_beginsAnAct_4 rfl (lv_at hl 0 rfl) ?_
    refine lv_iload_n hx hb dX3_beginsAnAct_5 rfl (lv_at hl 1 rfl) ?_
    refine lv_iconst (v := 1) hx hb dX3_beginsAnAct_6 (by decide) ?_
    refine lv_isub hx hb dX3_beginsAnAct_7 ?_
    refine w_cvi (As := [.int (p1 - 1)]) (rest := []) hx hb hml hown hts hK hW hS hl.1 (c_X3_codeAt hA HB hX  hw) (k_X3_31 hts ⟨Nat.le_of_ble_eq_true rfl, Nat.le_of_ble_eq_true rfl⟩) (w_recv hK hW HB.1 (hX 0 (by decide)) rfl rfl) rfl rfl (Nat.le_of_ble_eq_true rfl) dX3_beginsAnAct_8 ⟨Nat.zero_le _, Nat.zero_le _⟩ (fun r_2 Ez H locs hw2 hW hS => ?_)
    obtain ⟨ez, hw⟩ := hw2
    rw [ez] at hW
    refine lv_bipush (v := 44) hx hb dX3_beginsAnAct_11 (by decide) ?_
    refine lv_icmp_ne (tgt := 20) hx hb dX3_beginsAnAct_13 (by decide) (fun c_3 => ?_) (fun c_3 => ?_)
    · have hw := hw.2 c_3
      refine lv_iconst (v := 0) hx hb dX3_beginsAnAct_20 (by decide) ?_
      exact w_zret hx hb hr hlocks hW hS (Or.inl rfl) ⟨rfl, (Or.inl rfl), hw⟩ dX3_beginsAnAct_21
    · have hw := hw.1 c_3
      refine lv_iconst (v := 1) hx hb dX3_beginsAnAct_16 (by decide) ?_
      refine lv_goto (tgt := 21) hx hb dX3_beginsAnAct_17 (by decide) ?_
      exact w_zret hx hb hr hlocks hW hS (Or.inr rfl) ⟨rfl, (Or.inr rfl), hw⟩ dX3_beginsAnAct_21
set_option maxHeartbeats 4000000 in
set_option maxRecDepth 100000 in
theorem c_X3_lineAt {l : Launch} {g : GG} {lay : LY} {E0 : ES} {o : Nat} {X : ES} {p1 : Int32} {K : Int32 → Prop} (hA : okL g lay) (HB : PL g lay o) (hX : ∀ k, k < 2 → E0 (o + k) = X k) (hw : wp_X3_lineAt X p1 K) : JMi l g lay yX3_lineAt wsX3_lineAt rmX3_lineAt [.ref o, .int p1] E0 (fun r E1 => E1 = E0 ∧ K r) := by
  refine Met.ofW (cc := cX3_lineAt) (maxL := 2) (ret := (some .int)) (by decide) rfl ?_
  intro p e s m args below meth c s₁ B hml hv
  obtain ⟨rfl, hK, hW⟩ := hv
  have hx := B.exec
  have hb := B.bytes
  have hr := B.returns
  have hts := gd_of (atoms_spec (ws := wsX3_lineAt) B.pre)
  have hown : s.vm.findClass RX3 = some m.cls := findClass_of_methodNamed B.named
  have hlocks := B.notSynchronized
  have hS : va_S (Ab g) s.heap s.heap [] := va_S.rf
  have hl := lv_entry [.ref o, .int p1] (n := 2) (Nat.le_of_ble_eq_true rfl)
  rw [lg_entry_eq]
  generalize (lg_sl [.ref o, .int p1] ++ List.replicate (2 - (lg_sl [.ref o, .int p1]).length) Slot.unset).toArray = ls at hl ⊢
  have hl : lv_has ls 2 [(0, .ref o), (1, .int p1)] := hl
  unfold wp_X3_lineAt at hw
  refine lv_aload_n hx hb dX3_lineAt_0 rfl (lv_at hl 0 rfl) ?_
  refine lv_iload_n hx hb dX3_lineAt_1 rfl (lv_at hl 1 rfl) ?_
  refine w_cvi (As := [.int p1]) (rest := []) hx hb hml hown hts hK hW hS hl.1 (c_X3_codeAt hA HB hX  hw) (k_X3_31 hts ⟨Nat.le_of_ble_eq_true rfl, Nat.le_of_ble_eq_true rfl⟩) (w_recv hK hW HB.1 (hX 0 (by decide)) rfl rfl) rfl rfl (Nat.le_of_ble_eq_true rfl) dX3_lineAt_2 ⟨Nat.zero_le _, Nat.zero_le _⟩ (fun r_1 Ez H locs hw2 hW hS => ?_)
  obtain ⟨ez, hw⟩ := hw2
  rw [ez] at hW
  refine w_csi (As := [.int r_1]) (rest := []) hx hb hml hown hts hK hW hS hl.1 (c_X3_lineOf hw) (k_X3_46 hts ⟨Nat.le_of_ble_eq_true rfl, Nat.le_of_ble_eq_true rfl⟩) rfl rfl (Nat.le_of_ble_eq_true rfl) dX3_lineAt_5 ⟨Nat.zero_le _, Nat.zero_le _⟩ (fun r_2 Ez H locs hw2 hW hS => ?_)
  obtain ⟨ez, hw⟩ := hw2
  rw [ez] at hW
  exact w_iret hx hb hr hlocks hW hS ⟨rfl, hw⟩ dX3_lineAt_8
set_option maxHeartbeats 4000000 in
set_option maxRecDepth 100000 in
theorem c_X3_numberAt {l : Launch} {g : GG} {lay : LY} {E0 : ES} {o : Nat} {X : ES} {p1 : Int32} {K : Int32 → Prop} (hA : okL g lay) (HB : PL g lay o) (hX : ∀ k, k < 2 → E0 (o + k) = X k) (hw : wp_X3_numberAt X p1 K) : JMi l g lay yX3_numberAt wsX3_numberAt rmX3_numberAt [.ref o, .int p1] E0 (fun r E1 => E1 = E0 ∧ K r) := by
  refine Met.ofW (cc := cX3_numberAt) (maxL := 4) (ret := (some .int)) (by decide) rfl ?_
  intro p e s m args below meth c s₁ B hml hv
  obtain ⟨rfl, hK, hW⟩ := hv
  have hx := B.exec
  have hb := B.bytes
  have hr := B.returns
  have hts := gd_of (atoms_spec (ws := wsX3_numberAt) B.pre)
  have hown : s.vm.findClass RX3 = some m.cls := findClass_of_methodNamed B.named
  have hlocks := B.notSynchronized
  have hS : va_S (Ab g) s.heap s.heap [] := va_S.rf
  have hl := lv_entry [.ref o, .int p1] (n := 4) (Nat.le_of_ble_eq_true rfl)
  rw [lg_entry_eq]
  generalize (lg_sl [.ref o, .int p1] ++ List.replicate (4 - (lg_sl [.ref o, .int p1]).length) Slot.unset).toArray = ls at hl ⊢
  have hl : lv_has ls 4 [(0, .ref o), (1, .int p1)] := hl
  unfold wp_X3_numberAt at hw
  refine lv_iconst (v := 0) hx hb dX3_numberAt_0 (by decide) ?_
  refine lv_istore_n (lv' := [(2, .int 0), (0, .ref o), (1, .int p1)]) hx hb dX3_numberAt_1 rfl hl (by decide) rfl (fun ls hl => ?_)
  refine lv_iload_n hx hb dX3_numberAt_2 rfl (lv_at hl 2 rfl) ?_
  refine lv_istore_n (lv' := [(3, .int p1), (2, .int 0), (0, .ref o), (1, .int p1)]) hx hb dX3_numberAt_3 rfl hl (by decide) rfl (fun ls hl => ?_)
  obtain ⟨n_22, hw⟩ := hw
  refine w_loop (KT := Int32 → Int32 → Prop) (σ := Int32 × Int32) (Wl := fun Kx_4 n_4 q => wpl_X3_numberAt_4 X K Kx_4 n_4 q.1 q.2) (Pw := fun q => Wd g lay (E0)) (lvf := fun q => [(0, .ref o), (1, .int p1), (2, .int q.1), (3, .int q.2)]) (nL := 4) n_22 (0, p1) hw hW hS (lv_sub hl [2, 3, 1, 0] rfl) (fun _ h => h) (fun Kx_4 eK_4 n_4 q H locs ls hw hW hS hl ih_4 => ?_)
  obtain ⟨i_1, i_2⟩ := q
  try dsimp only at hw
  rw [wpl_X3_numberAt_4] at hw
  have hl : lv_has ls 4 [(0, .ref o), (1, .int p1), (2, .int i_1), (3, .int i_2)] := hl
  have hW : Wd g lay (E0) H := hW
  refine lv_iload_n hx hb dX3_numberAt_4 rfl (lv_at hl 3 rfl) ?_
  refine lv_aload_n hx hb dX3_numberAt_5 rfl (lv_at hl 0 rfl) ?_
  refine g_X3_15 hx hb hown hts hK hW HB.1 (hX 0 (by decide)) dX3_numberAt_6 ?_
  refine lv_icmp_ge (tgt := 43) hx hb dX3_numberAt_9 (by decide) (fun c_14 => ?_) (fun c_14 => ?_)
  · have hw := hw.1 c_14
    rw [eK_4] at hw
    refine lv_iload_n hx hb dX3_numberAt_43 rfl (lv_at hl 2 rfl) ?_
    exact w_iret hx hb hr hlocks hW hS ⟨rfl, hw⟩ dX3_numberAt_44
  · have hw := hw.2 c_14
    refine lv_aload_n hx hb dX3_numberAt_12 rfl (lv_at hl 0 rfl) ?_
    refine lv_iload_n hx hb dX3_numberAt_13 rfl (lv_at hl 3 rfl) ?_
    refine w_cvi (As := [.int i_2]) (rest := []) hx hb hml hown hts hK hW hS hl.1 (c_X3_codeAt hA HB hX  hw) (k_X3_31 hts ⟨Nat.le_of_ble_eq_true rfl, Nat.le_of_ble_eq_true rfl⟩) (w_recv hK hW HB.1 (hX 0 (by decide)) rfl rfl) rfl rfl (Nat.le_of_ble_eq_true rfl) dX3_numberAt_14 ⟨Nat.zero_le _, Nat.zero_le _⟩ (fun r_15 Ez H locs hw2 hW hS => ?_)
    obtain ⟨ez, hw⟩ := hw2
    rw [ez] at hW
    refine w_csi (As := [.int r_15]) (rest := []) hx hb hml hown hts hK hW hS hl.1 (c_X3_isDigit hw) (k_X3_35 hts ⟨Nat.le_of_ble_eq_true rfl, Nat.le_of_ble_eq_true rfl⟩) rfl rfl (Nat.le_of_ble_eq_true rfl) dX3_numberAt_17 ⟨Nat.zero_le _, Nat.zero_le _⟩ (fun r_16 Ez H locs hw2 hW hS => ?_)
    obtain ⟨ez, z_17, hw⟩ := hw2
    rw [ez] at hW
    refine lv_if_eq (tgt := 43) hx hb dX3_numberAt_20 (by decide) (fun c_18 => ?_) (fun c_18 => ?_)
    · have hw := hw.1 c_18
      rw [eK_4] at hw
      refine lv_iload_n hx hb dX3_numberAt_43 rfl (lv_at hl 2 rfl) ?_
      exact w_iret hx hb hr hlocks hW hS ⟨rfl, hw⟩ dX3_numberAt_44
    · have hw := hw.2 c_18
      refine lv_bipush (v := 10) hx hb dX3_numberAt_23 (by decide) ?_
      refine lv_iload_n hx hb dX3_numberAt_25 rfl (lv_at hl 2 rfl) ?_
      refine lv_imul hx hb dX3_numberAt_26 ?_
      refine lv_aload_n hx hb dX3_numberAt_27 rfl (lv_at hl 0 rfl) ?_
      refine lv_iload_n hx hb dX3_numberAt_28 rfl (lv_at hl 3 rfl) ?_
      refine w_cvi (As := [.int i_2]) (rest := [.int (10 * i_1)]) hx hb hml hown hts hK hW hS hl.1 (c_X3_codeAt hA HB hX  hw) (k_X3_31 hts ⟨Nat.le_of_ble_eq_true rfl, Nat.le_of_ble_eq_true rfl⟩) (w_recv hK hW HB.1 (hX 0 (by decide)) rfl rfl) rfl rfl (Nat.le_of_ble_eq_true rfl) dX3_numberAt_29 ⟨Nat.zero_le _, Nat.zero_le _⟩ (fun r_19 Ez H locs hw2 hW hS => ?_)
      obtain ⟨ez, hw⟩ := hw2
      rw [ez] at hW
      refine lv_iadd hx hb dX3_numberAt_32 ?_
      refine lv_bipush (v := 48) hx hb dX3_numberAt_33 (by decide) ?_
      refine lv_isub hx hb dX3_numberAt_35 ?_
      refine lv_topi (fun v_20 ev_20 => ?_)
      have hw := hw v_20 ev_20
      refine lv_istore_n (lv' := [(2, .int v_20), (0, .ref o), (1, .int p1), (3, .int i_2)]) hx hb dX3_numberAt_36 rfl hl (by decide) rfl (fun ls hl => ?_)
      obtain ⟨v_21, ev_21⟩ : ∃ z : Int32, z = i_2 + 1 := ⟨_, rfl⟩
      have hw := hw v_21 ev_21
      refine lv_iinc (v := v_21) (lv' := [(3, .int v_21), (2, .int v_20), (0, .ref o), (1, .int p1)]) hx hb dX3_numberAt_37 hl (k := 3) rfl (by rw [ev_21]; rfl) (by decide) rfl (fun ls hl => ?_)
      refine lv_goto (tgt := 4) hx hb dX3_numberAt_40 (by decide) ?_
      exact ih_4 (v_20, v_21) _ _ _ hw hW hS (lv_sub hl [2, 3, 1, 0] rfl)
set_option maxHeartbeats 4000000 in
set_option maxRecDepth 100000 in
theorem c_X4_isLine {l : Launch} {g : GG} {lay : LY} {E0 : ES} {p1 : Int32} {K : Int32 → Prop} (hw : wp_X4_isLine p1 K) : JMi l g lay yX4_isLine wsX4_isLine rmX4_isLine [.int p1] E0 (fun r E1 => E1 = E0 ∧ (r = 0 ∨ r = 1) ∧ K r) := by
  refine Met.ofW (cc := cX4_isLine) (maxL := 1) (ret := (some .boolean)) (by decide) rfl ?_
  intro p e s m args below meth c s₁ B hml hv
  obtain ⟨rfl, hK, hW⟩ := hv
  have hx := B.exec
  have hb := B.bytes
  have hr := B.returns
  have hts := gd_of (atoms_spec (ws := wsX4_isLine) B.pre)
  have hown : s.vm.findClass RX4 = some m.cls := findClass_of_methodNamed B.named
  have hlocks := B.notSynchronized
  have hS : va_S (Ab g) s.heap s.heap [] := va_S.rf
  have hl := lv_entry [.int p1] (n := 1) (Nat.le_of_ble_eq_true rfl)
  rw [lg_entry_eq]
  generalize (lg_sl [.int p1] ++ List.replicate (1 - (lg_sl [.int p1]).length) Slot.unset).toArray = ls at hl ⊢
  have hl : lv_has ls 1 [(0, .int p1)] := hl
  unfold wp_X4_isLine at hw
  refine lv_iload_n hx hb dX4_isLine_0 rfl (lv_at hl 0 rfl) ?_
  refine lv_iconst (v := 0) hx hb dX4_isLine_1 (by decide) ?_
  refine lv_bipush (v := 15) hx hb dX4_isLine_2 (by decide) ?_
  refine w_csi (As := [.int p1, .int 0, .int 15]) (rest := []) hx hb hml hown hts hK hW hS hl.1 (c_X4_isWithin hw) (k_X4_30 hts ⟨Nat.le_of_ble_eq_true rfl, Nat.le_of_ble_eq_true rfl⟩) rfl rfl (Nat.le_of_ble_eq_true rfl) dX4_isLine_4 ⟨Nat.zero_le _, Nat.zero_le _⟩ (fun r_1 Ez H locs hw2 hW hS => ?_)
  obtain ⟨ez, z_2, hw⟩ := hw2
  rw [ez] at hW
  exact w_zret hx hb hr hlocks hW hS z_2 ⟨rfl, z_2, hw⟩ dX4_isLine_7
