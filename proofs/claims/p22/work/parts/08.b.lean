set_option maxHeartbeats 4000000 in
set_option maxRecDepth 100000 in
theorem c_X0_settingAt {l : Launch} {g : GG} {lay : LY} {E0 : ES} {o : Nat} {X : ES} {p1 : Int32} {K : Int32 → Prop} (hA : okL g lay) (HB : XL g lay o) (hX : ∀ k, k < 26 → E0 (o + k) = X k) (hw : wp_X0_settingAt X p1 K) : JMi l g lay yX0_settingAt wsX0_settingAt rmX0_settingAt [.ref o, .int p1] E0 (fun r E1 => E1 = E0 ∧ K r) := by
  refine Met.ofW (cc := cX0_settingAt) (maxL := 2) (ret := (some .int)) (by decide) rfl ?_
  intro p e s m args below meth c s₁ B hml hv
  obtain ⟨rfl, hK, hW⟩ := hv
  have hx := B.exec
  have hb := B.bytes
  have hr := B.returns
  have hts := gd_of (atoms_spec (ws := wsX0_settingAt) B.pre)
  have hown : s.vm.findClass RX0 = some m.cls := findClass_of_methodNamed B.named
  have hlocks := B.notSynchronized
  have hS : va_S (Ab g) s.heap s.heap [] := va_S.rf
  have hl := lv_entry [.ref o, .int p1] (n := 2) (Nat.le_of_ble_eq_true rfl)
  rw [lg_entry_eq]
  generalize (lg_sl [.ref o, .int p1] ++ List.replicate (2 - (lg_sl [.ref o, .int p1]).length) Slot.unset).toArray = ls at hl ⊢
  have hl : lv_has ls 2 [(0, .ref o), (1, .int p1)] := hl
  unfold wp_X0_settingAt at hw
  refine lv_iload_n hx hb dX0_settingAt_0 rfl (lv_at hl 1 rfl) ?_
  refine lv_if_lt (tgt := 22) hx hb dX0_settingAt_1 (by decide) (fun c_1 => ?_) (fun c_1 => ?_)
  · have hw := hw.1 c_1
    refine lv_bipush (v := (-2)) hx hb dX0_settingAt_22 (by decide) ?_
    exact w_iret hx hb hr hlocks hW hS ⟨rfl, hw⟩ dX0_settingAt_24
  · have hw := hw.2 c_1
    refine lv_iload_n hx hb dX0_settingAt_4 rfl (lv_at hl 1 rfl) ?_
    refine lv_aload_n hx hb dX0_settingAt_5 rfl (lv_at hl 0 rfl) ?_
    refine g_X0_42 hx hb hown hts hK hW HB.1 (hX 0 (by decide)) dX0_settingAt_6 ?_
    refine w_alen (v := 5) hx hb hK hW 0 rfl HB.2.2.2.1 (hX 5 (by decide)) rfl rfl dX0_settingAt_9 ?_
    refine lv_icmp_ge (tgt := 22) hx hb dX0_settingAt_10 (by decide) (fun c_2 => ?_) (fun c_2 => ?_)
    · have hw := hw.1 c_2
      refine lv_bipush (v := (-2)) hx hb dX0_settingAt_22 (by decide) ?_
      exact w_iret hx hb hr hlocks hW hS ⟨rfl, hw⟩ dX0_settingAt_24
    · have hw := hw.2 c_2
      refine lv_aload_n hx hb dX0_settingAt_13 rfl (lv_at hl 0 rfl) ?_
      refine g_X0_42 hx hb hown hts hK hW HB.1 (hX 0 (by decide)) dX0_settingAt_14 ?_
      refine lv_iload_n hx hb dX0_settingAt_17 rfl (lv_at hl 1 rfl) ?_
      obtain ⟨hin, hw⟩ := hw
      refine w_iald hx hb hK hW HB.2.2.2.1 (hX 5 (by decide)) hin dX0_settingAt_18 ?_
      refine lv_goto (tgt := 24) hx hb dX0_settingAt_19 (by decide) ?_
      exact w_iret hx hb hr hlocks hW hS ⟨rfl, hw⟩ dX0_settingAt_24
set_option maxHeartbeats 4000000 in
set_option maxRecDepth 100000 in
theorem c_X0_changeSetting {l : Launch} {g : GG} {lay : LY} {E0 : ES} {o : Nat} {X : ES} {p1 : Int32} {p2 : Int32} {K : Int32 → ES → Prop} (hA : okL g lay) (HB : XL g lay o) (hX : ∀ k, k < 26 → E0 (o + k) = X k) (hw : wp_X0_changeSetting X p1 p2 K) : JMi l g lay yX0_changeSetting wsX0_changeSetting rmX0_changeSetting [.ref o, .int p1, .int p2] E0 (fun r E1 => ∃ X1 : ES, E1 = put 26 o X1 E0 ∧ K r X1) := by
  refine Met.ofW (cc := cX0_changeSetting) (maxL := 4) (ret := (some .int)) (by decide) rfl ?_
  intro p e s m args below meth c s₁ B hml hv
  obtain ⟨rfl, hK, hW⟩ := hv
  have hx := B.exec
  have hb := B.bytes
  have hr := B.returns
  have hts := gd_of (atoms_spec (ws := wsX0_changeSetting) B.pre)
  have hown : s.vm.findClass RX0 = some m.cls := findClass_of_methodNamed B.named
  have hlocks := B.notSynchronized
  have hS : va_S (Ab g) s.heap s.heap [] := va_S.rf
  have hW : Wd g lay (put 26 o X E0) s.heap := by rw [putSelf hX]; exact hW
  have hl := lv_entry [.ref o, .int p1, .int p2] (n := 4) (Nat.le_of_ble_eq_true rfl)
  rw [lg_entry_eq]
  generalize (lg_sl [.ref o, .int p1, .int p2] ++ List.replicate (4 - (lg_sl [.ref o, .int p1, .int p2]).length) Slot.unset).toArray = ls at hl ⊢
  have hl : lv_has ls 4 [(0, .ref o), (1, .int p1), (2, .int p2)] := hl
  unfold wp_X0_changeSetting at hw
  refine lv_aload_n hx hb dX0_changeSetting_0 rfl (lv_at hl 0 rfl) ?_
  refine lv_iload_n hx hb dX0_changeSetting_1 rfl (lv_at hl 1 rfl) ?_
  refine w_cvi (As := [.int p1]) (rest := []) hx hb hml hown hts hK hW hS hl.1 (c_X0_settingAt hA HB (fun k hk => putAt hk)  hw) (k_X0_79 hts ⟨Nat.le_of_ble_eq_true rfl, Nat.le_of_ble_eq_true rfl⟩) (w_recv hK hW HB.1 (putAt (k := 0) (by decide)) rfl rfl) rfl rfl (Nat.le_of_ble_eq_true rfl) dX0_changeSetting_2 ⟨Nat.zero_le _, Nat.zero_le _⟩ (fun r_1 Ez H locs hw2 hW hS => ?_)
  obtain ⟨ez, hw⟩ := hw2
  rw [ez] at hW
  refine lv_istore_n (lv' := [(3, .int r_1), (0, .ref o), (1, .int p1), (2, .int p2)]) hx hb dX0_changeSetting_5 rfl hl (by decide) rfl (fun ls hl => ?_)
  refine lv_iload_n hx hb dX0_changeSetting_6 rfl (lv_at hl 2 rfl) ?_
  refine lv_if_lt (tgt := 26) hx hb dX0_changeSetting_7 (by decide) (fun c_2 => ?_) (fun c_2 => ?_)
  · have hw := hw.1 c_2
    refine lv_iload_n hx hb dX0_changeSetting_26 rfl (lv_at hl 0 rfl) ?_
    exact w_iret hx hb hr hlocks hW hS ⟨X, rfl, hw⟩ dX0_changeSetting_27
  · have hw := hw.2 c_2
    refine lv_iload_n hx hb dX0_changeSetting_10 rfl (lv_at hl 2 rfl) ?_
    refine lv_aload_n hx hb dX0_changeSetting_11 rfl (lv_at hl 1 rfl) ?_
    refine g_X0_42 hx hb hown hts hK hW HB.1 (putAt (k := 0) (by decide)) dX0_changeSetting_12 ?_
    refine w_alen (v := 5) hx hb hK hW 0 rfl HB.2.2.2.1 (putAt (k := 5) (by decide)) rfl rfl dX0_changeSetting_15 ?_
    refine lv_icmp_ge (tgt := 26) hx hb dX0_changeSetting_16 (by decide) (fun c_3 => ?_) (fun c_3 => ?_)
    · have hw := hw.1 c_3
      refine lv_iload_n hx hb dX0_changeSetting_26 rfl (lv_at hl 0 rfl) ?_
      exact w_iret hx hb hr hlocks hW hS ⟨X, rfl, hw⟩ dX0_changeSetting_27
    · have hw := hw.2 c_3
      refine lv_aload_n hx hb dX0_changeSetting_19 rfl (lv_at hl 1 rfl) ?_
      refine g_X0_42 hx hb hown hts hK hW HB.1 (putAt (k := 0) (by decide)) dX0_changeSetting_20 ?_
      refine lv_iload_n hx hb dX0_changeSetting_23 rfl (lv_at hl 2 rfl) ?_
      refine lv_iload_n hx hb dX0_changeSetting_24 rfl (lv_at hl 3 rfl) ?_
      obtain ⟨hin, hw⟩ := hw
      obtain ⟨X_4, eX_4⟩ : ∃ z : ES, z = va_up X 5 (upd (X 5) p1.toNatClampNeg p2) := ⟨_, rfl⟩
      have hw := hw X_4 eX_4
      refine w_iast (E1 := put 26 o X_4 E0) hx hb hK hA hW hS HB.2.2.2.1 (putAt (k := 5) (by decide)) hin dX0_changeSetting_25 (puE (k := 5) (by decide) eX_4) (fun H locs hW hS => ?_)
      refine lv_iload_n hx hb dX0_changeSetting_26 rfl (lv_at hl 0 rfl) ?_
      exact w_iret hx hb hr hlocks hW hS ⟨X_4, rfl, hw⟩ dX0_changeSetting_27
set_option maxHeartbeats 4000000 in
set_option maxRecDepth 100000 in
theorem c_X0_renew {l : Launch} {g : GG} {lay : LY} {E0 : ES} {o : Nat} {X : ES} {p1 : Int32} {p2 : Int32} {K : ES → Prop} (hA : okL g lay) (HB : XL g lay o) (hX : ∀ k, k < 26 → E0 (o + k) = X k) (hw : wp_X0_renew X p1 p2 K) : JMv l g lay yX0_renew wsX0_renew rmX0_renew [.ref o, .int p1, .int p2] E0 (fun E1 => ∃ X1 : ES, E1 = put 26 o X1 E0 ∧ K X1) := by
  refine Met.ofW (cc := cX0_renew) (maxL := 4) (ret := none) (by decide) rfl ?_
  intro p e s m args below meth c s₁ B hml hv
  obtain ⟨rfl, hK, hW⟩ := hv
  have hx := B.exec
  have hb := B.bytes
  have hr := B.returns
  have hts := gd_of (atoms_spec (ws := wsX0_renew) B.pre)
  have hown : s.vm.findClass RX0 = some m.cls := findClass_of_methodNamed B.named
  have hlocks := B.notSynchronized
  have hS : va_S (Ab g) s.heap s.heap [] := va_S.rf
  have hW : Wd g lay (put 26 o X E0) s.heap := by rw [putSelf hX]; exact hW
  have hl := lv_entry [.ref o, .int p1, .int p2] (n := 4) (Nat.le_of_ble_eq_true rfl)
  rw [lg_entry_eq]
  generalize (lg_sl [.ref o, .int p1, .int p2] ++ List.replicate (4 - (lg_sl [.ref o, .int p1, .int p2]).length) Slot.unset).toArray = ls at hl ⊢
  have hl : lv_has ls 4 [(0, .ref o), (1, .int p1), (2, .int p2)] := hl
  unfold wp_X0_renew at hw
  refine lv_iconst (v := 0) hx hb dX0_renew_0 (by decide) ?_
  refine lv_istore_n (lv' := [(3, .int 0), (0, .ref o), (1, .int p1), (2, .int p2)]) hx hb dX0_renew_1 rfl hl (by decide) rfl (fun ls hl => ?_)
  obtain ⟨n_167, hw⟩ := hw
  refine w_loop (KT := Int32 → ES → Prop) (σ := Int32 × ES) (Wl := fun Kx_2 n_2 q => wpl_X0_renew_2 K Kx_2 n_2 q.1 q.2) (Pw := fun q => Wd g lay (put 26 o q.2 E0)) (lvf := fun q => [(0, .ref o), (1, .int p1), (2, .int p2), (3, .int q.1)]) (nL := 4) n_167 (0, X) hw hW hS (lv_sub hl [1, 2, 3, 0] rfl) (fun _ h => h) (fun Kx_2 eK_2 n_2 q H locs ls hw hW hS hl ih_2 => ?_)
  obtain ⟨i_1, X_2⟩ := q
  try dsimp only at hw
  rw [wpl_X0_renew_2] at hw
  have hl : lv_has ls 4 [(0, .ref o), (1, .int p1), (2, .int p2), (3, .int i_1)] := hl
  have hW : Wd g lay (put 26 o X_2 E0) H := hW
  refine lv_iload_n hx hb dX0_renew_2 rfl (lv_at hl 3 rfl) ?_
  refine lv_bipush (v := 16) hx hb dX0_renew_3 (by decide) ?_
  refine lv_icmp_ge (tgt := 22) hx hb dX0_renew_5 (by decide) (fun c_112 => ?_) (fun c_112 => ?_)
  · have hw := hw.1 c_112
    rw [eK_2] at hw
    refine lv_iconst (v := 0) hx hb dX0_renew_22 (by decide) ?_
    refine lv_istore_n (lv' := [(3, .int 0), (0, .ref o), (1, .int p1), (2, .int p2)]) hx hb dX0_renew_23 rfl hl (by decide) rfl (fun ls hl => ?_)
    obtain ⟨n_162, hw⟩ := hw
    refine w_loop (KT := Int32 → ES → Prop) (σ := Int32 × ES) (Wl := fun Kx_24 n_24 q => wpl_X0_renew_24 K Kx_24 n_24 q.1 q.2) (Pw := fun q => Wd g lay (put 26 o q.2 E0)) (lvf := fun q => [(0, .ref o), (1, .int p1), (2, .int p2), (3, .int q.1)]) (nL := 4) n_162 (0, X_2) hw hW hS (lv_sub hl [1, 2, 3, 0] rfl) (fun _ h => h) (fun Kx_24 eK_24 n_24 q H locs ls hw hW hS hl ih_24 => ?_)
    obtain ⟨i_113, X_114⟩ := q
    try dsimp only at hw
    rw [wpl_X0_renew_24] at hw
    have hl : lv_has ls 4 [(0, .ref o), (1, .int p1), (2, .int p2), (3, .int i_113)] := hl
    have hW : Wd g lay (put 26 o X_114 E0) H := hW
    refine lv_iload_n hx hb dX0_renew_24 rfl (lv_at hl 3 rfl) ?_
    refine lv_iconst (v := 4) hx hb dX0_renew_25 (by decide) ?_
    refine lv_icmp_ge (tgt := 43) hx hb dX0_renew_26 (by decide) (fun c_146 => ?_) (fun c_146 => ?_)
    · have hw := hw.1 c_146
      rw [eK_24] at hw
      refine lv_aload_n hx hb dX0_renew_43 rfl (lv_at hl 0 rfl) ?_
      refine lv_iload_n hx hb dX0_renew_44 rfl (lv_at hl 1 rfl) ?_
      obtain ⟨X_147, eX_147⟩ : ∃ z : ES, z = va_up X_114 0 (upd (X_114 0) 5 p1) := ⟨_, rfl⟩
      have hw := hw X_147 eX_147
      refine p_X0_45 (E1 := put 26 o X_147 E0) hx hb hown hts hK hA hW hS HB.1 (putAt (k := 0) (by decide)) dX0_renew_45 (puE (k := 0) (by decide) eX_147) (fun H locs hW hS => ?_)
      refine lv_aload_n hx hb dX0_renew_48 rfl (lv_at hl 0 rfl) ?_
      refine lv_iload_n hx hb dX0_renew_49 rfl (lv_at hl 2 rfl) ?_
      obtain ⟨X_148, eX_148⟩ : ∃ z : ES, z = va_up X_147 0 (upd (X_147 0) 6 p2) := ⟨_, rfl⟩
      have hw := hw X_148 eX_148
      refine p_X0_49 (E1 := put 26 o X_148 E0) hx hb hown hts hK hA hW hS HB.1 (putAt (k := 0) (by decide)) dX0_renew_50 (puE (k := 0) (by decide) eX_148) (fun H locs hW hS => ?_)
      refine lv_aload_n hx hb dX0_renew_53 rfl (lv_at hl 0 rfl) ?_
      refine lv_iconst (v := 0) hx hb dX0_renew_54 (by decide) ?_
      obtain ⟨X_149, eX_149⟩ : ∃ z : ES, z = va_up X_148 0 (upd (X_148 0) 7 0) := ⟨_, rfl⟩
      have hw := hw X_149 eX_149
      refine p_X0_52 (E1 := put 26 o X_149 E0) hx hb hown hts hK hA hW hS HB.1 (putAt (k := 0) (by decide)) dX0_renew_55 (puE (k := 0) (by decide) eX_149) (fun H locs hW hS => ?_)
      refine lv_aload_n hx hb dX0_renew_58 rfl (lv_at hl 0 rfl) ?_
      refine lv_iconst (v := (-1)) hx hb dX0_renew_59 (by decide) ?_
      obtain ⟨X_150, eX_150⟩ : ∃ z : ES, z = va_up X_149 0 (upd (X_149 0) 8 (-1)) := ⟨_, rfl⟩
      have hw := hw X_150 eX_150
      refine p_X0_55 (E1 := put 26 o X_150 E0) hx hb hown hts hK hA hW hS HB.1 (putAt (k := 0) (by decide)) dX0_renew_60 (puE (k := 0) (by decide) eX_150) (fun H locs hW hS => ?_)
      refine lv_aload_n hx hb dX0_renew_63 rfl (lv_at hl 0 rfl) ?_
      refine lv_iconst (v := 0) hx hb dX0_renew_64 (by decide) ?_
      obtain ⟨X_151, eX_151⟩ : ∃ z : ES, z = va_up X_150 0 (upd (X_150 0) 9 0) := ⟨_, rfl⟩
      have hw := hw X_151 eX_151
      refine p_X0_58 (E1 := put 26 o X_151 E0) hx hb hown hts hK hA hW hS HB.1 (putAt (k := 0) (by decide)) dX0_renew_65 (puE (k := 0) (by decide) eX_151) (fun H locs hW hS => ?_)
      refine lv_aload_n hx hb dX0_renew_68 rfl (lv_at hl 0 rfl) ?_
      refine lv_iconst (v := 0) hx hb dX0_renew_69 (by decide) ?_
      obtain ⟨X_152, eX_152⟩ : ∃ z : ES, z = va_up X_151 0 (upd (X_151 0) 10 0) := ⟨_, rfl⟩
      have hw := hw X_152 eX_152
      refine p_X0_61 (E1 := put 26 o X_152 E0) hx hb hown hts hK hA hW hS HB.1 (putAt (k := 0) (by decide)) dX0_renew_70 (puE (k := 0) (by decide) eX_152) (fun H locs hW hS => ?_)
      refine lv_aload_n hx hb dX0_renew_73 rfl (lv_at hl 0 rfl) ?_
      refine lv_iconst (v := 0) hx hb dX0_renew_74 (by decide) ?_
      obtain ⟨X_153, eX_153⟩ : ∃ z : ES, z = va_up X_152 0 (upd (X_152 0) 11 0) := ⟨_, rfl⟩
      have hw := hw X_153 eX_153
      refine p_X0_64 (E1 := put 26 o X_153 E0) hx hb hown hts hK hA hW hS HB.1 (putAt (k := 0) (by decide)) dX0_renew_75 (puE (k := 0) (by decide) eX_153) (fun H locs hW hS => ?_)
      refine lv_aload_n hx hb dX0_renew_78 rfl (lv_at hl 0 rfl) ?_
      refine lv_iconst (v := 0) hx hb dX0_renew_79 (by decide) ?_
      obtain ⟨X_154, eX_154⟩ : ∃ z : ES, z = va_up X_153 0 (upd (X_153 0) 12 0) := ⟨_, rfl⟩
      have hw := hw X_154 eX_154
      refine p_X0_67 (E1 := put 26 o X_154 E0) hx hb hown hts hK hA hW hS HB.1 (putAt (k := 0) (by decide)) dX0_renew_80 (puE (k := 0) (by decide) eX_154) (fun H locs hW hS => ?_)
      refine lv_aload_n hx hb dX0_renew_83 rfl (lv_at hl 0 rfl) ?_
      refine lv_iconst (v := 0) hx hb dX0_renew_84 (by decide) ?_
      obtain ⟨X_155, eX_155⟩ : ∃ z : ES, z = va_up X_154 0 (upd (X_154 0) 13 0) := ⟨_, rfl⟩
      have hw := hw X_155 eX_155
      refine p_X0_70 (E1 := put 26 o X_155 E0) hx hb hown hts hK hA hW hS HB.1 (putAt (k := 0) (by decide)) dX0_renew_85 (puE (k := 0) (by decide) eX_155) (fun H locs hW hS => ?_)
      refine lv_aload_n hx hb dX0_renew_88 rfl (lv_at hl 0 rfl) ?_
      refine lv_iconst (v := 0) hx hb dX0_renew_89 (by decide) ?_
      obtain ⟨X_156, eX_156⟩ : ∃ z : ES, z = va_up X_155 0 (upd (X_155 0) 14 0) := ⟨_, rfl⟩
      have hw := hw X_156 eX_156
      refine p_X0_73 (E1 := put 26 o X_156 E0) hx hb hown hts hK hA hW hS HB.1 (putAt (k := 0) (by decide)) dX0_renew_90 (puE (k := 0) (by decide) eX_156) (fun H locs hW hS => ?_)
      refine lv_aload_n hx hb dX0_renew_93 rfl (lv_at hl 0 rfl) ?_
      refine lv_iconst (v := 0) hx hb dX0_renew_94 (by decide) ?_
      obtain ⟨X_157, eX_157⟩ : ∃ z : ES, z = va_up X_156 0 (upd (X_156 0) 15 0) := ⟨_, rfl⟩
      have hw := hw X_157 eX_157
      refine p_X0_76 (E1 := put 26 o X_157 E0) hx hb hown hts hK hA hW hS HB.1 (putAt (k := 0) (by decide)) dX0_renew_95 (puE (k := 0) (by decide) eX_157) (fun H locs hW hS => ?_)
      exact w_vret hx hb hr hlocks hW hS ⟨X_157, rfl, hw⟩ dX0_renew_98
    · have hw := hw.2 c_146
      refine lv_aload_n hx hb dX0_renew_29 rfl (lv_at hl 0 rfl) ?_
      refine lv_iload_n hx hb dX0_renew_30 rfl (lv_at hl 3 rfl) ?_
      refine w_cvr (As := [.int i_113]) (rest := []) hx hb hml hown hts hK hW hS hl.1 (c_X0_finderAt hA HB i_113) (k_X0_90 hts ⟨Nat.le_of_ble_eq_true rfl, Nat.le_of_ble_eq_true rfl⟩) (w_recv hK hW HB.1 (putAt (k := 0) (by decide)) rfl rfl) rfl rfl (Nat.le_of_ble_eq_true rfl) dX0_renew_31 ⟨Nat.zero_le _, Nat.zero_le _⟩ (fun q_158 Ez H locs hw2 hW hS => ?_)
      obtain ⟨ez, rfl⟩ := hw2
      rw [ez] at hW
      refine w_cvv (As := []) (rest := []) hx hb hml hown hts hK hW hS hl.1 (c_X1_renew hA (HB.2.2.2.2.2 _ (isFi_fix i_113)) (putAt (k := fix i_113) (isFi_lt (isFi_fix i_113))) hw) (k_X0_94 hts ⟨Nat.le_of_ble_eq_true rfl, Nat.le_of_ble_eq_true rfl⟩) (w_recv hK hW (HB.2.2.2.2.2 _ (isFi_fix i_113)) (putAt (k := fix i_113) (isFi_lt (isFi_fix i_113))) rfl rfl) rfl rfl (Nat.le_of_ble_eq_true rfl) dX0_renew_34 ⟨Nat.zero_le _, Nat.zero_le _⟩ (fun Ez H locs hw2 hW hS => ?_)
      obtain ⟨Y_159, ez, hw⟩ := hw2
      rw [ez] at hW
      obtain ⟨X_160, eX_160⟩ : ∃ z : ES, z = va_up X_114 (fix i_113) Y_159 := ⟨_, rfl⟩
      have hw := hw X_160 eX_160
      have hW : Wd g lay (put 26 o X_160 E0) H := by rw [eX_160, ← putUp (k := fix i_113) (isFi_lt (isFi_fix i_113))]; exact hW
      obtain ⟨v_161, ev_161⟩ : ∃ z : Int32, z = i_113 + 1 := ⟨_, rfl⟩
      have hw := hw v_161 ev_161
      refine lv_iinc (v := v_161) (lv' := [(3, .int v_161), (0, .ref o), (1, .int p1), (2, .int p2)]) hx hb dX0_renew_37 hl (k := 3) rfl (by rw [ev_161]; rfl) (by decide) rfl (fun ls hl => ?_)
      refine lv_goto (tgt := 24) hx hb dX0_renew_40 (by decide) ?_
      exact ih_24 (v_161, X_160) _ _ _ hw hW hS (lv_sub hl [1, 2, 3, 0] rfl)
  · have hw := hw.2 c_112
    refine lv_aload_n hx hb dX0_renew_8 rfl (lv_at hl 0 rfl) ?_
    refine lv_iload_n hx hb dX0_renew_9 rfl (lv_at hl 3 rfl) ?_
    refine w_cvr (As := [.int i_1]) (rest := []) hx hb hml hown hts hK hW hS hl.1 (c_X0_lineAt hA HB i_1) (k_X0_83 hts ⟨Nat.le_of_ble_eq_true rfl, Nat.le_of_ble_eq_true rfl⟩) (w_recv hK hW HB.1 (putAt (k := 0) (by decide)) rfl rfl) rfl rfl (Nat.le_of_ble_eq_true rfl) dX0_renew_10 ⟨Nat.zero_le _, Nat.zero_le _⟩ (fun q_163 Ez H locs hw2 hW hS => ?_)
    obtain ⟨ez, rfl⟩ := hw2
    rw [ez] at hW
    refine w_cvv (As := []) (rest := []) hx hb hml hown hts hK hW hS hl.1 (c_X2_renew hA (HB.2.2.2.2.1 _ (isLi_lix i_1)) (putAt (k := lix i_1) (isLi_lt (isLi_lix i_1))) hw) (k_X0_87 hts ⟨Nat.le_of_ble_eq_true rfl, Nat.le_of_ble_eq_true rfl⟩) (w_recv hK hW (HB.2.2.2.2.1 _ (isLi_lix i_1)) (putAt (k := lix i_1) (isLi_lt (isLi_lix i_1))) rfl rfl) rfl rfl (Nat.le_of_ble_eq_true rfl) dX0_renew_13 ⟨Nat.zero_le _, Nat.zero_le _⟩ (fun Ez H locs hw2 hW hS => ?_)
    obtain ⟨Y_164, ez, hw⟩ := hw2
    rw [ez] at hW
    obtain ⟨X_165, eX_165⟩ : ∃ z : ES, z = va_up X_2 (lix i_1) Y_164 := ⟨_, rfl⟩
    have hw := hw X_165 eX_165
    have hW : Wd g lay (put 26 o X_165 E0) H := by rw [eX_165, ← putUp (k := lix i_1) (isLi_lt (isLi_lix i_1))]; exact hW
    obtain ⟨v_166, ev_166⟩ : ∃ z : Int32, z = i_1 + 1 := ⟨_, rfl⟩
    have hw := hw v_166 ev_166
    refine lv_iinc (v := v_166) (lv' := [(3, .int v_166), (0, .ref o), (1, .int p1), (2, .int p2)]) hx hb dX0_renew_16 hl (k := 3) rfl (by rw [ev_166]; rfl) (by decide) rfl (fun ls hl => ?_)
    refine lv_goto (tgt := 2) hx hb dX0_renew_19 (by decide) ?_
    exact ih_2 (v_166, X_165) _ _ _ hw hW hS (lv_sub hl [1, 2, 3, 0] rfl)
set_option maxHeartbeats 4000000 in
set_option maxRecDepth 100000 in
theorem c_X0_copyFrom {l : Launch} {g : GG} {lay : LY} {E0 : ES} {o o2 : Nat} {X Y : ES} {K : ES → Prop} (hA : okL g lay) (HB : XL g lay o) (HB2 : XL g lay o2) (hX : ∀ k, k < 26 → E0 (o + k) = X k) (hY : ∀ k, k < 26 → E0 (o2 + k) = Y k) (hd : o2 + 26 ≤ o ∨ o + 26 ≤ o2) (hw : wp_X0_copyFrom X Y K) : JMv l g lay yX0_copyFrom wsX0_copyFrom rmX0_copyFrom [.ref o, .ref o2] E0 (fun E1 => ∃ X1 : ES, E1 = put 26 o X1 E0 ∧ K X1) := by
  refine Met.ofW (cc := cX0_copyFrom) (maxL := 3) (ret := none) (by decide) rfl ?_
  intro p e s m args below meth c s₁ B hml hv
  obtain ⟨rfl, hK, hW⟩ := hv
  have hx := B.exec
  have hb := B.bytes
  have hr := B.returns
  have hts := gd_of (atoms_spec (ws := wsX0_copyFrom) B.pre)
  have hown : s.vm.findClass RX0 = some m.cls := findClass_of_methodNamed B.named
  have hlocks := B.notSynchronized
  have hS : va_S (Ab g) s.heap s.heap [] := va_S.rf
  have hW : Wd g lay (put 26 o X E0) s.heap := by rw [putSelf hX]; exact hW
  have hl := lv_entry [.ref o, .ref o2] (n := 3) (Nat.le_of_ble_eq_true rfl)
  rw [lg_entry_eq]
  generalize (lg_sl [.ref o, .ref o2] ++ List.replicate (3 - (lg_sl [.ref o, .ref o2]).length) Slot.unset).toArray = ls at hl ⊢
  have hl : lv_has ls 3 [(0, .ref o), (1, .ref o2)] := hl
  unfold wp_X0_copyFrom at hw
  refine lv_iconst (v := 0) hx hb dX0_copyFrom_0 (by decide) ?_
  refine lv_istore_n (lv' := [(2, .int 0), (0, .ref o), (1, .ref o2)]) hx hb dX0_copyFrom_1 rfl hl (by decide) rfl (fun ls hl => ?_)
  obtain ⟨n_482, hw⟩ := hw
  refine w_loop (KT := Int32 → ES → Prop) (σ := Int32 × ES) (Wl := fun Kx_2 n_2 q => wpl_X0_copyFrom_2 Y K Kx_2 n_2 q.1 q.2) (Pw := fun q => Wd g lay (put 26 o q.2 E0)) (lvf := fun q => [(0, .ref o), (1, .ref o2), (2, .int q.1)]) (nL := 3) n_482 (0, X) hw hW hS (lv_sub hl [1, 2, 0] rfl) (fun _ h => h) (fun Kx_2 eK_2 n_2 q H locs ls hw hW hS hl ih_2 => ?_)
  obtain ⟨i_1, X_2⟩ := q
  try dsimp only at hw
  rw [wpl_X0_copyFrom_2] at hw
  have hl : lv_has ls 3 [(0, .ref o), (1, .ref o2), (2, .int i_1)] := hl
  have hW : Wd g lay (put 26 o X_2 E0) H := hW
  refine lv_iload_n hx hb dX0_copyFrom_2 rfl (lv_at hl 2 rfl) ?_
  refine lv_bipush (v := 16) hx hb dX0_copyFrom_3 (by decide) ?_
  refine lv_icmp_ge (tgt := 27) hx hb dX0_copyFrom_5 (by decide) (fun c_321 => ?_) (fun c_321 => ?_)
  · have hw := hw.1 c_321
    rw [eK_2] at hw
    refine lv_iconst (v := 0) hx hb dX0_copyFrom_27 (by decide) ?_
    refine lv_istore_n (lv' := [(2, .int 0), (0, .ref o), (1, .ref o2)]) hx hb dX0_copyFrom_28 rfl hl (by decide) rfl (fun ls hl => ?_)
    obtain ⟨n_476, hw⟩ := hw
    refine w_loop (KT := Int32 → ES → Prop) (σ := Int32 × ES) (Wl := fun Kx_29 n_29 q => wpl_X0_copyFrom_29 Y K Kx_29 n_29 q.1 q.2) (Pw := fun q => Wd g lay (put 26 o q.2 E0)) (lvf := fun q => [(0, .ref o), (1, .ref o2), (2, .int q.1)]) (nL := 3) n_476 (0, X_2) hw hW hS (lv_sub hl [1, 2, 0] rfl) (fun _ h => h) (fun Kx_29 eK_29 n_29 q H locs ls hw hW hS hl ih_29 => ?_)
    obtain ⟨i_322, X_323⟩ := q
    try dsimp only at hw
    rw [wpl_X0_copyFrom_29] at hw
    have hl : lv_has ls 3 [(0, .ref o), (1, .ref o2), (2, .int i_322)] := hl
    have hW : Wd g lay (put 26 o X_323 E0) H := hW
    refine lv_iload_n hx hb dX0_copyFrom_29 rfl (lv_at hl 2 rfl) ?_
    refine lv_iconst (v := 4) hx hb dX0_copyFrom_30 (by decide) ?_
    refine lv_icmp_ge (tgt := 53) hx hb dX0_copyFrom_31 (by decide) (fun c_424 => ?_) (fun c_424 => ?_)
    · have hw := hw.1 c_424
      rw [eK_29] at hw
      refine lv_iconst (v := 0) hx hb dX0_copyFrom_53 (by decide) ?_
      refine lv_istore_n (lv' := [(2, .int 0), (0, .ref o), (1, .ref o2)]) hx hb dX0_copyFrom_54 rfl hl (by decide) rfl (fun ls hl => ?_)
      obtain ⟨n_470, hw⟩ := hw
      refine w_loop (KT := Int32 → ES → Prop) (σ := Int32 × ES) (Wl := fun Kx_55 n_55 q => wpl_X0_copyFrom_55 Y K Kx_55 n_55 q.1 q.2) (Pw := fun q => Wd g lay (put 26 o q.2 E0)) (lvf := fun q => [(0, .ref o), (1, .ref o2), (2, .int q.1)]) (nL := 3) n_470 (0, X_323) hw hW hS (lv_sub hl [1, 2, 0] rfl) (fun _ h => h) (fun Kx_55 eK_55 n_55 q H locs ls hw hW hS hl ih_55 => ?_)
      obtain ⟨i_425, X_426⟩ := q
      try dsimp only at hw
      rw [wpl_X0_copyFrom_55] at hw
      have hl : lv_has ls 3 [(0, .ref o), (1, .ref o2), (2, .int i_425)] := hl
      have hW : Wd g lay (put 26 o X_426 E0) H := hW
      refine lv_iload_n hx hb dX0_copyFrom_55 rfl (lv_at hl 2 rfl) ?_
      refine lv_aload_n hx hb dX0_copyFrom_56 rfl (lv_at hl 0 rfl) ?_
      refine g_X0_42 hx hb hown hts hK hW HB.1 (putAt (k := 0) (by decide)) dX0_copyFrom_57 ?_
      refine w_alen (v := 5) hx hb hK hW 0 rfl HB.2.2.2.1 (putAt (k := 5) (by decide)) rfl rfl dX0_copyFrom_60 ?_
      refine lv_icmp_ge (tgt := 81) hx hb dX0_copyFrom_61 (by decide) (fun c_455 => ?_) (fun c_455 => ?_)
      · have hw := hw.1 c_455
        rw [eK_55] at hw
        refine lv_aload_n hx hb dX0_copyFrom_81 rfl (lv_at hl 0 rfl) ?_
        refine lv_aload_n hx hb dX0_copyFrom_82 rfl (lv_at hl 1 rfl) ?_
        refine g_X0_45 hx hb hown hts hK hW HB2.1 ((putOff (offTwo (k := 0) hd (by decide))).trans (hY 0 (by decide))) dX0_copyFrom_83 ?_
        obtain ⟨X_456, eX_456⟩ : ∃ z : ES, z = va_up X_426 0 (upd (X_426 0) 5 ((Y 0) 5)) := ⟨_, rfl⟩
        have hw := hw X_456 eX_456
        refine p_X0_45 (E1 := put 26 o X_456 E0) hx hb hown hts hK hA hW hS HB.1 (putAt (k := 0) (by decide)) dX0_copyFrom_86 (puE (k := 0) (by decide) eX_456) (fun H locs hW hS => ?_)
        refine lv_aload_n hx hb dX0_copyFrom_89 rfl (lv_at hl 0 rfl) ?_
        refine lv_aload_n hx hb dX0_copyFrom_90 rfl (lv_at hl 1 rfl) ?_
        refine g_X0_49 hx hb hown hts hK hW HB2.1 ((putOff (offTwo (k := 0) hd (by decide))).trans (hY 0 (by decide))) dX0_copyFrom_91 ?_
        obtain ⟨X_457, eX_457⟩ : ∃ z : ES, z = va_up X_456 0 (upd (X_456 0) 6 ((Y 0) 6)) := ⟨_, rfl⟩
        have hw := hw X_457 eX_457
        refine p_X0_49 (E1 := put 26 o X_457 E0) hx hb hown hts hK hA hW hS HB.1 (putAt (k := 0) (by decide)) dX0_copyFrom_94 (puE (k := 0) (by decide) eX_457) (fun H locs hW hS => ?_)
        refine lv_aload_n hx hb dX0_copyFrom_97 rfl (lv_at hl 0 rfl) ?_
        refine lv_aload_n hx hb dX0_copyFrom_98 rfl (lv_at hl 1 rfl) ?_
        refine g_X0_52 hx hb hown hts hK hW HB2.1 ((putOff (offTwo (k := 0) hd (by decide))).trans (hY 0 (by decide))) dX0_copyFrom_99 ?_
        obtain ⟨X_458, eX_458⟩ : ∃ z : ES, z = va_up X_457 0 (upd (X_457 0) 7 ((Y 0) 7)) := ⟨_, rfl⟩
        have hw := hw X_458 eX_458
        refine p_X0_52 (E1 := put 26 o X_458 E0) hx hb hown hts hK hA hW hS HB.1 (putAt (k := 0) (by decide)) dX0_copyFrom_102 (puE (k := 0) (by decide) eX_458) (fun H locs hW hS => ?_)
        refine lv_aload_n hx hb dX0_copyFrom_105 rfl (lv_at hl 0 rfl) ?_
        refine lv_aload_n hx hb dX0_copyFrom_106 rfl (lv_at hl 1 rfl) ?_
        refine g_X0_55 hx hb hown hts hK hW HB2.1 ((putOff (offTwo (k := 0) hd (by decide))).trans (hY 0 (by decide))) dX0_copyFrom_107 ?_
        obtain ⟨X_459, eX_459⟩ : ∃ z : ES, z = va_up X_458 0 (upd (X_458 0) 8 ((Y 0) 8)) := ⟨_, rfl⟩
        have hw := hw X_459 eX_459
        refine p_X0_55 (E1 := put 26 o X_459 E0) hx hb hown hts hK hA hW hS HB.1 (putAt (k := 0) (by decide)) dX0_copyFrom_110 (puE (k := 0) (by decide) eX_459) (fun H locs hW hS => ?_)
        refine lv_aload_n hx hb dX0_copyFrom_113 rfl (lv_at hl 0 rfl) ?_
        refine lv_aload_n hx hb dX0_copyFrom_114 rfl (lv_at hl 1 rfl) ?_
        refine g_X0_58 hx hb hown hts hK hW HB2.1 ((putOff (offTwo (k := 0) hd (by decide))).trans (hY 0 (by decide))) dX0_copyFrom_115 ?_
        obtain ⟨X_460, eX_460⟩ : ∃ z : ES, z = va_up X_459 0 (upd (X_459 0) 9 ((Y 0) 9)) := ⟨_, rfl⟩
        have hw := hw X_460 eX_460
        refine p_X0_58 (E1 := put 26 o X_460 E0) hx hb hown hts hK hA hW hS HB.1 (putAt (k := 0) (by decide)) dX0_copyFrom_118 (puE (k := 0) (by decide) eX_460) (fun H locs hW hS => ?_)
        refine lv_aload_n hx hb dX0_copyFrom_121 rfl (lv_at hl 0 rfl) ?_
        refine lv_aload_n hx hb dX0_copyFrom_122 rfl (lv_at hl 1 rfl) ?_
        refine g_X0_61 hx hb hown hts hK hW HB2.1 ((putOff (offTwo (k := 0) hd (by decide))).trans (hY 0 (by decide))) dX0_copyFrom_123 ?_
        obtain ⟨X_461, eX_461⟩ : ∃ z : ES, z = va_up X_460 0 (upd (X_460 0) 10 ((Y 0) 10)) := ⟨_, rfl⟩
        have hw := hw X_461 eX_461
        refine p_X0_61 (E1 := put 26 o X_461 E0) hx hb hown hts hK hA hW hS HB.1 (putAt (k := 0) (by decide)) dX0_copyFrom_126 (puE (k := 0) (by decide) eX_461) (fun H locs hW hS => ?_)
        refine lv_aload_n hx hb dX0_copyFrom_129 rfl (lv_at hl 0 rfl) ?_
        refine lv_aload_n hx hb dX0_copyFrom_130 rfl (lv_at hl 1 rfl) ?_
        refine g_X0_64 hx hb hown hts hK hW HB2.1 ((putOff (offTwo (k := 0) hd (by decide))).trans (hY 0 (by decide))) dX0_copyFrom_131 ?_
        obtain ⟨X_462, eX_462⟩ : ∃ z : ES, z = va_up X_461 0 (upd (X_461 0) 11 ((Y 0) 11)) := ⟨_, rfl⟩
        have hw := hw X_462 eX_462
        refine p_X0_64 (E1 := put 26 o X_462 E0) hx hb hown hts hK hA hW hS HB.1 (putAt (k := 0) (by decide)) dX0_copyFrom_134 (puE (k := 0) (by decide) eX_462) (fun H locs hW hS => ?_)
        refine lv_aload_n hx hb dX0_copyFrom_137 rfl (lv_at hl 0 rfl) ?_
        refine lv_aload_n hx hb dX0_copyFrom_138 rfl (lv_at hl 1 rfl) ?_
        refine g_X0_67 hx hb hown hts hK hW HB2.1 ((putOff (offTwo (k := 0) hd (by decide))).trans (hY 0 (by decide))) dX0_copyFrom_139 ?_
        obtain ⟨X_463, eX_463⟩ : ∃ z : ES, z = va_up X_462 0 (upd (X_462 0) 12 ((Y 0) 12)) := ⟨_, rfl⟩
        have hw := hw X_463 eX_463
        refine p_X0_67 (E1 := put 26 o X_463 E0) hx hb hown hts hK hA hW hS HB.1 (putAt (k := 0) (by decide)) dX0_copyFrom_142 (puE (k := 0) (by decide) eX_463) (fun H locs hW hS => ?_)
        refine lv_aload_n hx hb dX0_copyFrom_145 rfl (lv_at hl 0 rfl) ?_
        refine lv_aload_n hx hb dX0_copyFrom_146 rfl (lv_at hl 1 rfl) ?_
        refine g_X0_70 hx hb hown hts hK hW HB2.1 ((putOff (offTwo (k := 0) hd (by decide))).trans (hY 0 (by decide))) dX0_copyFrom_147 ?_
        obtain ⟨X_464, eX_464⟩ : ∃ z : ES, z = va_up X_463 0 (upd (X_463 0) 13 ((Y 0) 13)) := ⟨_, rfl⟩
        have hw := hw X_464 eX_464
        refine p_X0_70 (E1 := put 26 o X_464 E0) hx hb hown hts hK hA hW hS HB.1 (putAt (k := 0) (by decide)) dX0_copyFrom_150 (puE (k := 0) (by decide) eX_464) (fun H locs hW hS => ?_)
        refine lv_aload_n hx hb dX0_copyFrom_153 rfl (lv_at hl 0 rfl) ?_
        refine lv_aload_n hx hb dX0_copyFrom_154 rfl (lv_at hl 1 rfl) ?_
        refine g_X0_73 hx hb hown hts hK hW HB2.1 ((putOff (offTwo (k := 0) hd (by decide))).trans (hY 0 (by decide))) dX0_copyFrom_155 ?_
        obtain ⟨X_465, eX_465⟩ : ∃ z : ES, z = va_up X_464 0 (upd (X_464 0) 14 ((Y 0) 14)) := ⟨_, rfl⟩
        have hw := hw X_465 eX_465
        refine p_X0_73 (E1 := put 26 o X_465 E0) hx hb hown hts hK hA hW hS HB.1 (putAt (k := 0) (by decide)) dX0_copyFrom_158 (puE (k := 0) (by decide) eX_465) (fun H locs hW hS => ?_)
        refine lv_aload_n hx hb dX0_copyFrom_161 rfl (lv_at hl 0 rfl) ?_
        refine lv_aload_n hx hb dX0_copyFrom_162 rfl (lv_at hl 1 rfl) ?_
        refine g_X0_76 hx hb hown hts hK hW HB2.1 ((putOff (offTwo (k := 0) hd (by decide))).trans (hY 0 (by decide))) dX0_copyFrom_163 ?_
        obtain ⟨X_466, eX_466⟩ : ∃ z : ES, z = va_up X_465 0 (upd (X_465 0) 15 ((Y 0) 15)) := ⟨_, rfl⟩
        have hw := hw X_466 eX_466
        refine p_X0_76 (E1 := put 26 o X_466 E0) hx hb hown hts hK hA hW hS HB.1 (putAt (k := 0) (by decide)) dX0_copyFrom_166 (puE (k := 0) (by decide) eX_466) (fun H locs hW hS => ?_)
        exact w_vret hx hb hr hlocks hW hS ⟨X_466, rfl, hw⟩ dX0_copyFrom_169
      · have hw := hw.2 c_455
        refine lv_aload_n hx hb dX0_copyFrom_64 rfl (lv_at hl 0 rfl) ?_
        refine g_X0_42 hx hb hown hts hK hW HB.1 (putAt (k := 0) (by decide)) dX0_copyFrom_65 ?_
        refine lv_iload_n hx hb dX0_copyFrom_68 rfl (lv_at hl 2 rfl) ?_
        refine lv_aload_n hx hb dX0_copyFrom_69 rfl (lv_at hl 1 rfl) ?_
        refine lv_iload_n hx hb dX0_copyFrom_70 rfl (lv_at hl 2 rfl) ?_
        refine w_cvi (As := [.int i_425]) (rest := [.int i_425, .ref (o + 5)]) hx hb hml hown hts hK hW hS hl.1 (c_X0_settingAt hA HB2 (fun k hk => (putOff (offTwo hd hk)).trans (hY k hk))  hw) (k_X0_79 hts ⟨Nat.le_of_ble_eq_true rfl, Nat.le_of_ble_eq_true rfl⟩) (w_recv hK hW HB2.1 ((putOff (offTwo (k := 0) hd (by decide))).trans (hY 0 (by decide))) rfl rfl) rfl rfl (Nat.le_of_ble_eq_true rfl) dX0_copyFrom_71 ⟨Nat.zero_le _, Nat.zero_le _⟩ (fun r_467 Ez H locs hw2 hW hS => ?_)
        obtain ⟨ez, hw⟩ := hw2
        rw [ez] at hW
        obtain ⟨hin, hw⟩ := hw
        obtain ⟨X_468, eX_468⟩ : ∃ z : ES, z = va_up X_426 5 (upd (X_426 5) i_425.toNatClampNeg r_467) := ⟨_, rfl⟩
        have hw := hw X_468 eX_468
        refine w_iast (E1 := put 26 o X_468 E0) hx hb hK hA hW hS HB.2.2.2.1 (putAt (k := 5) (by decide)) hin dX0_copyFrom_74 (puE (k := 5) (by decide) eX_468) (fun H locs hW hS => ?_)
        obtain ⟨v_469, ev_469⟩ : ∃ z : Int32, z = i_425 + 1 := ⟨_, rfl⟩
        have hw := hw v_469 ev_469
        refine lv_iinc (v := v_469) (lv' := [(2, .int v_469), (0, .ref o), (1, .ref o2)]) hx hb dX0_copyFrom_75 hl (k := 2) rfl (by rw [ev_469]; rfl) (by decide) rfl (fun ls hl => ?_)
        refine lv_goto (tgt := 55) hx hb dX0_copyFrom_78 (by decide) ?_
        exact ih_55 (v_469, X_468) _ _ _ hw hW hS (lv_sub hl [1, 2, 0] rfl)
    · have hw := hw.2 c_424
      refine lv_aload_n hx hb dX0_copyFrom_34 rfl (lv_at hl 0 rfl) ?_
      refine lv_iload_n hx hb dX0_copyFrom_35 rfl (lv_at hl 2 rfl) ?_
      refine w_cvr (As := [.int i_322]) (rest := []) hx hb hml hown hts hK hW hS hl.1 (c_X0_finderAt hA HB i_322) (k_X0_90 hts ⟨Nat.le_of_ble_eq_true rfl, Nat.le_of_ble_eq_true rfl⟩) (w_recv hK hW HB.1 (putAt (k := 0) (by decide)) rfl rfl) rfl rfl (Nat.le_of_ble_eq_true rfl) dX0_copyFrom_36 ⟨Nat.zero_le _, Nat.zero_le _⟩ (fun q_471 Ez H locs hw2 hW hS => ?_)
      obtain ⟨ez, rfl⟩ := hw2
      rw [ez] at hW
      refine lv_aload_n hx hb dX0_copyFrom_39 rfl (lv_at hl 1 rfl) ?_
      refine lv_iload_n hx hb dX0_copyFrom_40 rfl (lv_at hl 2 rfl) ?_
      refine w_cvr (As := [.int i_322]) (rest := [.ref (o + fix i_322)]) hx hb hml hown hts hK hW hS hl.1 (c_X0_finderAt hA HB2 i_322) (k_X0_90 hts ⟨Nat.le_of_ble_eq_true rfl, Nat.le_of_ble_eq_true rfl⟩) (w_recv hK hW HB2.1 ((putOff (offTwo (k := 0) hd (by decide))).trans (hY 0 (by decide))) rfl rfl) rfl rfl (Nat.le_of_ble_eq_true rfl) dX0_copyFrom_41 ⟨Nat.zero_le _, Nat.zero_le _⟩ (fun q_472 Ez H locs hw2 hW hS => ?_)
      obtain ⟨ez, rfl⟩ := hw2
      rw [ez] at hW
      refine w_cvv (As := [.ref (o2 + fix i_322)]) (rest := []) hx hb hml hown hts hK hW hS hl.1 (c_X1_copyFrom hA (HB.2.2.2.2.2 _ (isFi_fix i_322)) (HB2.2.2.2.2.2 _ (isFi_fix i_322)) (putAt (k := fix i_322) (isFi_lt (isFi_fix i_322))) ((putOff (offTwo (k := (fix i_322)) hd (isFi_lt (isFi_fix i_322)))).trans (hY (fix i_322) (isFi_lt (isFi_fix i_322)))) (neTwo hd (isFi_lt (isFi_fix i_322)) (isFi_lt (isFi_fix i_322))) hw) (k_X0_99 hts ⟨Nat.le_of_ble_eq_true rfl, Nat.le_of_ble_eq_true rfl⟩) (w_recv hK hW (HB.2.2.2.2.2 _ (isFi_fix i_322)) (putAt (k := fix i_322) (isFi_lt (isFi_fix i_322))) rfl rfl) rfl rfl (Nat.le_of_ble_eq_true rfl) dX0_copyFrom_44 ⟨Nat.zero_le _, Nat.zero_le _⟩ (fun Ez H locs hw2 hW hS => ?_)
      obtain ⟨Y_473, ez, hw⟩ := hw2
      rw [ez] at hW
      obtain ⟨X_474, eX_474⟩ : ∃ z : ES, z = va_up X_323 (fix i_322) Y_473 := ⟨_, rfl⟩
      have hw := hw X_474 eX_474
      have hW : Wd g lay (put 26 o X_474 E0) H := by rw [eX_474, ← putUp (k := fix i_322) (isFi_lt (isFi_fix i_322))]; exact hW
      obtain ⟨v_475, ev_475⟩ : ∃ z : Int32, z = i_322 + 1 := ⟨_, rfl⟩
      have hw := hw v_475 ev_475
      refine lv_iinc (v := v_475) (lv' := [(2, .int v_475), (0, .ref o), (1, .ref o2)]) hx hb dX0_copyFrom_47 hl (k := 2) rfl (by rw [ev_475]; rfl) (by decide) rfl (fun ls hl => ?_)
      refine lv_goto (tgt := 29) hx hb dX0_copyFrom_50 (by decide) ?_
      exact ih_29 (v_475, X_474) _ _ _ hw hW hS (lv_sub hl [1, 2, 0] rfl)
  · have hw := hw.2 c_321
    refine lv_aload_n hx hb dX0_copyFrom_8 rfl (lv_at hl 0 rfl) ?_
    refine lv_iload_n hx hb dX0_copyFrom_9 rfl (lv_at hl 2 rfl) ?_
    refine w_cvr (As := [.int i_1]) (rest := []) hx hb hml hown hts hK hW hS hl.1 (c_X0_lineAt hA HB i_1) (k_X0_83 hts ⟨Nat.le_of_ble_eq_true rfl, Nat.le_of_ble_eq_true rfl⟩) (w_recv hK hW HB.1 (putAt (k := 0) (by decide)) rfl rfl) rfl rfl (Nat.le_of_ble_eq_true rfl) dX0_copyFrom_10 ⟨Nat.zero_le _, Nat.zero_le _⟩ (fun q_477 Ez H locs hw2 hW hS => ?_)
    obtain ⟨ez, rfl⟩ := hw2
    rw [ez] at hW
    refine lv_aload_n hx hb dX0_copyFrom_13 rfl (lv_at hl 1 rfl) ?_
    refine lv_iload_n hx hb dX0_copyFrom_14 rfl (lv_at hl 2 rfl) ?_
    refine w_cvr (As := [.int i_1]) (rest := [.ref (o + lix i_1)]) hx hb hml hown hts hK hW hS hl.1 (c_X0_lineAt hA HB2 i_1) (k_X0_83 hts ⟨Nat.le_of_ble_eq_true rfl, Nat.le_of_ble_eq_true rfl⟩) (w_recv hK hW HB2.1 ((putOff (offTwo (k := 0) hd (by decide))).trans (hY 0 (by decide))) rfl rfl) rfl rfl (Nat.le_of_ble_eq_true rfl) dX0_copyFrom_15 ⟨Nat.zero_le _, Nat.zero_le _⟩ (fun q_478 Ez H locs hw2 hW hS => ?_)
    obtain ⟨ez, rfl⟩ := hw2
    rw [ez] at hW
    refine w_cvv (As := [.ref (o2 + lix i_1)]) (rest := []) hx hb hml hown hts hK hW hS hl.1 (c_X2_copyFrom hA (HB.2.2.2.2.1 _ (isLi_lix i_1)) (HB2.2.2.2.2.1 _ (isLi_lix i_1)) (putAt (k := lix i_1) (isLi_lt (isLi_lix i_1))) ((putOff (offTwo (k := (lix i_1)) hd (isLi_lt (isLi_lix i_1)))).trans (hY (lix i_1) (isLi_lt (isLi_lix i_1)))) (neTwo hd (isLi_lt (isLi_lix i_1)) (isLi_lt (isLi_lix i_1))) hw) (k_X0_95 hts ⟨Nat.le_of_ble_eq_true rfl, Nat.le_of_ble_eq_true rfl⟩) (w_recv hK hW (HB.2.2.2.2.1 _ (isLi_lix i_1)) (putAt (k := lix i_1) (isLi_lt (isLi_lix i_1))) rfl rfl) rfl rfl (Nat.le_of_ble_eq_true rfl) dX0_copyFrom_18 ⟨Nat.zero_le _, Nat.zero_le _⟩ (fun Ez H locs hw2 hW hS => ?_)
    obtain ⟨Y_479, ez, hw⟩ := hw2
    rw [ez] at hW
    obtain ⟨X_480, eX_480⟩ : ∃ z : ES, z = va_up X_2 (lix i_1) Y_479 := ⟨_, rfl⟩
    have hw := hw X_480 eX_480
    have hW : Wd g lay (put 26 o X_480 E0) H := by rw [eX_480, ← putUp (k := lix i_1) (isLi_lt (isLi_lix i_1))]; exact hW
    obtain ⟨v_481, ev_481⟩ : ∃ z : Int32, z = i_1 + 1 := ⟨_, rfl⟩
    have hw := hw v_481 ev_481
    refine lv_iinc (v := v_481) (lv' := [(2, .int v_481), (0, .ref o), (1, .ref o2)]) hx hb dX0_copyFrom_21 hl (k := 2) rfl (by rw [ev_481]; rfl) (by decide) rfl (fun ls hl => ?_)
    refine lv_goto (tgt := 2) hx hb dX0_copyFrom_24 (by decide) ?_
    exact ih_2 (v_481, X_480) _ _ _ hw hW hS (lv_sub hl [1, 2, 0] rfl)
set_option maxHeartbeats 4000000 in
set_option maxRecDepth 100000 in
theorem c_X0_liftLine {l : Launch} {g : GG} {lay : LY} {E0 : ES} {o : Nat} {X : ES} {p1 : Int32} {K : Int32 → ES → Prop} (hA : okL g lay) (HB : XL g lay o) (hX : ∀ k, k < 26 → E0 (o + k) = X k) (hw : wp_X0_liftLine X p1 K) : JMi l g lay yX0_liftLine wsX0_liftLine rmX0_liftLine [.ref o, .int p1] E0 (fun r E1 => ∃ X1 : ES, E1 = put 26 o X1 E0 ∧ K r X1) := by
  refine Met.ofW (cc := cX0_liftLine) (maxL := 3) (ret := (some .int)) (by decide) rfl ?_
  intro p e s m args below meth c s₁ B hml hv
  obtain ⟨rfl, hK, hW⟩ := hv
  have hx := B.exec
  have hb := B.bytes
  have hr := B.returns
  have hts := gd_of (atoms_spec (ws := wsX0_liftLine) B.pre)
  have hown : s.vm.findClass RX0 = some m.cls := findClass_of_methodNamed B.named
  have hlocks := B.notSynchronized
  have hS : va_S (Ab g) s.heap s.heap [] := va_S.rf
  have hW : Wd g lay (put 26 o X E0) s.heap := by rw [putSelf hX]; exact hW
  have hl := lv_entry [.ref o, .int p1] (n := 3) (Nat.le_of_ble_eq_true rfl)
  rw [lg_entry_eq]
  generalize (lg_sl [.ref o, .int p1] ++ List.replicate (3 - (lg_sl [.ref o, .int p1]).length) Slot.unset).toArray = ls at hl ⊢
  have hl : lv_has ls 3 [(0, .ref o), (1, .int p1)] := hl
  unfold wp_X0_liftLine at hw
  refine lv_aload_n hx hb dX0_liftLine_0 rfl (lv_at hl 0 rfl) ?_
  refine lv_iload_n hx hb dX0_liftLine_1 rfl (lv_at hl 1 rfl) ?_
  refine w_cvr (As := [.int p1]) (rest := []) hx hb hml hown hts hK hW hS hl.1 (c_X0_lineAt hA HB p1) (k_X0_83 hts ⟨Nat.le_of_ble_eq_true rfl, Nat.le_of_ble_eq_true rfl⟩) (w_recv hK hW HB.1 (putAt (k := 0) (by decide)) rfl rfl) rfl rfl (Nat.le_of_ble_eq_true rfl) dX0_liftLine_2 ⟨Nat.zero_le _, Nat.zero_le _⟩ (fun q_1 Ez H locs hw2 hW hS => ?_)
  obtain ⟨ez, rfl⟩ := hw2
  rw [ez] at hW
  refine lv_astore_n (lv' := [(2, .ref (o + lix p1)), (0, .ref o), (1, .int p1)]) hx hb dX0_liftLine_5 rfl hl (by decide) rfl (fun ls hl => ?_)
  refine lv_aload_n hx hb dX0_liftLine_6 rfl (lv_at hl 0 rfl) ?_
  refine g_X0_102 hx hb hown hts hK hW (HB.2.2.2.2.1 _ (isLi_lix p1)) (putAt (k := lix p1) (isLi_lt (isLi_lix p1))) dX0_liftLine_7 ?_
  refine lv_if_eq (tgt := 16) hx hb dX0_liftLine_10 (by decide) (fun c_2 => ?_) (fun c_2 => ?_)
  · have hw := hw.1 c_2
    refine lv_aload_n hx hb dX0_liftLine_16 rfl (lv_at hl 0 rfl) ?_
    refine lv_iconst (v := 1) hx hb dX0_liftLine_17 (by decide) ?_
    obtain ⟨X_3, eX_3⟩ : ∃ z : ES, z = va_up X (lix p1) (upd (X (lix p1)) 1 1) := ⟨_, rfl⟩
    have hw := hw X_3 eX_3
    refine p_X0_102 (E1 := put 26 o X_3 E0) hx hb hown hts hK hA hW hS (HB.2.2.2.2.1 _ (isLi_lix p1)) (putAt (k := lix p1) (isLi_lt (isLi_lix p1))) (Or.inr rfl) dX0_liftLine_18 (puE (k := lix p1) (isLi_lt (isLi_lix p1)) eX_3) (fun H locs hW hS => ?_)
    refine lv_aload_n hx hb dX0_liftLine_21 rfl (lv_at hl 0 rfl) ?_
    refine g_X0_106 hx hb hown hts hK hW (HB.2.2.2.2.1 _ (isLi_lix p1)) (putAt (k := lix p1) (isLi_lt (isLi_lix p1))) dX0_liftLine_22 ?_
    refine lv_if_ne (tgt := 56) hx hb dX0_liftLine_25 (by decide) (fun c_4 => ?_) (fun c_4 => ?_)
    · have hw := hw.2 c_4
      refine lv_aload_n hx hb dX0_liftLine_56 rfl (lv_at hl 0 rfl) ?_
      refine g_X0_106 hx hb hown hts hK hW (HB.2.2.2.2.1 _ (isLi_lix p1)) (putAt (k := lix p1) (isLi_lt (isLi_lix p1))) dX0_liftLine_57 ?_
      exact w_iret hx hb hr hlocks hW hS ⟨X_3, rfl, hw⟩ dX0_liftLine_60
    · have hw := hw.1 c_4
      refine lv_aload_n hx hb dX0_liftLine_28 rfl (lv_at hl 0 rfl) ?_
      refine lv_iconst (v := 1) hx hb dX0_liftLine_29 (by decide) ?_
      obtain ⟨X_5, eX_5⟩ : ∃ z : ES, z = va_up X_3 (lix p1) (upd (X_3 (lix p1)) 0 1) := ⟨_, rfl⟩
      have hw := hw X_5 eX_5
      refine p_X0_106 (E1 := put 26 o X_5 E0) hx hb hown hts hK hA hW hS (HB.2.2.2.2.1 _ (isLi_lix p1)) (putAt (k := lix p1) (isLi_lt (isLi_lix p1))) dX0_liftLine_30 (puE (k := lix p1) (isLi_lt (isLi_lix p1)) eX_5) (fun H locs hW hS => ?_)
      refine lv_aload_n hx hb dX0_liftLine_33 rfl (lv_at hl 0 rfl) ?_
      refine lv_iconst (v := 0) hx hb dX0_liftLine_34 (by decide) ?_
      obtain ⟨X_6, eX_6⟩ : ∃ z : ES, z = va_up X_5 (lix p1) (upd (X_5 (lix p1)) 3 0) := ⟨_, rfl⟩
      have hw := hw X_6 eX_6
      refine p_X0_109 (E1 := put 26 o X_6 E0) hx hb hown hts hK hA hW hS (HB.2.2.2.2.1 _ (isLi_lix p1)) (putAt (k := lix p1) (isLi_lt (isLi_lix p1))) dX0_liftLine_35 (puE (k := lix p1) (isLi_lt (isLi_lix p1)) eX_6) (fun H locs hW hS => ?_)
      refine lv_aload_n hx hb dX0_liftLine_38 rfl (lv_at hl 1 rfl) ?_
      refine lv_dup hx hb dX0_liftLine_39 rfl ?_
      refine g_X0_58 hx hb hown hts hK hW HB.1 (putAt (k := 0) (by decide)) dX0_liftLine_40 ?_
      refine lv_iconst (v := 1) hx hb dX0_liftLine_43 (by decide) ?_
      refine lv_iadd hx hb dX0_liftLine_44 ?_
      obtain ⟨X_7, eX_7⟩ : ∃ z : ES, z = va_up X_6 0 (upd (X_6 0) 9 (((X_6 0) 9) + 1)) := ⟨_, rfl⟩
      have hw := hw X_7 eX_7
      refine p_X0_58 (E1 := put 26 o X_7 E0) hx hb hown hts hK hA hW hS HB.1 (putAt (k := 0) (by decide)) dX0_liftLine_45 (puE (k := 0) (by decide) eX_7) (fun H locs hW hS => ?_)
      refine lv_aload_n hx hb dX0_liftLine_48 rfl (lv_at hl 0 rfl) ?_
      refine lv_aload_n hx hb dX0_liftLine_49 rfl (lv_at hl 1 rfl) ?_
      refine g_X0_58 hx hb hown hts hK hW HB.1 (putAt (k := 0) (by decide)) dX0_liftLine_50 ?_
      obtain ⟨X_8, eX_8⟩ : ∃ z : ES, z = va_up X_7 (lix p1) (upd (X_7 (lix p1)) 7 ((X_7 0) 9)) := ⟨_, rfl⟩
      have hw := hw X_8 eX_8
      refine p_X0_112 (E1 := put 26 o X_8 E0) hx hb hown hts hK hA hW hS (HB.2.2.2.2.1 _ (isLi_lix p1)) (putAt (k := lix p1) (isLi_lt (isLi_lix p1))) dX0_liftLine_53 (puE (k := lix p1) (isLi_lt (isLi_lix p1)) eX_8) (fun H locs hW hS => ?_)
      refine lv_aload_n hx hb dX0_liftLine_56 rfl (lv_at hl 0 rfl) ?_
      refine g_X0_106 hx hb hown hts hK hW (HB.2.2.2.2.1 _ (isLi_lix p1)) (putAt (k := lix p1) (isLi_lt (isLi_lix p1))) dX0_liftLine_57 ?_
      exact w_iret hx hb hr hlocks hW hS ⟨X_8, rfl, hw⟩ dX0_liftLine_60
  · have hw := hw.2 c_2
    refine lv_bipush (v := (-5)) hx hb dX0_liftLine_13 (by decide) ?_
    exact w_iret hx hb hr hlocks hW hS ⟨X, rfl, hw⟩ dX0_liftLine_15
set_option maxHeartbeats 4000000 in
set_option maxRecDepth 100000 in
theorem c_X0_release {l : Launch} {g : GG} {lay : LY} {E0 : ES} {o : Nat} {X : ES} {k1 : Nat} {K : ES → Prop} (hA : okL g lay) (HB : XL g lay o) (hX : ∀ k, k < 26 → E0 (o + k) = X k) (h1 : isFi k1) (hw : wp_X0_release X k1 K) : JMv l g lay yX0_release wsX0_release rmX0_release [.ref o, .ref (o + k1)] E0 (fun E1 => ∃ X1 : ES, E1 = put 26 o X1 E0 ∧ K X1) := by
  refine Met.ofW (cc := cX0_release) (maxL := 3) (ret := none) (by decide) rfl ?_
  intro p e s m args below meth c s₁ B hml hv
  obtain ⟨rfl, hK, hW⟩ := hv
  have hx := B.exec
  have hb := B.bytes
  have hr := B.returns
  have hts := gd_of (atoms_spec (ws := wsX0_release) B.pre)
  have hown : s.vm.findClass RX0 = some m.cls := findClass_of_methodNamed B.named
  have hlocks := B.notSynchronized
  have hS : va_S (Ab g) s.heap s.heap [] := va_S.rf
  have hW : Wd g lay (put 26 o X E0) s.heap := by rw [putSelf hX]; exact hW
  have hl := lv_entry [.ref o, .ref (o + k1)] (n := 3) (Nat.le_of_ble_eq_true rfl)
  rw [lg_entry_eq]
  generalize (lg_sl [.ref o, .ref (o + k1)] ++ List.replicate (3 - (lg_sl [.ref o, .ref (o + k1)]).length) Slot.unset).toArray = ls at hl ⊢
  have hl : lv_has ls 3 [(0, .ref o), (1, .ref (o + k1))] := hl
  unfold wp_X0_release at hw
  refine lv_aload_n hx hb dX0_release_0 rfl (lv_at hl 0 rfl) ?_
  refine lv_aload_n hx hb dX0_release_1 rfl (lv_at hl 1 rfl) ?_
  refine g_X0_129 hx hb hown hts hK hW (HB.2.2.2.2.2 _ h1) (putAt (k := k1) (isFi_lt h1)) dX0_release_2 ?_
  refine w_cvr (As := [.int ((X k1) 9)]) (rest := []) hx hb hml hown hts hK hW hS hl.1 (c_X0_lineAt hA HB ((X k1) 9)) (k_X0_83 hts ⟨Nat.le_of_ble_eq_true rfl, Nat.le_of_ble_eq_true rfl⟩) (w_recv hK hW HB.1 (putAt (k := 0) (by decide)) rfl rfl) rfl rfl (Nat.le_of_ble_eq_true rfl) dX0_release_5 ⟨Nat.zero_le _, Nat.zero_le _⟩ (fun q_1 Ez H locs hw2 hW hS => ?_)
  obtain ⟨ez, rfl⟩ := hw2
  rw [ez] at hW
  refine lv_astore_n (lv' := [(2, .ref (o + lix ((X k1) 9))), (0, .ref o), (1, .ref (o + k1))]) hx hb dX0_release_8 rfl hl (by decide) rfl (fun ls hl => ?_)
  refine lv_aload_n hx hb dX0_release_9 rfl (lv_at hl 0 rfl) ?_
  refine w_cvi (As := []) (rest := []) hx hb hml hown hts hK hW hS hl.1 (c_X2_isCalledByAnother hA (HB.2.2.2.2.1 _ (isLi_lix ((X k1) 9))) (putAt (k := lix ((X k1) 9)) (isLi_lt (isLi_lix ((X k1) 9)))) hw) (k_X0_115 hts ⟨Nat.le_of_ble_eq_true rfl, Nat.le_of_ble_eq_true rfl⟩) (w_recv hK hW (HB.2.2.2.2.1 _ (isLi_lix ((X k1) 9))) (putAt (k := lix ((X k1) 9)) (isLi_lt (isLi_lix ((X k1) 9)))) rfl rfl) rfl rfl (Nat.le_of_ble_eq_true rfl) dX0_release_10 ⟨Nat.zero_le _, Nat.zero_le _⟩ (fun r_2 Ez H locs hw2 hW hS => ?_)
  obtain ⟨ez, z_3, hw⟩ := hw2
  rw [ez] at hW
  refine lv_if_eq (tgt := 38) hx hb dX0_release_13 (by decide) (fun c_4 => ?_) (fun c_4 => ?_)
  · have hw := hw.1 c_4
    refine lv_aload_n hx hb dX0_release_38 rfl (lv_at hl 0 rfl) ?_
    refine w_cvi (As := []) (rest := []) hx hb hml hown hts hK hW hS hl.1 (c_X2_isCalledByAnother hA (HB.2.2.2.2.1 _ (isLi_lix ((X k1) 9))) (putAt (k := lix ((X k1) 9)) (isLi_lt (isLi_lix ((X k1) 9)))) hw) (k_X0_115 hts ⟨Nat.le_of_ble_eq_true rfl, Nat.le_of_ble_eq_true rfl⟩) (w_recv hK hW (HB.2.2.2.2.1 _ (isLi_lix ((X k1) 9))) (putAt (k := lix ((X k1) 9)) (isLi_lt (isLi_lix ((X k1) 9)))) rfl rfl) rfl rfl (Nat.le_of_ble_eq_true rfl) dX0_release_39 ⟨Nat.zero_le _, Nat.zero_le _⟩ (fun r_5 Ez H locs hw2 hW hS => ?_)
    obtain ⟨ez, z_6, hw⟩ := hw2
    rw [ez] at hW
    refine lv_if_eq (tgt := 50) hx hb dX0_release_42 (by decide) (fun c_7 => ?_) (fun c_7 => ?_)
    · have hw := hw.1 c_7
      refine lv_aload_n hx hb dX0_release_50 rfl (lv_at hl 2 rfl) ?_
      refine w_cvv (As := []) (rest := []) hx hb hml hown hts hK hW hS hl.1 (c_X1_becomeFree hA (HB.2.2.2.2.2 _ h1) (putAt (k := k1) (isFi_lt h1)) hw) (k_X0_132 hts ⟨Nat.le_of_ble_eq_true rfl, Nat.le_of_ble_eq_true rfl⟩) (w_recv hK hW (HB.2.2.2.2.2 _ h1) (putAt (k := k1) (isFi_lt h1)) rfl rfl) rfl rfl (Nat.le_of_ble_eq_true rfl) dX0_release_51 ⟨Nat.zero_le _, Nat.zero_le _⟩ (fun Ez H locs hw2 hW hS => ?_)
      obtain ⟨Y_8, ez, hw⟩ := hw2
      rw [ez] at hW
      obtain ⟨X_9, eX_9⟩ : ∃ z : ES, z = va_up X k1 Y_8 := ⟨_, rfl⟩
      have hw := hw X_9 eX_9
      have hW : Wd g lay (put 26 o X_9 E0) H := by rw [eX_9, ← putUp (k := k1) (isFi_lt h1)]; exact hW
      exact w_vret hx hb hr hlocks hW hS ⟨X_9, rfl, hw⟩ dX0_release_54
    · have hw := hw.2 c_7
      refine lv_aload_n hx hb dX0_release_45 rfl (lv_at hl 0 rfl) ?_
      refine lv_iconst (v := 0) hx hb dX0_release_46 (by decide) ?_
      refine w_cvv (As := [.int 0]) (rest := []) hx hb hml hown hts hK hW hS hl.1 (c_X2_leaveCall hA (HB.2.2.2.2.1 _ (isLi_lix ((X k1) 9))) (putAt (k := lix ((X k1) 9)) (isLi_lt (isLi_lix ((X k1) 9)))) hw) (k_X0_125 hts ⟨Nat.le_of_ble_eq_true rfl, Nat.le_of_ble_eq_true rfl⟩) (w_recv hK hW (HB.2.2.2.2.1 _ (isLi_lix ((X k1) 9))) (putAt (k := lix ((X k1) 9)) (isLi_lt (isLi_lix ((X k1) 9)))) rfl rfl) rfl rfl (Nat.le_of_ble_eq_true rfl) dX0_release_47 ⟨Nat.zero_le _, Nat.zero_le _⟩ (fun Ez H locs hw2 hW hS => ?_)
      obtain ⟨Y_10, ez, hw⟩ := hw2
      rw [ez] at hW
      obtain ⟨X_11, eX_11⟩ : ∃ z : ES, z = va_up X (lix ((X k1) 9)) Y_10 := ⟨_, rfl⟩
      have hw := hw X_11 eX_11
      have hW : Wd g lay (put 26 o X_11 E0) H := by rw [eX_11, ← putUp (k := lix ((X k1) 9)) (isLi_lt (isLi_lix ((X k1) 9)))]; exact hW
      refine lv_aload_n hx hb dX0_release_50 rfl (lv_at hl 2 rfl) ?_
      refine w_cvv (As := []) (rest := []) hx hb hml hown hts hK hW hS hl.1 (c_X1_becomeFree hA (HB.2.2.2.2.2 _ h1) (putAt (k := k1) (isFi_lt h1)) hw) (k_X0_132 hts ⟨Nat.le_of_ble_eq_true rfl, Nat.le_of_ble_eq_true rfl⟩) (w_recv hK hW (HB.2.2.2.2.2 _ h1) (putAt (k := k1) (isFi_lt h1)) rfl rfl) rfl rfl (Nat.le_of_ble_eq_true rfl) dX0_release_51 ⟨Nat.zero_le _, Nat.zero_le _⟩ (fun Ez H locs hw2 hW hS => ?_)
      obtain ⟨Y_12, ez, hw⟩ := hw2
      rw [ez] at hW
      obtain ⟨X_13, eX_13⟩ : ∃ z : ES, z = va_up X_11 k1 Y_12 := ⟨_, rfl⟩
      have hw := hw X_13 eX_13
      have hW : Wd g lay (put 26 o X_13 E0) H := by rw [eX_13, ← putUp (k := k1) (isFi_lt h1)]; exact hW
      exact w_vret hx hb hr hlocks hW hS ⟨X_13, rfl, hw⟩ dX0_release_54
  · have hw := hw.2 c_4
    refine lv_aload_n hx hb dX0_release_16 rfl (lv_at hl 0 rfl) ?_
    refine g_X0_102 hx hb hown hts hK hW (HB.2.2.2.2.1 _ (isLi_lix ((X k1) 9))) (putAt (k := lix ((X k1) 9)) (isLi_lt (isLi_lix ((X k1) 9)))) dX0_release_17 ?_
    refine lv_if_eq (tgt := 38) hx hb dX0_release_20 (by decide) (fun c_14 => ?_) (fun c_14 => ?_)
    · have hw := hw.1 c_14
      refine lv_aload_n hx hb dX0_release_38 rfl (lv_at hl 0 rfl) ?_
      refine w_cvi (As := []) (rest := []) hx hb hml hown hts hK hW hS hl.1 (c_X2_isCalledByAnother hA (HB.2.2.2.2.1 _ (isLi_lix ((X k1) 9))) (putAt (k := lix ((X k1) 9)) (isLi_lt (isLi_lix ((X k1) 9)))) hw) (k_X0_115 hts ⟨Nat.le_of_ble_eq_true rfl, Nat.le_of_ble_eq_true rfl⟩) (w_recv hK hW (HB.2.2.2.2.1 _ (isLi_lix ((X k1) 9))) (putAt (k := lix ((X k1) 9)) (isLi_lt (isLi_lix ((X k1) 9)))) rfl rfl) rfl rfl (Nat.le_of_ble_eq_true rfl) dX0_release_39 ⟨Nat.zero_le _, Nat.zero_le _⟩ (fun r_15 Ez H locs hw2 hW hS => ?_)
      obtain ⟨ez, z_16, hw⟩ := hw2
      rw [ez] at hW
      refine lv_if_eq (tgt := 50) hx hb dX0_release_42 (by decide) (fun c_17 => ?_) (fun c_17 => ?_)
      · have hw := hw.1 c_17
        refine lv_aload_n hx hb dX0_release_50 rfl (lv_at hl 2 rfl) ?_
        refine w_cvv (As := []) (rest := []) hx hb hml hown hts hK hW hS hl.1 (c_X1_becomeFree hA (HB.2.2.2.2.2 _ h1) (putAt (k := k1) (isFi_lt h1)) hw) (k_X0_132 hts ⟨Nat.le_of_ble_eq_true rfl, Nat.le_of_ble_eq_true rfl⟩) (w_recv hK hW (HB.2.2.2.2.2 _ h1) (putAt (k := k1) (isFi_lt h1)) rfl rfl) rfl rfl (Nat.le_of_ble_eq_true rfl) dX0_release_51 ⟨Nat.zero_le _, Nat.zero_le _⟩ (fun Ez H locs hw2 hW hS => ?_)
        obtain ⟨Y_18, ez, hw⟩ := hw2
        rw [ez] at hW
        obtain ⟨X_19, eX_19⟩ : ∃ z : ES, z = va_up X k1 Y_18 := ⟨_, rfl⟩
        have hw := hw X_19 eX_19
        have hW : Wd g lay (put 26 o X_19 E0) H := by rw [eX_19, ← putUp (k := k1) (isFi_lt h1)]; exact hW
        exact w_vret hx hb hr hlocks hW hS ⟨X_19, rfl, hw⟩ dX0_release_54
      · have hw := hw.2 c_17
        refine lv_aload_n hx hb dX0_release_45 rfl (lv_at hl 0 rfl) ?_
        refine lv_iconst (v := 0) hx hb dX0_release_46 (by decide) ?_
        refine w_cvv (As := [.int 0]) (rest := []) hx hb hml hown hts hK hW hS hl.1 (c_X2_leaveCall hA (HB.2.2.2.2.1 _ (isLi_lix ((X k1) 9))) (putAt (k := lix ((X k1) 9)) (isLi_lt (isLi_lix ((X k1) 9)))) hw) (k_X0_125 hts ⟨Nat.le_of_ble_eq_true rfl, Nat.le_of_ble_eq_true rfl⟩) (w_recv hK hW (HB.2.2.2.2.1 _ (isLi_lix ((X k1) 9))) (putAt (k := lix ((X k1) 9)) (isLi_lt (isLi_lix ((X k1) 9)))) rfl rfl) rfl rfl (Nat.le_of_ble_eq_true rfl) dX0_release_47 ⟨Nat.zero_le _, Nat.zero_le _⟩ (fun Ez H locs hw2 hW hS => ?_)
        obtain ⟨Y_20, ez, hw⟩ := hw2
        rw [ez] at hW
        obtain ⟨X_21, eX_21⟩ : ∃ z : ES, z = va_up X (lix ((X k1) 9)) Y_20 := ⟨_, rfl⟩
        have hw := hw X_21 eX_21
        have hW : Wd g lay (put 26 o X_21 E0) H := by rw [eX_21, ← putUp (k := lix ((X k1) 9)) (isLi_lt (isLi_lix ((X k1) 9)))]; exact hW
        refine lv_aload_n hx hb dX0_release_50 rfl (lv_at hl 2 rfl) ?_
        refine w_cvv (As := []) (rest := []) hx hb hml hown hts hK hW hS hl.1 (c_X1_becomeFree hA (HB.2.2.2.2.2 _ h1) (putAt (k := k1) (isFi_lt h1)) hw) (k_X0_132 hts ⟨Nat.le_of_ble_eq_true rfl, Nat.le_of_ble_eq_true rfl⟩) (w_recv hK hW (HB.2.2.2.2.2 _ h1) (putAt (k := k1) (isFi_lt h1)) rfl rfl) rfl rfl (Nat.le_of_ble_eq_true rfl) dX0_release_51 ⟨Nat.zero_le _, Nat.zero_le _⟩ (fun Ez H locs hw2 hW hS => ?_)
        obtain ⟨Y_22, ez, hw⟩ := hw2
        rw [ez] at hW
        obtain ⟨X_23, eX_23⟩ : ∃ z : ES, z = va_up X_21 k1 Y_22 := ⟨_, rfl⟩
        have hw := hw X_23 eX_23
        have hW : Wd g lay (put 26 o X_23 E0) H := by rw [eX_23, ← putUp (k := k1) (isFi_lt h1)]; exact hW
        exact w_vret hx hb hr hlocks hW hS ⟨X_23, rfl, hw⟩ dX0_release_54
    · have hw := hw.2 c_14
      refine lv_aload_n hx hb dX0_release_23 rfl (lv_at hl 0 rfl) ?_
      refine lv_bipush (v := 6) hx hb dX0_release_24 (by decide) ?_
      obtain ⟨X_24, eX_24⟩ : ∃ z : ES, z = va_up X (lix ((X k1) 9)) (upd (X (lix ((X k1) 9))) 3 6) := ⟨_, rfl⟩
      have hw := hw X_24 eX_24
      refine p_X0_109 (E1 := put 26 o X_24 E0) hx hb hown hts hK hA hW hS (HB.2.2.2.2.1 _ (isLi_lix ((X k1) 9))) (putAt (k := lix ((X k1) 9)) (isLi_lt (isLi_lix ((X k1) 9)))) dX0_release_26 (puE (k := lix ((X k1) 9)) (isLi_lt (isLi_lix ((X k1) 9))) eX_24) (fun H locs hW hS => ?_)
      refine lv_aload_n hx hb dX0_release_29 rfl (lv_at hl 0 rfl) ?_
      refine lv_bipush (v := 10) hx hb dX0_release_30 (by decide) ?_
      refine w_cvv (As := [.int 10]) (rest := []) hx hb hml hown hts hK hW hS hl.1 (c_X2_leaveCall hA (HB.2.2.2.2.1 _ (isLi_lix ((X k1) 9))) (putAt (k := lix ((X k1) 9)) (isLi_lt (isLi_lix ((X k1) 9)))) hw) (k_X0_125 hts ⟨Nat.le_of_ble_eq_true rfl, Nat.le_of_ble_eq_true rfl⟩) (w_recv hK hW (HB.2.2.2.2.1 _ (isLi_lix ((X k1) 9))) (putAt (k := lix ((X k1) 9)) (isLi_lt (isLi_lix ((X k1) 9)))) rfl rfl) rfl rfl (Nat.le_of_ble_eq_true rfl) dX0_release_32 ⟨Nat.zero_le _, Nat.zero_le _⟩ (fun Ez H locs hw2 hW hS => ?_)
      obtain ⟨Y_25, ez, hw⟩ := hw2
      rw [ez] at hW
      obtain ⟨X_26, eX_26⟩ : ∃ z : ES, z = va_up X_24 (lix ((X k1) 9)) Y_25 := ⟨_, rfl⟩
      have hw := hw X_26 eX_26
      have hW : Wd g lay (put 26 o X_26 E0) H := by rw [eX_26, ← putUp (k := lix ((X k1) 9)) (isLi_lt (isLi_lix ((X k1) 9)))]; exact hW
      refine lv_goto (tgt := 50) hx hb dX0_release_35 (by decide) ?_
      refine lv_aload_n hx hb dX0_release_50 rfl (lv_at hl 2 rfl) ?_
      refine w_cvv (As := []) (rest := []) hx hb hml hown hts hK hW hS hl.1 (c_X1_becomeFree hA (HB.2.2.2.2.2 _ h1) (putAt (k := k1) (isFi_lt h1)) hw) (k_X0_132 hts ⟨Nat.le_of_ble_eq_true rfl, Nat.le_of_ble_eq_true rfl⟩) (w_recv hK hW (HB.2.2.2.2.2 _ h1) (putAt (k := k1) (isFi_lt h1)) rfl rfl) rfl rfl (Nat.le_of_ble_eq_true rfl) dX0_release_51 ⟨Nat.zero_le _, Nat.zero_le _⟩ (fun Ez H locs hw2 hW hS => ?_)
      obtain ⟨Y_27, ez, hw⟩ := hw2
      rw [ez] at hW
      obtain ⟨X_28, eX_28⟩ : ∃ z : ES, z = va_up X_26 k1 Y_27 := ⟨_, rfl⟩
      have hw := hw X_28 eX_28
      have hW : Wd g lay (put 26 o X_28 E0) H := by rw [eX_28, ← putUp (k := k1) (isFi_lt h1)]; exact hW
      exact w_vret hx hb hr hlocks hW hS ⟨X_28, rfl, hw⟩ dX0_release_54
set_option maxHeartbeats 4000000 in
set_option maxRecDepth 100000 in
theorem c_X0_hangLine {l : Launch} {g : GG} {lay : LY} {E0 : ES} {o : Nat} {X : ES} {p1 : Int32} {K : Int32 → ES → Prop} (hA : okL g lay) (HB : XL g lay o) (hX : ∀ k, k < 26 → E0 (o + k) = X k) (hw : wp_X0_hangLine X p1 K) : JMi l g lay yX0_hangLine wsX0_hangLine rmX0_hangLine [.ref o, .int p1] E0 (fun r E1 => ∃ X1 : ES, E1 = put 26 o X1 E0 ∧ K r X1) := by
  refine Met.ofW (cc := cX0_hangLine) (maxL := 4) (ret := (some .int)) (by decide) rfl ?_
  intro p e s m args below meth c s₁ B hml hv
  obtain ⟨rfl, hK, hW⟩ := hv
  have hx := B.exec
  have hb := B.bytes
  have hr := B.returns
  have hts := gd_of (atoms_spec (ws := wsX0_hangLine) B.pre)
  have hown : s.vm.findClass RX0 = some m.cls := findClass_of_methodNamed B.named
  have hlocks := B.notSynchronized
  have hS : va_S (Ab g) s.heap s.heap [] := va_S.rf
  have hW : Wd g lay (put 26 o X E0) s.heap := by rw [putSelf hX]; exact hW
  have hl := lv_entry [.ref o, .int p1] (n := 4) (Nat.le_of_ble_eq_true rfl)
  rw [lg_entry_eq]
  generalize (lg_sl [.ref o, .int p1] ++ List.replicate (4 - (lg_sl [.ref o, .int p1]).length) Slot.unset).toArray = ls at hl ⊢
  have hl : lv_has ls 4 [(0, .ref o), (1, .int p1)] := hl
  unfold wp_X0_hangLine at hw
  refine lv_aload_n hx hb dX0_hangLine_0 rfl (lv_at hl 0 rfl) ?_
  refine lv_iload_n hx hb dX0_hangLine_1 rfl (lv_at hl 1 rfl) ?_
  refine w_cvr (As := [.int p1]) (rest := []) hx hb hml hown hts hK hW hS hl.1 (c_X0_lineAt hA HB p1) (k_X0_83 hts ⟨Nat.le_of_ble_eq_true rfl, Nat.le_of_ble_eq_true rfl⟩) (w_recv hK hW HB.1 (putAt (k := 0) (by decide)) rfl rfl) rfl rfl (Nat.le_of_ble_eq_true rfl) dX0_hangLine_2 ⟨Nat.zero_le _, Nat.zero_le _⟩ (fun q_1 Ez H locs hw2 hW hS => ?_)
  obtain ⟨ez, rfl⟩ := hw2
  rw [ez] at hW
  refine lv_astore_n (lv' := [(2, .ref (o + lix p1)), (0, .ref o), (1, .int p1)]) hx hb dX0_hangLine_5 rfl hl (by decide) rfl (fun ls hl => ?_)
  refine lv_aload_n hx hb dX0_hangLine_6 rfl (lv_at hl 0 rfl) ?_
  refine g_X0_102 hx hb hown hts hK hW (HB.2.2.2.2.1 _ (isLi_lix p1)) (putAt (k := lix p1) (isLi_lt (isLi_lix p1))) dX0_hangLine_7 ?_
  refine lv_if_ne (tgt := 16) hx hb dX0_hangLine_10 (by decide) (fun c_2 => ?_) (fun c_2 => ?_)
  · have hw := hw.2 c_2
    refine lv_aload_n hx hb dX0_hangLine_16 rfl (lv_at hl 0 rfl) ?_
    refine g_X0_106 hx hb hown hts hK hW (HB.2.2.2.2.1 _ (isLi_lix p1)) (putAt (k := lix p1) (isLi_lt (isLi_lix p1))) dX0_hangLine_17 ?_
    refine lv_topi (fun v_3 ev_3 => ?_)
    have hw := hw v_3 ev_3
    refine lv_istore_n (lv' := [(3, .int v_3), (2, .ref (o + lix p1)), (0, .ref o), (1, .int p1)]) hx hb dX0_hangLine_20 rfl hl (by decide) rfl (fun ls hl => ?_)
    refine lv_aload_n hx hb dX0_hangLine_21 rfl (lv_at hl 1 rfl) ?_
    refine lv_iconst (v := 0) hx hb dX0_hangLine_22 (by decide) ?_
    obtain ⟨X_4, eX_4⟩ : ∃ z : ES, z = va_up X (lix p1) (upd (X (lix p1)) 1 0) := ⟨_, rfl⟩
    have hw := hw X_4 eX_4
    refine p_X0_102 (E1 := put 26 o X_4 E0) hx hb hown hts hK hA hW hS (HB.2.2.2.2.1 _ (isLi_lix p1)) (putAt (k := lix p1) (isLi_lt (isLi_lix p1))) (Or.inl rfl) dX0_hangLine_23 (puE (k := lix p1) (isLi_lt (isLi_lix p1)) eX_4) (fun H locs hW hS => ?_)
    refine lv_aload_n hx hb dX0_hangLine_26 rfl (lv_at hl 1 rfl) ?_
    refine w_cvi (As := []) (rest := []) hx hb hml hown hts hK hW hS hl.1 (c_X2_isCalledByAnother hA (HB.2.2.2.2.1 _ (isLi_lix p1)) (putAt (k := lix p1) (isLi_lt (isLi_lix p1))) hw) (k_X0_115 hts ⟨Nat.le_of_ble_eq_true rfl, Nat.le_of_ble_eq_true rfl⟩) (w_recv hK hW (HB.2.2.2.2.1 _ (isLi_lix p1)) (putAt (k := lix p1) (isLi_lt (isLi_lix p1))) rfl rfl) rfl rfl (Nat.le_of_ble_eq_true rfl) dX0_hangLine_27 ⟨Nat.zero_le _, Nat.zero_le _⟩ (fun r_5 Ez H locs hw2 hW hS => ?_)
    obtain ⟨ez, z_6, hw⟩ := hw2
    rw [ez] at hW
    refine lv_if_ne (tgt := 59) hx hb dX0_hangLine_30 (by decide) (fun c_7 => ?_) (fun c_7 => ?_)
    · have hw := hw.2 c_7
      refine lv_iload_n hx hb dX0_hangLine_59 rfl (lv_at hl 0 rfl) ?_
      exact w_iret hx hb hr hlocks hW hS ⟨X_4, rfl, hw⟩ dX0_hangLine_60
    · have hw := hw.1 c_7
      refine lv_aload_n hx hb dX0_hangLine_33 rfl (lv_at hl 1 rfl) ?_
      refine g_X0_119 hx hb hown hts hK hW (HB.2.2.2.2.1 _ (isLi_lix p1)) (putAt (k := lix p1) (isLi_lt (isLi_lix p1))) dX0_hangLine_34 ?_
      refine lv_bipush (v := (-6)) hx hb dX0_hangLine_37 (by decide) ?_
      refine lv_icmp_eq (tgt := 54) hx hb dX0_hangLine_39 (by decide) (fun c_8 => ?_) (fun c_8 => ?_)
      · have hw := hw.1 c_8
        refine lv_aload_n hx hb dX0_hangLine_54 rfl (lv_at hl 1 rfl) ?_
        refine lv_iconst (v := 0) hx hb dX0_hangLine_55 (by decide) ?_
        refine w_cvv (As := [.int 0]) (rest := []) hx hb hml hown hts hK hW hS hl.1 (c_X2_leaveCall hA (HB.2.2.2.2.1 _ (isLi_lix p1)) (putAt (k := lix p1) (isLi_lt (isLi_lix p1))) hw) (k_X0_125 hts ⟨Nat.le_of_ble_eq_true rfl, Nat.le_of_ble_eq_true rfl⟩) (w_recv hK hW (HB.2.2.2.2.1 _ (isLi_lix p1)) (putAt (k := lix p1) (isLi_lt (isLi_lix p1))) rfl rfl) rfl rfl (Nat.le_of_ble_eq_true rfl) dX0_hangLine_56 ⟨Nat.zero_le _, Nat.zero_le _⟩ (fun Ez H locs hw2 hW hS => ?_)
        obtain ⟨Y_9, ez, hw⟩ := hw2
        rw [ez] at hW
        obtain ⟨X_10, eX_10⟩ : ∃ z : ES, z = va_up X_4 (lix p1) Y_9 := ⟨_, rfl⟩
        have hw := hw X_10 eX_10
        have hW : Wd g lay (put 26 o X_10 E0) H := by rw [eX_10, ← putUp (k := lix p1) (isLi_lt (isLi_lix p1))]; exact hW
        refine lv_iload_n hx hb dX0_hangLine_59 rfl (lv_at hl 0 rfl) ?_
        exact w_iret hx hb hr hlocks hW hS ⟨X_10, rfl, hw⟩ dX0_hangLine_60
      · have hw := hw.2 c_8
        refine lv_aload_n hx hb dX0_hangLine_42 rfl (lv_at hl 2 rfl) ?_
        refine lv_aload_n hx hb dX0_hangLine_43 rfl (lv_at hl 2 rfl) ?_
        refine lv_aload_n hx hb dX0_hangLine_44 rfl (lv_at hl 1 rfl) ?_
        refine g_X0_119 hx hb hown hts hK hW (HB.2.2.2.2.1 _ (isLi_lix p1)) (putAt (k := lix p1) (isLi_lt (isLi_lix p1))) dX0_hangLine_45 ?_
        refine w_cvr (As := [.int ((X_4 (lix p1)) 6)]) (rest := [.ref o]) hx hb hml hown hts hK hW hS hl.1 (c_X0_finderAt hA HB ((X_4 (lix p1)) 6)) (k_X0_90 hts ⟨Nat.le_of_ble_eq_true rfl, Nat.le_of_ble_eq_true rfl⟩) (w_recv hK hW HB.1 (putAt (k := 0) (by decide)) rfl rfl) rfl rfl (Nat.le_of_ble_eq_true rfl) dX0_hangLine_48 ⟨Nat.zero_le _, Nat.zero_le _⟩ (fun q_11 Ez H locs hw2 hW hS => ?_)
        obtain ⟨ez, rfl⟩ := hw2
        rw [ez] at hW
        refine w_cvv (As := [.ref (o + fix ((X_4 (lix p1)) 6))]) (rest := []) hx hb hml hown hts hK hW hS hl.1 (c_X0_release hA HB (fun k hk => putAt hk) (isFi_fix ((X_4 (lix p1)) 6)) hw) (k_X0_122 hts ⟨Nat.le_of_ble_eq_true rfl, Nat.le_of_ble_eq_true rfl⟩) (w_recv hK hW HB.1 (putAt (k := 0) (by decide)) rfl rfl) rfl rfl (Nat.le_of_ble_eq_true rfl) dX0_hangLine_51 ⟨Nat.zero_le _, Nat.zero_le _⟩ (fun Ez H locs hw2 hW hS => ?_)
        obtain ⟨X_12, ez, hw⟩ := hw2
        rw [ez, putPut] at hW
        refine lv_aload_n hx hb dX0_hangLine_54 rfl (lv_at hl 1 rfl) ?_
        refine lv_iconst (v := 0) hx hb dX0_hangLine_55 (by decide) ?_
        refine w_cvv (As := [.int 0]) (rest := []) hx hb hml hown hts hK hW hS hl.1 (c_X2_leaveCall hA (HB.2.2.2.2.1 _ (isLi_lix p1)) (putAt (k := lix p1) (isLi_lt (isLi_lix p1))) hw) (k_X0_125 hts ⟨Nat.le_of_ble_eq_true rfl, Nat.le_of_ble_eq_true rfl⟩) (w_recv hK hW (HB.2.2.2.2.1 _ (isLi_lix p1)) (putAt (k := lix p1) (isLi_lt (isLi_lix p1))) rfl rfl) rfl rfl (Nat.le_of_ble_eq_true rfl) dX0_hangLine_56 ⟨Nat.zero_le _, Nat.zero_le _⟩ (fun Ez H locs hw2 hW hS => ?_)
        obtain ⟨Y_13, ez, hw⟩ := hw2
        rw [ez] at hW
        obtain ⟨X_14, eX_14⟩ : ∃ z : ES, z = va_up X_12 (lix p1) Y_13 := ⟨_, rfl⟩
        have hw := hw X_14 eX_14
        have hW : Wd g lay (put 26 o X_14 E0) H := by rw [eX_14, ← putUp (k := lix p1) (isLi_lt (isLi_lix p1))]; exact hW
        refine lv_iload_n hx hb dX0_hangLine_59 rfl (lv_at hl 0 rfl) ?_
        exact w_iret hx hb hr hlocks hW hS ⟨X_14, rfl, hw⟩ dX0_hangLine_60
  · have hw := hw.1 c_2
    refine lv_bipush (v := (-5)) hx hb dX0_hangLine_13 (by decide) ?_
    exact w_iret hx hb hr hlocks hW hS ⟨X, rfl, hw⟩ dX0_hangLine_15
set_option maxHeartbeats 4000000 in
set_option maxRecDepth 100000 in
theorem c_X0_dialDigit {l : Launch} {g : GG} {lay : LY} {E0 : ES} {o : Nat} {X : ES} {p1 : Int32} {p2 : Int32} {K : Int32 → ES → Prop} (hA : okL g lay) (HB : XL g lay o) (hX : ∀ k, k < 26 → E0 (o + k) = X k) (hw : wp_X0_dialDigit X p1 p2 K) : JMi l g lay yX0_dialDigit wsX0_dialDigit rmX0_dialDigit [.ref o, .int p1, .int p2] E0 (fun r E1 => ∃ X1 : ES, E1 = put 26 o X1 E0 ∧ K r X1) := by
  refine Met.ofW (cc := cX0_dialDigit) (maxL := 4) (ret := (some .int)) (by decide) rfl ?_
  intro p e s m args below meth c s₁ B hml hv
  obtain ⟨rfl, hK, hW⟩ := hv
  have hx := B.exec
  have hb := B.bytes
  have hr := B.returns
  have hts := gd_of (atoms_spec (ws := wsX0_dialDigit) B.pre)
  have hown : s.vm.findClass RX0 = some m.cls := findClass_of_methodNamed B.named
  have hlocks := B.notSynchronized
  have hS : va_S (Ab g) s.heap s.heap [] := va_S.rf
  have hW : Wd g lay (put 26 o X E0) s.heap := by rw [putSelf hX]; exact hW
  have hl := lv_entry [.ref o, .int p1, .int p2] (n := 4) (Nat.le_of_ble_eq_true rfl)
  rw [lg_entry_eq]
  generalize (lg_sl [.ref o, .int p1, .int p2] ++ List.replicate (4 - (lg_sl [.ref o, .int p1, .int p2]).length) Slot.unset).toArray = ls at hl ⊢
  have hl : lv_has ls 4 [(0, .ref o), (1, .int p1), (2, .int p2)] := hl
  unfold wp_X0_dialDigit at hw
  refine lv_aload_n hx hb dX0_dialDigit_0 rfl (lv_at hl 0 rfl) ?_
  refine lv_iload_n hx hb dX0_dialDigit_1 rfl (lv_at hl 1 rfl) ?_
  refine w_cvr (As := [.int p1]) (rest := []) hx hb hml hown hts hK hW hS hl.1 (c_X0_lineAt hA HB p1) (k_X0_83 hts ⟨Nat.le_of_ble_eq_true rfl, Nat.le_of_ble_eq_true rfl⟩) (w_recv hK hW HB.1 (putAt (k := 0) (by decide)) rfl rfl) rfl rfl (Nat.le_of_ble_eq_true rfl) dX0_dialDigit_2 ⟨Nat.zero_le _, Nat.zero_le _⟩ (fun q_1 Ez H locs hw2 hW hS => ?_)
  obtain ⟨ez, rfl⟩ := hw2
  rw [ez] at hW
  refine lv_astore_n (lv' := [(3, .ref (o + lix p1)), (0, .ref o), (1, .int p1), (2, .int p2)]) hx hb dX0_dialDigit_5 rfl hl (by decide) rfl (fun ls hl => ?_)
  refine lv_aload_n hx hb dX0_dialDigit_6 rfl (lv_at hl 0 rfl) ?_
  refine g_X0_106 hx hb hown hts hK hW (HB.2.2.2.2.1 _ (isLi_lix p1)) (putAt (k := lix p1) (isLi_lt (isLi_lix p1))) dX0_dialDigit_7 ?_
  refine lv_iconst (v := 2) hx hb dX0_dialDigit_10 (by decide) ?_
  refine lv_icmp_eq (tgt := 25) hx hb dX0_dialDigit_11 (by decide) (fun c_2 => ?_) (fun c_2 => ?_)
  · have hw := hw.1 c_2
    refine lv_aload_n hx hb dX0_dialDigit_25 rfl (lv_at hl 0 rfl) ?_
    refine g_X0_135 hx hb hown hts hK hW (HB.2.2.2.2.1 _ (isLi_lix p1)) (putAt (k := lix p1) (isLi_lt (isLi_lix p1))) dX0_dialDigit_26 ?_
    refine lv_iconst (v := 4) hx hb dX0_dialDigit_29 (by decide) ?_
    refine lv_icmp_lt (tgt := 36) hx hb dX0_dialDigit_30 (by decide) (fun c_3 => ?_) (fun c_3 => ?_)
    · have hw := hw.1 c_3
      refine lv_aload_n hx hb dX0_dialDigit_36 rfl (lv_at hl 0 rfl) ?_
      refine lv_iload_n hx hb dX0_dialDigit_37 rfl (lv_at hl 3 rfl) ?_
      refine w_cvv (As := [.int p2]) (rest := []) hx hb hml hown hts hK hW hS hl.1 (c_X2_appendDigit hA (HB.2.2.2.2.1 _ (isLi_lix p1)) (putAt (k := lix p1) (isLi_lt (isLi_lix p1))) hw) (k_X0_138 hts ⟨Nat.le_of_ble_eq_true rfl, Nat.le_of_ble_eq_true rfl⟩) (w_recv hK hW (HB.2.2.2.2.1 _ (isLi_lix p1)) (putAt (k := lix p1) (isLi_lt (isLi_lix p1))) rfl rfl) rfl rfl (Nat.le_of_ble_eq_true rfl) dX0_dialDigit_38 ⟨Nat.zero_le _, Nat.zero_le _⟩ (fun Ez H locs hw2 hW hS => ?_)
      obtain ⟨Y_4, ez, hw⟩ := hw2
      rw [ez] at hW
      obtain ⟨X_5, eX_5⟩ : ∃ z : ES, z = va_up X (lix p1) Y_4 := ⟨_, rfl⟩
      have hw := hw X_5 eX_5
      have hW : Wd g lay (put 26 o X_5 E0) H := by rw [eX_5, ← putUp (k := lix p1) (isLi_lt (isLi_lix p1))]; exact hW
      refine lv_aload_n hx hb dX0_dialDigit_41 rfl (lv_at hl 0 rfl) ?_
      refine g_X0_135 hx hb hown hts hK hW (HB.2.2.2.2.1 _ (isLi_lix p1)) (putAt (k := lix p1) (isLi_lt (isLi_lix p1))) dX0_dialDigit_42 ?_
      exact w_iret hx hb hr hlocks hW hS ⟨X_5, rfl, hw⟩ dX0_dialDigit_45
    · have hw := hw.2 c_3
      refine lv_bipush (v := (-4)) hx hb dX0_dialDigit_33 (by decide) ?_
      exact w_iret hx hb hr hlocks hW hS ⟨X, rfl, hw⟩ dX0_dialDigit_35
  · have hw := hw.2 c_2
    refine lv_aload_n hx hb dX0_dialDigit_14 rfl (lv_at hl 0 rfl) ?_
    refine g_X0_106 hx hb hown hts hK hW (HB.2.2.2.2.1 _ (isLi_lix p1)) (putAt (k := lix p1) (isLi_lt (isLi_lix p1))) dX0_dialDigit_15 ?_
    refine lv_iconst (v := 3) hx hb dX0_dialDigit_18 (by decide) ?_
    refine lv_icmp_eq (tgt := 25) hx hb dX0_dialDigit_19 (by decide) (fun c_6 => ?_) (fun c_6 => ?_)
    · have hw := hw.1 c_6
      refine lv_aload_n hx hb dX0_dialDigit_25 rfl (lv_at hl 0 rfl) ?_
      refine g_X0_135 hx hb hown hts hK hW (HB.2.2.2.2.1 _ (isLi_lix p1)) (putAt (k := lix p1) (isLi_lt (isLi_lix p1))) dX0_dialDigit_26 ?_
      refine lv_iconst (v := 4) hx hb dX0_dialDigit_29 (by decide) ?_
      refine lv_icmp_lt (tgt := 36) hx hb dX0_dialDigit_30 (by decide) (fun c_7 => ?_) (fun c_7 => ?_)
      · have hw := hw.1 c_7
        refine lv_aload_n hx hb dX0_dialDigit_36 rfl (lv_at hl 0 rfl) ?_
        refine lv_iload_n hx hb dX0_dialDigit_37 rfl (lv_at hl 3 rfl) ?_
        refine w_cvv (As := [.int p2]) (rest := []) hx hb hml hown hts hK hW hS hl.1 (c_X2_appendDigit hA (HB.2.2.2.2.1 _ (isLi_lix p1)) (putAt (k := lix p1) (isLi_lt (isLi_lix p1))) hw) (k_X0_138 hts ⟨Nat.le_of_ble_eq_true rfl, Nat.le_of_ble_eq_true rfl⟩) (w_recv hK hW (HB.2.2.2.2.1 _ (isLi_lix p1)) (putAt (k := lix p1) (isLi_lt (isLi_lix p1))) rfl rfl) rfl rfl (Nat.le_of_ble_eq_true rfl) dX0_dialDigit_38 ⟨Nat.zero_le _, Nat.zero_le _⟩ (fun Ez H locs hw2 hW hS => ?_)
        obtain ⟨Y_8, ez, hw⟩ := hw2
        rw [ez] at hW
        obtain ⟨X_9, eX_9⟩ : ∃ z : ES, z = va_up X (lix p1) Y_8 := ⟨_, rfl⟩
        have hw := hw X_9 eX_9
        have hW : Wd g lay (put 26 o X_9 E0) H := by rw [eX_9, ← putUp (k := lix p1) (isLi_lt (isLi_lix p1))]; exact hW
        refine lv_aload_n hx hb dX0_dialDigit_41 rfl (lv_at hl 0 rfl) ?_
        refine g_X0_135 hx hb hown hts hK hW (HB.2.2.2.2.1 _ (isLi_lix p1)) (putAt (k := lix p1) (isLi_lt (isLi_lix p1))) dX0_dialDigit_42 ?_
        exact w_iret hx hb hr hlocks hW hS ⟨X_9, rfl, hw⟩ dX0_dialDigit_45
      · have hw := hw.2 c_7
        refine lv_bipush (v := (-4)) hx hb dX0_dialDigit_33 (by decide) ?_
        exact w_iret hx hb hr hlocks hW hS ⟨X, rfl, hw⟩ dX0_dialDigit_35
    · have hw := hw.2 c_6
      refine lv_bipush (v := (-5)) hx hb dX0_dialDigit_22 (by decide) ?_
      exact w_iret hx hb hr hlocks hW hS ⟨X, rfl, hw⟩ dX0_dialDigit_24
set_option maxHeartbeats 4000000 in
set_option maxRecDepth 100000 in
theorem c_X0_hasTimeFor {l : Launch} {g : GG} {lay : LY} {E0 : ES} {o : Nat} {X : ES} {p1 : Int32} {K : Int32 → Prop} (hA : okL g lay) (HB : XL g lay o) (hX : ∀ k, k < 26 → E0 (o + k) = X k) (hw : wp_X0_hasTimeFor X p1 K) : JMi l g lay yX0_hasTimeFor wsX0_hasTimeFor rmX0_hasTimeFor [.ref o, .int p1] E0 (fun r E1 => E1 = E0 ∧ (r = 0 ∨ r = 1) ∧ K r) := by
  refine Met.ofW (cc := cX0_hasTimeFor) (maxL := 2) (ret := (some .boolean)) (by decide) rfl ?_
  intro p e s m args below meth c s₁ B hml hv
  obtain ⟨rfl, hK, hW⟩ := hv
  have hx := B.exec
  have hb := B.bytes
  have hr := B.returns
  have hts := gd_of (atoms_spec (ws := wsX0_hasTimeFor) B.pre)
  have hown : s.vm.findClass RX0 = some m.cls := findClass_of_methodNamed B.named
  have hlocks := B.notSynchronized
  have hS : va_S (Ab g) s.heap s.heap [] := va_S.rf
  have hl := lv_entry [.ref o, .int p1] (n := 2) (Nat.le_of_ble_eq_true rfl)
  rw [lg_entry_eq]
  generalize (lg_sl [.ref o, .int p1] ++ List.replicate (2 - (lg_sl [.ref o, .int p1]).length) Slot.unset).toArray = ls at hl ⊢
  have hl : lv_has ls 2 [(0, .ref o), (1, .int p1)] := hl
  unfold wp_X0_hasTimeFor at hw
  refine lv_aload_n hx hb dX0_hasTimeFor_0 rfl (lv_at hl 0 rfl) ?_
  refine g_X0_52 hx hb hown hts hK hW HB.1 (hX 0 (by decide)) dX0_hasTimeFor_1 ?_
  refine lv_iload_n hx hb dX0_hasTimeFor_4 rfl (lv_at hl 1 rfl) ?_
  refine lv_iadd hx hb dX0_hasTimeFor_5 ?_
  refine lv_ldc hx hb hown (hts _ wd_325) dX0_hasTimeFor_6 ?_
  refine lv_icmp_gt (tgt := 15) hx hb dX0_hasTimeFor_8 (by decide) (fun c_1 => ?_) (fun c_1 => ?_)
  · have hw := hw.1 c_1
    refine lv_iconst (v := 0) hx hb dX0_hasTimeFor_15 (by decide) ?_
    exact w_zret hx hb hr hlocks hW hS (Or.inl rfl) ⟨rfl, (Or.inl rfl), hw⟩ dX0_hasTimeFor_16
  · have hw := hw.2 c_1
    refine lv_iconst (v := 1) hx hb dX0_hasTimeFor_11 (by decide) ?_
    refine lv_goto (tgt := 16) hx hb dX0_hasTimeFor_12 (by decide) ?_
    exact w_zret hx hb hr hlocks hW hS (Or.inr rfl) ⟨rfl, (Or.inr rfl), hw⟩ dX0_hasTimeFor_16
set_option maxHeartbeats 4000000 in
set_option maxRecDepth 100000 in
theorem c_X0_seek {l : Launch} {g : GG} {lay : LY} {E0 : ES} {o : Nat} {X : ES} {k1 : Nat} {k2 : Nat} {K : ES → Prop} (hA : okL g lay) (HB : XL g lay o) (hX : ∀ k, k < 26 → E0 (o + k) = X k) (h1 : isFi k1) (h2 : isLi k2) (hw : wp_X0_seek X k1 k2 K) : JMv l g lay yX0_seek wsX0_seek rmX0_seek [.ref o, .ref (o + k1), .ref (o + k2)] E0 (fun E1 => ∃ X1 : ES, E1 = put 26 o X1 E0 ∧ K X1) := by
  refine Met.ofW (cc := cX0_seek) (maxL := 3) (ret := none) (by decide) rfl ?_
  intro p e s m args below meth c s₁ B hml hv
  obtain ⟨rfl, hK, hW⟩ := hv
  have hx := B.exec
  have hb := B.bytes
  have hr := B.returns
  have hts := gd_of (atoms_spec (ws := wsX0_seek) B.pre)
  have hown : s.vm.findClass RX0 = some m.cls := findClass_of_methodNamed B.named
  have hlocks := B.notSynchronized
  have hS : va_S (Ab g) s.heap s.heap [] := va_S.rf
  have hW : Wd g lay (put 26 o X E0) s.heap := by rw [putSelf hX]; exact hW
  have hl := lv_entry [.ref o, .ref (o + k1), .ref (o + k2)] (n := 3) (Nat.le_of_ble_eq_true rfl)
  rw [lg_entry_eq]
  generalize (lg_sl [.ref o, .ref (o + k1), .ref (o + k2)] ++ List.replicate (3 - (lg_sl [.ref o, .ref (o + k1), .ref (o + k2)]).length) Slot.unset).toArray = ls at hl ⊢
  have hl : lv_has ls 3 [(0, .ref o), (1, .ref (o + k1)), (2, .ref (o + k2))] := hl
  unfold wp_X0_seek at hw
  refine lv_aload_n hx hb dX0_seek_0 rfl (lv_at hl 1 rfl) ?_
  refine g_X0_181 hx hb hown hts hK hW (HB.2.2.2.2.2 _ h1) (putAt (k := k1) (isFi_lt h1)) dX0_seek_1 ?_
  refine lv_aload_n hx hb dX0_seek_4 rfl (lv_at hl 1 rfl) ?_
  refine g_X0_151 hx hb hown hts hK hW (HB.2.2.2.2.2 _ h1) (putAt (k := k1) (isFi_lt h1)) dX0_seek_5 ?_
  refine lv_icmp_ne (tgt := 34) hx hb dX0_seek_8 (by decide) (fun c_1 => ?_) (fun c_1 => ?_)
  · have hw := hw.2 c_1
    refine lv_aload_n hx hb dX0_seek_34 rfl (lv_at hl 1 rfl) ?_
    refine lv_aload_n hx hb dX0_seek_35 rfl (lv_at hl 1 rfl) ?_
    refine g_X0_181 hx hb hown hts hK hW (HB.2.2.2.2.2 _ h1) (putAt (k := k1) (isFi_lt h1)) dX0_seek_36 ?_
    refine lv_iconst (v := 1) hx hb dX0_seek_39 (by decide) ?_
    refine lv_iadd hx hb dX0_seek_40 ?_
    refine lv_bipush (v := 16) hx hb dX0_seek_41 (by decide) ?_
    refine lv_irem hx hb dX0_seek_43 (by decide) ?_
    obtain ⟨X_2, eX_2⟩ : ∃ z : ES, z = va_up X k1 (upd (X k1) 1 ((((X k1) 1) + 1) - (((X k1) 1) + 1) / 16 * 16)) := ⟨_, rfl⟩
    have hw := hw X_2 eX_2
    refine p_X0_181 (E1 := put 26 o X_2 E0) hx hb hown hts hK hA hW hS (HB.2.2.2.2.2 _ h1) (putAt (k := k1) (isFi_lt h1)) dX0_seek_44 (puE (k := k1) (isFi_lt h1) eX_2) (fun H locs hW hS => ?_)
    exact w_vret hx hb hr hlocks hW hS ⟨X_2, rfl, hw⟩ dX0_seek_47
  · have hw := hw.1 c_1
    refine lv_aload_n hx hb dX0_seek_11 rfl (lv_at hl 1 rfl) ?_
    refine lv_iconst (v := 2) hx hb dX0_seek_12 (by decide) ?_
    refine w_cvv (As := [.int 2]) (rest := []) hx hb hml hown hts hK hW hS hl.1 (c_X1_become hA (HB.2.2.2.2.2 _ h1) (putAt (k := k1) (isFi_lt h1)) hw) (k_X0_184 hts ⟨Nat.le_of_ble_eq_true rfl, Nat.le_of_ble_eq_true rfl⟩) (w_recv hK hW (HB.2.2.2.2.2 _ h1) (putAt (k := k1) (isFi_lt h1)) rfl rfl) rfl rfl (Nat.le_of_ble_eq_true rfl) dX0_seek_13 ⟨Nat.zero_le _, Nat.zero_le _⟩ (fun Ez H locs hw2 hW hS => ?_)
    obtain ⟨Y_3, ez, hw⟩ := hw2
    rw [ez] at hW
    obtain ⟨X_4, eX_4⟩ : ∃ z : ES, z = va_up X k1 Y_3 := ⟨_, rfl⟩
    have hw := hw X_4 eX_4
    have hW : Wd g lay (put 26 o X_4 E0) H := by rw [eX_4, ← putUp (k := k1) (isFi_lt h1)]; exact hW
    refine lv_aload_n hx hb dX0_seek_16 rfl (lv_at hl 2 rfl) ?_
    refine lv_iconst (v := 2) hx hb dX0_seek_17 (by decide) ?_
    obtain ⟨X_5, eX_5⟩ : ∃ z : ES, z = va_up X_4 k2 (upd (X_4 k2) 0 2) := ⟨_, rfl⟩
    have hw := hw X_5 eX_5
    refine p_X0_106 (E1 := put 26 o X_5 E0) hx hb hown hts hK hA hW hS (HB.2.2.2.2.1 _ h2) (putAt (k := k2) (isLi_lt h2)) dX0_seek_18 (puE (k := k2) (isLi_lt h2) eX_5) (fun H locs hW hS => ?_)
    refine lv_aload_n hx hb dX0_seek_21 rfl (lv_at hl 0 rfl) ?_
    refine lv_dup hx hb dX0_seek_22 rfl ?_
    refine g_X0_61 hx hb hown hts hK hW HB.1 (putAt (k := 0) (by decide)) dX0_seek_23 ?_
    refine lv_iconst (v := 1) hx hb dX0_seek_26 (by decide) ?_
    refine lv_iadd hx hb dX0_seek_27 ?_
    obtain ⟨X_6, eX_6⟩ : ∃ z : ES, z = va_up X_5 0 (upd (X_5 0) 10 (((X_5 0) 10) + 1)) := ⟨_, rfl⟩
    have hw := hw X_6 eX_6
    refine p_X0_61 (E1 := put 26 o X_6 E0) hx hb hown hts hK hA hW hS HB.1 (putAt (k := 0) (by decide)) dX0_seek_28 (puE (k := 0) (by decide) eX_6) (fun H locs hW hS => ?_)
    refine lv_goto (tgt := 47) hx hb dX0_seek_31 (by decide) ?_
    exact w_vret hx hb hr hlocks hW hS ⟨X_6, rfl, hw⟩ dX0_seek_47
set_option maxHeartbeats 4000000 in
set_option maxRecDepth 100000 in
theorem c_X0_awaitDigit {l : Launch} {g : GG} {lay : LY} {E0 : ES} {o : Nat} {X : ES} {k1 : Nat} {k2 : Nat} {p3 : Int32} {K : ES → Prop} (hA : okL g lay) (HB : XL g lay o) (hX : ∀ k, k < 26 → E0 (o + k) = X k) (h1 : isFi k1) (h2 : isLi k2) (hw : wp_X0_awaitDigit X k1 k2 p3 K) : JMv l g lay yX0_awaitDigit wsX0_awaitDigit rmX0_awaitDigit [.ref o, .ref (o + k1), .ref (o + k2), .int p3] E0 (fun E1 => ∃ X1 : ES, E1 = put 26 o X1 E0 ∧ K X1) := by
  refine Met.ofW (cc := cX0_awaitDigit) (maxL := 4) (ret := none) (by decide) rfl ?_
  intro p e s m args below meth c s₁ B hml hv
  obtain ⟨rfl, hK, hW⟩ := hv
  have hx := B.exec
  have hb := B.bytes
  have hr := B.returns
  have hts := gd_of (atoms_spec (ws := wsX0_awaitDigit) B.pre)
  have hown : s.vm.findClass RX0 = some m.cls := findClass_of_methodNamed B.named
  have hlocks := B.notSynchronized
  have hS : va_S (Ab g) s.heap s.heap [] := va_S.rf
  have hW : Wd g lay (put 26 o X E0) s.heap := by rw [putSelf hX]; exact hW
  have hl := lv_entry [.ref o, .ref (o + k1), .ref (o + k2), .int p3] (n := 4) (Nat.le_of_ble_eq_true rfl)
  rw [lg_entry_eq]
  generalize (lg_sl [.ref o, .ref (o + k1), .ref (o + k2), .int p3] ++ List.replicate (4 - (lg_sl [.ref o, .ref (o + k1), .ref (o + k2), .int p3]).length) Slot.unset).toArray = ls at hl ⊢
  have hl : lv_has ls 4 [(0, .ref o), (1, .ref (o + k1)), (2, .ref (o + k2)), (3, .int p3)] := hl
  unfold wp_X0_awaitDigit at hw
  refine lv_aload_n hx hb dX0_awaitDigit_0 rfl (lv_at hl 2 rfl) ?_
  refine g_X0_135 hx hb hown hts hK hW (HB.2.2.2.2.1 _ h2) (putAt (k := k2) (isLi_lt h2)) dX0_awaitDigit_1 ?_
  refine lv_if_le (tgt := 26) hx hb dX0_awaitDigit_4 (by decide) (fun c_1 => ?_) (fun c_1 => ?_)
  · have hw := hw.1 c_1
    refine lv_aload_n hx hb dX0_awaitDigit_26 rfl (lv_at hl 1 rfl) ?_
    refine lv_dup hx hb dX0_awaitDigit_27 rfl ?_
    refine g_X0_194 hx hb hown hts hK hW (HB.2.2.2.2.2 _ h1) (putAt (k := k1) (isFi_lt h1)) dX0_awaitDigit_28 ?_
    refine lv_iconst (v := 1) hx hb dX0_awaitDigit_31 (by decide) ?_
    refine lv_iadd hx hb dX0_awaitDigit_32 ?_
    obtain ⟨X_2, eX_2⟩ : ∃ z : ES, z = va_up X k1 (upd (X k1) 7 (((X k1) 7) + 1)) := ⟨_, rfl⟩
    have hw := hw X_2 eX_2
    refine p_X0_194 (E1 := put 26 o X_2 E0) hx hb hown hts hK hA hW hS (HB.2.2.2.2.2 _ h1) (putAt (k := k1) (isFi_lt h1)) dX0_awaitDigit_33 (puE (k := k1) (isFi_lt h1) eX_2) (fun H locs hW hS => ?_)
    refine lv_aload_n hx hb dX0_awaitDigit_36 rfl (lv_at hl 1 rfl) ?_
    refine g_X0_194 hx hb hown hts hK hW (HB.2.2.2.2.2 _ h1) (putAt (k := k1) (isFi_lt h1)) dX0_awaitDigit_37 ?_
    refine lv_aload_n hx hb dX0_awaitDigit_40 rfl (lv_at hl 0 rfl) ?_
    refine lv_iconst (v := 0) hx hb dX0_awaitDigit_41 (by decide) ?_
    refine w_cvi (As := [.int 0]) (rest := [.int ((X_2 k1) 7)]) hx hb hml hown hts hK hW hS hl.1 (c_X0_settingAt hA HB (fun k hk => putAt hk)  hw) (k_X0_79 hts ⟨Nat.le_of_ble_eq_true rfl, Nat.le_of_ble_eq_true rfl⟩) (w_recv hK hW HB.1 (putAt (k := 0) (by decide)) rfl rfl) rfl rfl (Nat.le_of_ble_eq_true rfl) dX0_awaitDigit_42 ⟨Nat.zero_le _, Nat.zero_le _⟩ (fun r_3 Ez H locs hw2 hW hS => ?_)
    obtain ⟨ez, hw⟩ := hw2
    rw [ez] at hW
    refine lv_icmp_lt (tgt := 73) hx hb dX0_awaitDigit_45 (by decide) (fun c_4 => ?_) (fun c_4 => ?_)
    · have hw := hw.1 c_4
      exact w_vret hx hb hr hlocks hW hS ⟨X_2, rfl, hw⟩ dX0_awaitDigit_73
    · have hw := hw.2 c_4
      refine lv_aload_n hx hb dX0_awaitDigit_48 rfl (lv_at hl 1 rfl) ?_
      refine w_cvv (As := []) (rest := []) hx hb hml hown hts hK hW hS hl.1 (c_X1_becomeFree hA (HB.2.2.2.2.2 _ h1) (putAt (k := k1) (isFi_lt h1)) hw) (k_X0_132 hts ⟨Nat.le_of_ble_eq_true rfl, Nat.le_of_ble_eq_true rfl⟩) (w_recv hK hW (HB.2.2.2.2.2 _ h1) (putAt (k := k1) (isFi_lt h1)) rfl rfl) rfl rfl (Nat.le_of_ble_eq_true rfl) dX0_awaitDigit_49 ⟨Nat.zero_le _, Nat.zero_le _⟩ (fun Ez H locs hw2 hW hS => ?_)
      obtain ⟨Y_5, ez, hw⟩ := hw2
      rw [ez] at hW
      obtain ⟨X_6, eX_6⟩ : ∃ z : ES, z = va_up X_2 k1 Y_5 := ⟨_, rfl⟩
      have hw := hw X_6 eX_6
      have hW : Wd g lay (put 26 o X_6 E0) H := by rw [eX_6, ← putUp (k := k1) (isFi_lt h1)]; exact hW
      refine lv_aload_n hx hb dX0_awaitDigit_52 rfl (lv_at hl 2 rfl) ?_
      refine lv_iconst (v := 5) hx hb dX0_awaitDigit_53 (by decide) ?_
      obtain ⟨X_7, eX_7⟩ : ∃ z : ES, z = va_up X_6 k2 (upd (X_6 k2) 3 5) := ⟨_, rfl⟩
      have hw := hw X_7 eX_7
      refine p_X0_109 (E1 := put 26 o X_7 E0) hx hb hown hts hK hA hW hS (HB.2.2.2.2.1 _ h2) (putAt (k := k2) (isLi_lt h2)) dX0_awaitDigit_54 (puE (k := k2) (isLi_lt h2) eX_7) (fun H locs hW hS => ?_)
      refine lv_aload_n hx hb dX0_awaitDigit_57 rfl (lv_at hl 2 rfl) ?_
      refine lv_bipush (v := 10) hx hb dX0_awaitDigit_58 (by decide) ?_
      refine w_cvv (As := [.int 10]) (rest := []) hx hb hml hown hts hK hW hS hl.1 (c_X2_leaveCall hA (HB.2.2.2.2.1 _ h2) (putAt (k := k2) (isLi_lt h2)) hw) (k_X0_125 hts ⟨Nat.le_of_ble_eq_true rfl, Nat.le_of_ble_eq_true rfl⟩) (w_recv hK hW (HB.2.2.2.2.1 _ h2) (putAt (k := k2) (isLi_lt h2)) rfl rfl) rfl rfl (Nat.le_of_ble_eq_true rfl) dX0_awaitDigit_60 ⟨Nat.zero_le _, Nat.zero_le _⟩ (fun Ez H locs hw2 hW hS => ?_)
      obtain ⟨Y_8, ez, hw⟩ := hw2
      rw [ez] at hW
      obtain ⟨X_9, eX_9⟩ : ∃ z : ES, z = va_up X_7 k2 Y_8 := ⟨_, rfl⟩
      have hw := hw X_9 eX_9
      have hW : Wd g lay (put 26 o X_9 E0) H := by rw [eX_9, ← putUp (k := k2) (isLi_lt h2)]; exact hW
      refine lv_aload_n hx hb dX0_awaitDigit_63 rfl (lv_at hl 0 rfl) ?_
      refine lv_dup hx hb dX0_awaitDigit_64 rfl ?_
      refine g_X0_76 hx hb hown hts hK hW HB.1 (putAt (k := 0) (by decide)) dX0_awaitDigit_65 ?_
      refine lv_iconst (v := 1) hx hb dX0_awaitDigit_68 (by decide) ?_
      refine lv_iadd hx hb dX0_awaitDigit_69 ?_
      obtain ⟨X_10, eX_10⟩ : ∃ z : ES, z = va_up X_9 0 (upd (X_9 0) 15 (((X_9 0) 15) + 1)) := ⟨_, rfl⟩
      have hw := hw X_10 eX_10
      refine p_X0_76 (E1 := put 26 o X_10 E0) hx hb hown hts hK hA hW hS HB.1 (putAt (k := 0) (by decide)) dX0_awaitDigit_70 (puE (k := 0) (by decide) eX_10) (fun H locs hW hS => ?_)
      exact w_vret hx hb hr hlocks hW hS ⟨X_10, rfl, hw⟩ dX0_awaitDigit_73
  · have hw := hw.2 c_1
    refine lv_aload_n hx hb dX0_awaitDigit_7 rfl (lv_at hl 1 rfl) ?_
    refine lv_iload_n hx hb dX0_awaitDigit_8 rfl (lv_at hl 3 rfl) ?_
    refine w_cvv (As := [.int p3]) (rest := []) hx hb hml hown hts hK hW hS hl.1 (c_X1_become hA (HB.2.2.2.2.2 _ h1) (putAt (k := k1) (isFi_lt h1)) hw) (k_X0_184 hts ⟨Nat.le_of_ble_eq_true rfl, Nat.le_of_ble_eq_true rfl⟩) (w_recv hK hW (HB.2.2.2.2.2 _ h1) (putAt (k := k1) (isFi_lt h1)) rfl rfl) rfl rfl (Nat.le_of_ble_eq_true rfl) dX0_awaitDigit_9 ⟨Nat.zero_le _, Nat.zero_le _⟩ (fun Ez H locs hw2 hW hS => ?_)
    obtain ⟨Y_11, ez, hw⟩ := hw2
    rw [ez] at hW
    obtain ⟨X_12, eX_12⟩ : ∃ z : ES, z = va_up X k1 Y_11 := ⟨_, rfl⟩
    have hw := hw X_12 eX_12
    have hW : Wd g lay (put 26 o X_12 E0) H := by rw [eX_12, ← putUp (k := k1) (isFi_lt h1)]; exact hW
    refine lv_aload_n hx hb dX0_awaitDigit_12 rfl (lv_at hl 1 rfl) ?_
    refine lv_aload_n hx hb dX0_awaitDigit_13 rfl (lv_at hl 2 rfl) ?_
    refine w_cvi (As := []) (rest := [.ref (o + k1)]) hx hb hml hown hts hK hW hS hl.1 (c_X2_takePulses hA (HB.2.2.2.2.1 _ h2) (putAt (k := k2) (isLi_lt h2)) hw) (k_X0_187 hts ⟨Nat.le_of_ble_eq_true rfl, Nat.le_of_ble_eq_true rfl⟩) (w_recv hK hW (HB.2.2.2.2.1 _ h2) (putAt (k := k2) (isLi_lt h2)) rfl rfl) rfl rfl (Nat.le_of_ble_eq_true rfl) dX0_awaitDigit_14 ⟨Nat.zero_le _, Nat.zero_le _⟩ (fun r_13 Ez H locs hw2 hW hS => ?_)
    obtain ⟨Y_14, ez, hw⟩ := hw2
    rw [ez] at hW
    obtain ⟨X_15, eX_15⟩ : ∃ z : ES, z = va_up X_12 k2 Y_14 := ⟨_, rfl⟩
    have hw := hw X_15 eX_15
    have hW : Wd g lay (put 26 o X_15 E0) H := by rw [eX_15, ← putUp (k := k2) (isLi_lt h2)]; exact hW
    obtain ⟨X_16, eX_16⟩ : ∃ z : ES, z = va_up X_15 k1 (upd (X_15 k1) 5 r_13) := ⟨_, rfl⟩
    have hw := hw X_16 eX_16
    refine p_X0_191 (E1 := put 26 o X_16 E0) hx hb hown hts hK hA hW hS (HB.2.2.2.2.2 _ h1) (putAt (k := k1) (isFi_lt h1)) dX0_awaitDigit_17 (puE (k := k1) (isFi_lt h1) eX_16) (fun H locs hW hS => ?_)
    refine lv_aload_n hx hb dX0_awaitDigit_20 rfl (lv_at hl 2 rfl) ?_
    refine lv_iconst (v := 3) hx hb dX0_awaitDigit_21 (by decide) ?_
    obtain ⟨X_17, eX_17⟩ : ∃ z : ES, z = va_up X_16 k2 (upd (X_16 k2) 0 3) := ⟨_, rfl⟩
    have hw := hw X_17 eX_17
    refine p_X0_106 (E1 := put 26 o X_17 E0) hx hb hown hts hK hA hW hS (HB.2.2.2.2.1 _ h2) (putAt (k := k2) (isLi_lt h2)) dX0_awaitDigit_22 (puE (k := k2) (isLi_lt h2) eX_17) (fun H locs hW hS => ?_)
    exact w_vret hx hb hr hlocks hW hS ⟨X_17, rfl, hw⟩ dX0_awaitDigit_25
set_option maxHeartbeats 4000000 in
set_option maxRecDepth 100000 in
theorem c_X0_sound {l : Launch} {g : GG} {lay : LY} {E0 : ES} {o : Nat} {X : ES} {k1 : Nat} {k2 : Nat} {p3 : Int32} {p4 : Int32} {K : ES → Prop} (hA : okL g lay) (HB : XL g lay o) (hX : ∀ k, k < 26 → E0 (o + k) = X k) (h1 : isFi k1) (h2 : isLi k2) (hw : wp_X0_sound X k1 k2 p3 p4 K) : JMv l g lay yX0_sound wsX0_sound rmX0_sound [.ref o, .ref (o + k1), .ref (o + k2), .int p3, .int p4] E0 (fun E1 => ∃ X1 : ES, E1 = put 26 o X1 E0 ∧ K X1) := by
  refine Met.ofW (cc := cX0_sound) (maxL := 5) (ret := none) (by decide) rfl ?_
  intro p e s m args below meth c s₁ B hml hv
  obtain ⟨rfl, hK, hW⟩ := hv
  have hx := B.exec
  have hb := B.bytes
  have hr := B.returns
  have hts := gd_of (atoms_spec (ws := wsX0_sound) B.pre)
  have hown : s.vm.findClass RX0 = some m.cls := findClass_of_methodNamed B.named
  have hlocks := B.notSynchronized
  have hS : va_S (Ab g) s.heap s.heap [] := va_S.rf
  have hW : Wd g lay (put 26 o X E0) s.heap := by rw [putSelf hX]; exact hW
  have hl := lv_entry [.ref o, .ref (o + k1), .ref (o + k2), .int p3, .int p4] (n := 5) (Nat.le_of_ble_eq_true rfl)
  rw [lg_entry_eq]
  generalize (lg_sl [.ref o, .ref (o + k1), .ref (o + k2), .int p3, .int p4] ++ List.replicate (5 - (lg_sl [.ref o, .ref (o + k1), .ref (o + k2), .int p3, .int p4]).length) Slot.unset).toArray = ls at hl ⊢
  have hl : lv_has ls 5 [(0, .ref o), (1, .ref (o + k1)), (2, .ref (o + k2)), (3, .int p3), (4, .int p4)] := hl
  unfold wp_X0_sound at hw
  refine lv_aload_n hx hb dX0_sound_0 rfl (lv_at hl 1 rfl) ?_
  refine lv_bipush (v := 9) hx hb dX0_sound_1 (by decide) ?_
  refine w_cvv (As := [.int 9]) (rest := []) hx hb hml hown hts hK hW hS hl.1 (c_X1_become hA (HB.2.2.2.2.2 _ h1) (putAt (k := k1) (isFi_lt h1)) hw) (k_X0_184 hts ⟨Nat.le_of_ble_eq_true rfl, Nat.le_of_ble_eq_true rfl⟩) (w_recv hK hW (HB.2.2.2.2.2 _ h1) (putAt (k := k1) (isFi_lt h1)) rfl rfl) rfl rfl (Nat.le_of_ble_eq_true rfl) dX0_sound_3 ⟨Nat.zero_le _, Nat.zero_le _⟩ (fun Ez H locs hw2 hW hS => ?_)
  obtain ⟨Y_1, ez, hw⟩ := hw2
  rw [ez] at hW
  obtain ⟨X_2, eX_2⟩ : ∃ z : ES, z = va_up X k1 Y_1 := ⟨_, rfl⟩
  have hw := hw X_2 eX_2
  have hW : Wd g lay (put 26 o X_2 E0) H := by rw [eX_2, ← putUp (k := k1) (isFi_lt h1)]; exact hW
  refine lv_aload_n hx hb dX0_sound_6 rfl (lv_at hl 1 rfl) ?_
  refine lv_bipush (v := (-6)) hx hb dX0_sound_7 (by decide) ?_
  obtain ⟨X_3, eX_3⟩ : ∃ z : ES, z = va_up X_2 k1 (upd (X_2 k1) 4 (-6)) := ⟨_, rfl⟩
  have hw := hw X_3 eX_3
  refine p_X0_204 (E1 := put 26 o X_3 E0) hx hb hown hts hK hA hW hS (HB.2.2.2.2.2 _ h1) (putAt (k := k1) (isFi_lt h1)) dX0_sound_9 (puE (k := k1) (isFi_lt h1) eX_3) (fun H locs hW hS => ?_)
  refine lv_aload_n hx hb dX0_sound_12 rfl (lv_at hl 1 rfl) ?_
  refine lv_bipush (v := (-6)) hx hb dX0_sound_13 (by decide) ?_
  obtain ⟨X_4, eX_4⟩ : ∃ z : ES, z = va_up X_3 k1 (upd (X_3 k1) 9 (-6)) := ⟨_, rfl⟩
  have hw := hw X_4 eX_4
  refine p_X0_129 (E1 := put 26 o X_4 E0) hx hb hown hts hK hA hW hS (HB.2.2.2.2.2 _ h1) (putAt (k := k1) (isFi_lt h1)) dX0_sound_15 (puE (k := k1) (isFi_lt h1) eX_4) (fun H locs hW hS => ?_)
  refine lv_aload_n hx hb dX0_sound_18 rfl (lv_at hl 2 rfl) ?_
  refine lv_iload_n hx hb dX0_sound_19 rfl (lv_at hl 3 rfl) ?_
  obtain ⟨X_5, eX_5⟩ : ∃ z : ES, z = va_up X_4 k2 (upd (X_4 k2) 0 p3) := ⟨_, rfl⟩
  have hw := hw X_5 eX_5
  refine p_X0_106 (E1 := put 26 o X_5 E0) hx hb hown hts hK hA hW hS (HB.2.2.2.2.1 _ h2) (putAt (k := k2) (isLi_lt h2)) dX0_sound_20 (puE (k := k2) (isLi_lt h2) eX_5) (fun H locs hW hS => ?_)
  refine lv_aload_n hx hb dX0_sound_23 rfl (lv_at hl 2 rfl) ?_
  refine lv_iload hx hb dX0_sound_24 (lv_at hl 4 rfl) ?_
  obtain ⟨X_6, eX_6⟩ : ∃ z : ES, z = va_up X_5 k2 (upd (X_5 k2) 3 p4) := ⟨_, rfl⟩
  have hw := hw X_6 eX_6
  refine p_X0_109 (E1 := put 26 o X_6 E0) hx hb hown hts hK hA hW hS (HB.2.2.2.2.1 _ h2) (putAt (k := k2) (isLi_lt h2)) dX0_sound_26 (puE (k := k2) (isLi_lt h2) eX_6) (fun H locs hW hS => ?_)
  refine lv_iload_n hx hb dX0_sound_29 rfl (lv_at hl 3 rfl) ?_
  refine lv_bipush (v := 8) hx hb dX0_sound_30 (by decide) ?_
  refine lv_icmp_ne (tgt := 48) hx hb dX0_sound_32 (by decide) (fun c_7 => ?_) (fun c_7 => ?_)
  · have hw := hw.2 c_7
    refine lv_aload_n hx hb dX0_sound_48 rfl (lv_at hl 0 rfl) ?_
    refine lv_dup hx hb dX0_sound_49 rfl ?_
    refine g_X0_73 hx hb hown hts hK hW HB.1 (putAt (k := 0) (by decide)) dX0_sound_50 ?_
    refine lv_iconst (v := 1) hx hb dX0_sound_53 (by decide) ?_
    refine lv_iadd hx hb dX0_sound_54 ?_
    obtain ⟨X_8, eX_8⟩ : ∃ z : ES, z = va_up X_6 0 (upd (X_6 0) 14 (((X_6 0) 14) + 1)) := ⟨_, rfl⟩
    have hw := hw X_8 eX_8
    refine p_X0_73 (E1 := put 26 o X_8 E0) hx hb hown hts hK hA hW hS HB.1 (putAt (k := 0) (by decide)) dX0_sound_55 (puE (k := 0) (by decide) eX_8) (fun H locs hW hS => ?_)
    exact w_vret hx hb hr hlocks hW hS ⟨X_8, rfl, hw⟩ dX0_sound_58
  · have hw := hw.1 c_7
    refine lv_aload_n hx hb dX0_sound_35 rfl (lv_at hl 0 rfl) ?_
    refine lv_dup hx hb dX0_sound_36 rfl ?_
    refine g_X0_70 hx hb hown hts hK hW HB.1 (putAt (k := 0) (by decide)) dX0_sound_37 ?_
    refine lv_iconst (v := 1) hx hb dX0_sound_40 (by decide) ?_
    refine lv_iadd hx hb dX0_sound_41 ?_
    obtain ⟨X_9, eX_9⟩ : ∃ z : ES, z = va_up X_6 0 (upd (X_6 0) 13 (((X_6 0) 13) + 1)) := ⟨_, rfl⟩
    have hw := hw X_9 eX_9
    refine p_X0_70 (E1 := put 26 o X_9 E0) hx hb hown hts hK hA hW hS HB.1 (putAt (k := 0) (by decide)) dX0_sound_42 (puE (k := 0) (by decide) eX_9) (fun H locs hW hS => ?_)
    refine lv_goto (tgt := 58) hx hb dX0_sound_45 (by decide) ?_
    exact w_vret hx hb hr hlocks hW hS ⟨X_9, rfl, hw⟩ dX0_sound_58
set_option maxHeartbeats 4000000 in
set_option maxRecDepth 100000 in
theorem c_X0_rise {l : Launch} {g : GG} {lay : LY} {E0 : ES} {o : Nat} {X : ES} {k1 : Nat} {k2 : Nat} {K : ES → Prop} (hA : okL g lay) (HB : XL g lay o) (hX : ∀ k, k < 26 → E0 (o + k) = X k) (h1 : isFi k1) (h2 : isLi k2) (hw : wp_X0_rise X k1 k2 K) : JMv l g lay yX0_rise wsX0_rise rmX0_rise [.ref o, .ref (o + k1), .ref (o + k2)] E0 (fun E1 => ∃ X1 : ES, E1 = put 26 o X1 E0 ∧ K X1) := by
  refine Met.ofW (cc := cX0_rise) (maxL := 3) (ret := none) (by decide) rfl ?_
  intro p e s m args below meth c s₁ B hml hv
  obtain ⟨rfl, hK, hW⟩ := hv
  have hx := B.exec
  have hb := B.bytes
  have hr := B.returns
  have hts := gd_of (atoms_spec (ws := wsX0_rise) B.pre)
  have hown : s.vm.findClass RX0 = some m.cls := findClass_of_methodNamed B.named
  have hlocks := B.notSynchronized
  have hS : va_S (Ab g) s.heap s.heap [] := va_S.rf
  have hW : Wd g lay (put 26 o X E0) s.heap := by rw [putSelf hX]; exact hW
  have hl := lv_entry [.ref o, .ref (o + k1), .ref (o + k2)] (n := 3) (Nat.le_of_ble_eq_true rfl)
  rw [lg_entry_eq]
  generalize (lg_sl [.ref o, .ref (o + k1), .ref (o + k2)] ++ List.replicate (3 - (lg_sl [.ref o, .ref (o + k1), .ref (o + k2)]).length) Slot.unset).toArray = ls at hl ⊢
  have hl : lv_has ls 3 [(0, .ref o), (1, .ref (o + k1)), (2, .ref (o + k2))] := hl
  unfold wp_X0_rise at hw
  refine lv_aload_n hx hb dX0_rise_0 rfl (lv_at hl 1 rfl) ?_
  refine lv_dup hx hb dX0_rise_1 rfl ?_
  refine g_X0_191 hx hb hown hts hK hW (HB.2.2.2.2.2 _ h1) (putAt (k := k1) (isFi_lt h1)) dX0_rise_2 ?_
  refine lv_iconst (v := 1) hx hb dX0_rise_5 (by decide) ?_
  refine lv_isub hx hb dX0_rise_6 ?_
  obtain ⟨X_1, eX_1⟩ : ∃ z : ES, z = va_up X k1 (upd (X k1) 5 (((X k1) 5) - 1)) := ⟨_, rfl⟩
  have hw := hw X_1 eX_1
  refine p_X0_191 (E1 := put 26 o X_1 E0) hx hb hown hts hK hA hW hS (HB.2.2.2.2.2 _ h1) (putAt (k := k1) (isFi_lt h1)) dX0_rise_7 (puE (k := k1) (isFi_lt h1) eX_1) (fun H locs hW hS => ?_)
  refine lv_aload_n hx hb dX0_rise_10 rfl (lv_at hl 1 rfl) ?_
  refine lv_dup hx hb dX0_rise_11 rfl ?_
  refine g_X0_197 hx hb hown hts hK hW (HB.2.2.2.2.2 _ h1) (putAt (k := k1) (isFi_lt h1)) dX0_rise_12 ?_
  refine lv_iconst (v := 1) hx hb dX0_rise_15 (by decide) ?_
  refine lv_iadd hx hb dX0_rise_16 ?_
  obtain ⟨X_2, eX_2⟩ : ∃ z : ES, z = va_up X_1 k1 (upd (X_1 k1) 3 (((X_1 k1) 3) + 1)) := ⟨_, rfl⟩
  have hw := hw X_2 eX_2
  refine p_X0_197 (E1 := put 26 o X_2 E0) hx hb hown hts hK hA hW hS (HB.2.2.2.2.2 _ h1) (putAt (k := k1) (isFi_lt h1)) dX0_rise_17 (puE (k := k1) (isFi_lt h1) eX_2) (fun H locs hW hS => ?_)
  refine lv_aload_n hx hb dX0_rise_20 rfl (lv_at hl 1 rfl) ?_
  refine g_X0_191 hx hb hown hts hK hW (HB.2.2.2.2.2 _ h1) (putAt (k := k1) (isFi_lt h1)) dX0_rise_21 ?_
  refine lv_if_le (tgt := 28) hx hb dX0_rise_24 (by decide) (fun c_3 => ?_) (fun c_3 => ?_)
  · have hw := hw.1 c_3
    refine lv_aload_n hx hb dX0_rise_28 rfl (lv_at hl 1 rfl) ?_
    refine g_X0_197 hx hb hown hts hK hW (HB.2.2.2.2.2 _ h1) (putAt (k := k1) (isFi_lt h1)) dX0_rise_29 ?_
    refine lv_iconst (v := 4) hx hb dX0_rise_32 (by decide) ?_
    refine lv_icmp_le (tgt := 48) hx hb dX0_rise_33 (by decide) (fun c_4 => ?_) (fun c_4 => ?_)
    · have hw := hw.1 c_4
      refine lv_aload_n hx hb dX0_rise_48 rfl (lv_at hl 1 rfl) ?_
      refine lv_iconst (v := 4) hx hb dX0_rise_49 (by decide) ?_
      refine w_cvv (As := [.int 4]) (rest := []) hx hb hml hown hts hK hW hS hl.1 (c_X1_become hA (HB.2.2.2.2.2 _ h1) (putAt (k := k1) (isFi_lt h1)) hw) (k_X0_184 hts ⟨Nat.le_of_ble_eq_true rfl, Nat.le_of_ble_eq_true rfl⟩) (w_recv hK hW (HB.2.2.2.2.2 _ h1) (putAt (k := k1) (isFi_lt h1)) rfl rfl) rfl rfl (Nat.le_of_ble_eq_true rfl) dX0_rise_50 ⟨Nat.zero_le _, Nat.zero_le _⟩ (fun Ez H locs hw2 hW hS => ?_)
      obtain ⟨Y_5, ez, hw⟩ := hw2
      rw [ez] at hW
      obtain ⟨X_6, eX_6⟩ : ∃ z : ES, z = va_up X_2 k1 Y_5 := ⟨_, rfl⟩
      have hw := hw X_6 eX_6
      have hW : Wd g lay (put 26 o X_6 E0) H := by rw [eX_6, ← putUp (k := k1) (isFi_lt h1)]; exact hW
      refine lv_aload_n hx hb dX0_rise_53 rfl (lv_at hl 1 rfl) ?_
      refine lv_iconst (v := 0) hx hb dX0_rise_54 (by decide) ?_
      obtain ⟨X_7, eX_7⟩ : ∃ z : ES, z = va_up X_6 k1 (upd (X_6 k1) 4 0) := ⟨_, rfl⟩
      have hw := hw X_7 eX_7
      refine p_X0_204 (E1 := put 26 o X_7 E0) hx hb hown hts hK hA hW hS (HB.2.2.2.2.2 _ h1) (putAt (k := k1) (isFi_lt h1)) dX0_rise_55 (puE (k := k1) (isFi_lt h1) eX_7) (fun H locs hW hS => ?_)
      exact w_vret hx hb hr hlocks hW hS ⟨X_7, rfl, hw⟩ dX0_rise_58
    · have hw := hw.2 c_4
      refine lv_aload_n hx hb dX0_rise_36 rfl (lv_at hl 0 rfl) ?_
      refine lv_aload_n hx hb dX0_rise_37 rfl (lv_at hl 1 rfl) ?_
      refine lv_aload_n hx hb dX0_rise_38 rfl (lv_at hl 2 rfl) ?_
      refine lv_bipush (v := 9) hx hb dX0_rise_39 (by decide) ?_
      refine lv_iconst (v := 3) hx hb dX0_rise_41 (by decide) ?_
      refine w_cvv (As := [.ref (o + k1), .ref (o + k2), .int 9, .int 3]) (rest := []) hx hb hml hown hts hK hW hS hl.1 (c_X0_sound hA HB (fun k hk => putAt hk) h1 h2 hw) (k_X0_200 hts ⟨Nat.le_of_ble_eq_true rfl, Nat.le_of_ble_eq_true rfl⟩) (w_recv hK hW HB.1 (putAt (k := 0) (by decide)) rfl rfl) rfl rfl (Nat.le_of_ble_eq_true rfl) dX0_rise_42 ⟨Nat.zero_le _, Nat.zero_le _⟩ (fun Ez H locs hw2 hW hS => ?_)
      obtain ⟨X_8, ez, hw⟩ := hw2
      rw [ez, putPut] at hW
      refine lv_goto (tgt := 58) hx hb dX0_rise_45 (by decide) ?_
      exact w_vret hx hb hr hlocks hW hS ⟨X_8, rfl, hw⟩ dX0_rise_58
  · have hw := hw.2 c_3
    exact w_vret hx hb hr hlocks hW hS ⟨X_2, rfl, hw⟩ dX0_rise_27
set_option maxHeartbeats 4000000 in
set_option maxRecDepth 100000 in
theorem c_X0_holderOf {l : Launch} {g : GG} {lay : LY} {E0 : ES} {o : Nat} {X : ES} {p1 : Int32} {p2 : Int32} {K : Int32 → Prop} (hA : okL g lay) (HB : XL g lay o) (hX : ∀ k, k < 26 → E0 (o + k) = X k) (hw : wp_X0_holderOf X p1 p2 K) : JMi l g lay yX0_holderOf wsX0_holderOf rmX0_holderOf [.ref o, .int p1, .int p2] E0 (fun r E1 => E1 = E0 ∧ K r) := by
  refine Met.ofW (cc := cX0_holderOf) (maxL := 5) (ret := (some .int)) (by decide) rfl ?_
  intro p e s m args below meth c s₁ B hml hv
  obtain ⟨rfl, hK, hW⟩ := hv
  have hx := B.exec
  have hb := B.bytes
  have hr := B.returns
  have hts := gd_of (atoms_spec (ws := wsX0_holderOf) B.pre)
  have hown : s.vm.findClass RX0 = some m.cls := findClass_of_methodNamed B.named
  have hlocks := B.notSynchronized
  have hS : va_S (Ab g) s.heap s.heap [] := va_S.rf
  have hl := lv_entry [.ref o, .int p1, .int p2] (n := 5) (Nat.le_of_ble_eq_true rfl)
  rw [lg_entry_eq]
  generalize (lg_sl [.ref o, .int p1, .int p2] ++ List.replicate (5 - (lg_sl [.ref o, .int p1, .int p2]).length) Slot.unset).toArray = ls at hl ⊢
  have hl : lv_has ls 5 [(0, .ref o), (1, .int p1), (2, .int p2)] := hl
  unfold wp_X0_holderOf at hw
  refine lv_iconst (v := 0) hx hb dX0_holderOf_0 (by decide) ?_
  refine lv_istore_n (lv' := [(3, .int 0), (0, .ref o), (1, .int p1), (2, .int p2)]) hx hb dX0_holderOf_1 rfl hl (by decide) rfl (fun ls hl => ?_)
  obtain ⟨n_25, hw⟩ := hw
  refine w_loop (KT := Int32 → Prop) (σ := Int32) (Wl := fun Kx_2 n_2 q => wpl_X0_holderOf_2 X p1 p2 K Kx_2 n_2 q) (Pw := fun q => Wd g lay (E0)) (lvf := fun q => [(0, .ref o), (1, .int p1), (2, .int p2), (3, .int q)]) (nL := 5) n_25 (0) hw hW hS (lv_sub hl [1, 2, 3, 0] rfl) (fun _ h => h) (fun Kx_2 eK_2 n_2 q H locs ls hw hW hS hl ih_2 => ?_)
  obtain ⟨i_1, rfl⟩ : ∃ z, z = q := ⟨_, rfl⟩
  try dsimp only at hw
  rw [wpl_X0_holderOf_2] at hw
  have hl : lv_has ls 5 [(0, .ref o), (1, .int p1), (2, .int p2), (3, .int i_1)] := hl
  have hW : Wd g lay (E0) H := hW
  refine lv_iload_n hx hb dX0_holderOf_2 rfl (lv_at hl 3 rfl) ?_
  refine lv_aload_n hx hb dX0_holderOf_3 rfl (lv_at hl 0 rfl) ?_
  refine g_X0_45 hx hb hown hts hK hW HB.1 (hX 0 (by decide)) dX0_holderOf_4 ?_
  refine lv_icmp_ge (tgt := 51) hx hb dX0_holderOf_7 (by decide) (fun c_15 => ?_) (fun c_15 => ?_)
  · have hw := hw.1 c_15
    rw [eK_2] at hw
    refine lv_bipush (v := (-6)) hx hb dX0_holderOf_51 (by decide) ?_
    exact w_iret hx hb hr hlocks hW hS ⟨rfl, hw⟩ dX0_holderOf_53
  · have hw := hw.2 c_15
    refine lv_aload_n hx hb dX0_holderOf_10 rfl (lv_at hl 0 rfl) ?_
    refine lv_iload_n hx hb dX0_holderOf_11 rfl (lv_at hl 3 rfl) ?_
    refine w_cvr (As := [.int i_1]) (rest := []) hx hb hml hown hts hK hW hS hl.1 (c_X0_finderAt hA HB i_1) (k_X0_90 hts ⟨Nat.le_of_ble_eq_true rfl, Nat.le_of_ble_eq_true rfl⟩) (w_recv hK hW HB.1 (hX 0 (by decide)) rfl rfl) rfl rfl (Nat.le_of_ble_eq_true rfl) dX0_holderOf_12 ⟨Nat.zero_le _, Nat.zero_le _⟩ (fun q_16 Ez H locs hw2 hW hS => ?_)
    obtain ⟨ez, rfl⟩ := hw2
    rw [ez] at hW
    refine lv_astore (lv' := [(4, .ref (o + fix i_1)), (0, .ref o), (1, .int p1), (2, .int p2), (3, .int i_1)]) hx hb dX0_holderOf_15 hl (by decide) rfl (fun ls hl => ?_)
    refine lv_aload hx hb dX0_holderOf_17 (lv_at hl 0 rfl) ?_
    refine w_cvi (As := []) (rest := []) hx hb hml hown hts hK hW hS hl.1 (c_X1_holdsConnector hA (HB.2.2.2.2.2 _ (isFi_fix i_1)) (hX (fix i_1) (isFi_lt (isFi_fix i_1))) hw) (k_X0_232 hts ⟨Nat.le_of_ble_eq_true rfl, Nat.le_of_ble_eq_true rfl⟩) (w_recv hK hW (HB.2.2.2.2.2 _ (isFi_fix i_1)) (hX (fix i_1) (isFi_lt (isFi_fix i_1))) rfl rfl) rfl rfl (Nat.le_of_ble_eq_true rfl) dX0_holderOf_19 ⟨Nat.zero_le _, Nat.zero_le _⟩ (fun r_17 Ez H locs hw2 hW hS => ?_)
    obtain ⟨ez, z_18, hw⟩ := hw2
    rw [ez] at hW
    refine lv_if_eq (tgt := 45) hx hb dX0_holderOf_22 (by decide) (fun c_19 => ?_) (fun c_19 => ?_)
    · have hw := hw.1 c_19
      obtain ⟨v_20, ev_20⟩ : ∃ z : Int32, z = i_1 + 1 := ⟨_, rfl⟩
      have hw := hw v_20 ev_20
      refine lv_iinc (v := v_20) (lv' := [(3, .int v_20), (4, .ref (o + fix i_1)), (0, .ref o), (1, .int p1), (2, .int p2)]) hx hb dX0_holderOf_45 hl (k := 4) rfl (by rw [ev_20]; rfl) (by decide) rfl (fun ls hl => ?_)
      refine lv_goto (tgt := 2) hx hb dX0_holderOf_48 (by decide) ?_
      exact ih_2 (v_20) _ _ _ hw hW hS (lv_sub hl [2, 3, 4, 0] rfl)
    · have hw := hw.2 c_19
      refine lv_aload hx hb dX0_holderOf_25 (lv_at hl 0 rfl) ?_
      refine g_X0_197 hx hb hown hts hK hW (HB.2.2.2.2.2 _ (isFi_fix i_1)) (hX (fix i_1) (isFi_lt (isFi_fix i_1))) dX0_holderOf_27 ?_
      refine lv_iload_n hx hb dX0_holderOf_30 rfl (lv_at hl 2 rfl) ?_
      refine lv_icmp_ne (tgt := 45) hx hb dX0_holderOf_31 (by decide) (fun c_21 => ?_) (fun c_21 => ?_)
      · have hw := hw.2 c_21
        obtain ⟨v_22, ev_22⟩ : ∃ z : Int32, z = i_1 + 1 := ⟨_, rfl⟩
        have hw := hw v_22 ev_22
        refine lv_iinc (v := v_22) (lv' := [(3, .int v_22), (4, .ref (o + fix i_1)), (0, .ref o), (1, .int p1), (2, .int p2)]) hx hb dX0_holderOf_45 hl (k := 4) rfl (by rw [ev_22]; rfl) (by decide) rfl (fun ls hl => ?_)
        refine lv_goto (tgt := 2) hx hb dX0_holderOf_48 (by decide) ?_
        exact ih_2 (v_22) _ _ _ hw hW hS (lv_sub hl [2, 3, 4, 0] rfl)
      · have hw := hw.1 c_21
        refine lv_aload hx hb dX0_holderOf_34 (lv_at hl 0 rfl) ?_
        refine g_X0_204 hx hb hown hts hK hW (HB.2.2.2.2.2 _ (isFi_fix i_1)) (hX (fix i_1) (isFi_lt (isFi_fix i_1))) dX0_holderOf_36 ?_
        refine lv_iload_n hx hb dX0_holderOf_39 rfl (lv_at hl 3 rfl) ?_
        refine lv_icmp_ne (tgt := 45) hx hb dX0_holderOf_40 (by decide) (fun c_23 => ?_) (fun c_23 => ?_)
        · have hw := hw.2 c_23
          obtain ⟨v_24, ev_24⟩ : ∃ z : Int32, z = i_1 + 1 := ⟨_, rfl⟩
          have hw := hw v_24 ev_24
          refine lv_iinc (v := v_24) (lv' := [(3, .int v_24), (4, .ref (o + fix i_1)), (0, .ref o), (1, .int p1), (2, .int p2)]) hx hb dX0_holderOf_45 hl (k := 4) rfl (by rw [ev_24]; rfl) (by decide) rfl (fun ls hl => ?_)
          refine lv_goto (tgt := 2) hx hb dX0_holderOf_48 (by decide) ?_
          exact ih_2 (v_24) _ _ _ hw hW hS (lv_sub hl [2, 3, 4, 0] rfl)
        · have hw := hw.1 c_23
          refine lv_iload_n hx hb dX0_holderOf_43 rfl (lv_at hl 4 rfl) ?_
          exact w_iret hx hb hr hlocks hW hS ⟨rfl, hw⟩ dX0_holderOf_44
set_option maxHeartbeats 4000000 in
set_option maxRecDepth 100000 in
theorem c_X0_hunt {l : Launch} {g : GG} {lay : LY} {E0 : ES} {o : Nat} {X : ES} {k1 : Nat} {k2 : Nat} {K : ES → Prop} (hA : okL g lay) (HB : XL g lay o) (hX : ∀ k, k < 26 → E0 (o + k) = X k) (h1 : isFi k1) (h2 : isLi k2) (hw : wp_X0_hunt X k1 k2 K) : JMv l g lay yX0_hunt wsX0_hunt rmX0_hunt [.ref o, .ref (o + k1), .ref (o + k2)] E0 (fun E1 => ∃ X1 : ES, E1 = put 26 o X1 E0 ∧ K X1) := by
  refine Met.ofW (cc := cX0_hunt) (maxL := 3) (ret := none) (by decide) rfl ?_
  intro p e s m args below meth c s₁ B hml hv
  obtain ⟨rfl, hK, hW⟩ := hv
  have hx := B.exec
  have hb := B.bytes
  have hr := B.returns
  have hts := gd_of (atoms_spec (ws := wsX0_hunt) B.pre)
  have hown : s.vm.findClass RX0 = some m.cls := findClass_of_methodNamed B.named
  have hlocks := B.notSynchronized
  have hS : va_S (Ab g) s.heap s.heap [] := va_S.rf
  have hW : Wd g lay (put 26 o X E0) s.heap := by rw [putSelf hX]; exact hW
  have hl := lv_entry [.ref o, .ref (o + k1), .ref (o + k2)] (n := 3) (Nat.le_of_ble_eq_true rfl)
  rw [lg_entry_eq]
  generalize (lg_sl [.ref o, .ref (o + k1), .ref (o + k2)] ++ List.replicate (3 - (lg_sl [.ref o, .ref (o + k1), .ref (o + k2)]).length) Slot.unset).toArray = ls at hl ⊢
  have hl : lv_has ls 3 [(0, .ref o), (1, .ref (o + k1)), (2, .ref (o + k2))] := hl
  unfold wp_X0_hunt at hw
  refine lv_aload_n hx hb dX0_hunt_0 rfl (lv_at hl 0 rfl) ?_
  refine lv_aload_n hx hb dX0_hunt_1 rfl (lv_at hl 1 rfl) ?_
  refine g_X0_197 hx hb hown hts hK hW (HB.2.2.2.2.2 _ h1) (putAt (k := k1) (isFi_lt h1)) dX0_hunt_2 ?_
  refine lv_aload_n hx hb dX0_hunt_5 rfl (lv_at hl 1 rfl) ?_
  refine g_X0_204 hx hb hown hts hK hW (HB.2.2.2.2.2 _ h1) (putAt (k := k1) (isFi_lt h1)) dX0_hunt_6 ?_
  refine w_cvi (As := [.int ((X k1) 3), .int ((X k1) 4)]) (rest := []) hx hb hml hown hts hK hW hS hl.1 (c_X0_holderOf hA HB (fun k hk => putAt hk)  hw) (k_X0_207 hts ⟨Nat.le_of_ble_eq_true rfl, Nat.le_of_ble_eq_true rfl⟩) (w_recv hK hW HB.1 (putAt (k := 0) (by decide)) rfl rfl) rfl rfl (Nat.le_of_ble_eq_true rfl) dX0_hunt_9 ⟨Nat.zero_le _, Nat.zero_le _⟩ (fun r_1 Ez H locs hw2 hW hS => ?_)
  obtain ⟨ez, hw⟩ := hw2
  rw [ez] at hW
  refine lv_bipush (v := (-6)) hx hb dX0_hunt_12 (by decide) ?_
  refine lv_icmp_ne (tgt := 23) hx hb dX0_hunt_14 (by decide) (fun c_2 => ?_) (fun c_2 => ?_)
  · have hw := hw.2 c_2
    refine lv_aload_n hx hb dX0_hunt_23 rfl (lv_at hl 1 rfl) ?_
    refine lv_dup hx hb dX0_hunt_24 rfl ?_
    refine g_X0_204 hx hb hown hts hK hW (HB.2.2.2.2.2 _ h1) (putAt (k := k1) (isFi_lt h1)) dX0_hunt_25 ?_
    refine lv_iconst (v := 1) hx hb dX0_hunt_28 (by decide) ?_
    refine lv_iadd hx hb dX0_hunt_29 ?_
    obtain ⟨X_3, eX_3⟩ : ∃ z : ES, z = va_up X k1 (upd (X k1) 4 (((X k1) 4) + 1)) := ⟨_, rfl⟩
    have hw := hw X_3 eX_3
    refine p_X0_204 (E1 := put 26 o X_3 E0) hx hb hown hts hK hA hW hS (HB.2.2.2.2.2 _ h1) (putAt (k := k1) (isFi_lt h1)) dX0_hunt_30 (puE (k := k1) (isFi_lt h1) eX_3) (fun H locs hW hS => ?_)
    refine lv_aload_n hx hb dX0_hunt_33 rfl (lv_at hl 1 rfl) ?_
    refine g_X0_204 hx hb hown hts hK hW (HB.2.2.2.2.2 _ h1) (putAt (k := k1) (isFi_lt h1)) dX0_hunt_34 ?_
    refine lv_aload_n hx hb dX0_hunt_37 rfl (lv_at hl 0 rfl) ?_
    refine g_X0_49 hx hb hown hts hK hW HB.1 (putAt (k := 0) (by decide)) dX0_hunt_38 ?_
    refine lv_icmp_lt (tgt := 53) hx hb dX0_hunt_41 (by decide) (fun c_4 => ?_) (fun c_4 => ?_)
    · have hw := hw.1 c_4
      exact w_vret hx hb hr hlocks hW hS ⟨X_3, rfl, hw⟩ dX0_hunt_53
    · have hw := hw.2 c_4
      refine lv_aload_n hx hb dX0_hunt_44 rfl (lv_at hl 0 rfl) ?_
      refine lv_aload_n hx hb dX0_hunt_45 rfl (lv_at hl 1 rfl) ?_
      refine lv_aload_n hx hb dX0_hunt_46 rfl (lv_at hl 2 rfl) ?_
      refine lv_bipush (v := 8) hx hb dX0_hunt_47 (by decide) ?_
      refine lv_iconst (v := 2) hx hb dX0_hunt_49 (by decide) ?_
      refine w_cvv (As := [.ref (o + k1), .ref (o + k2), .int 8, .int 2]) (rest := []) hx hb hml hown hts hK hW hS hl.1 (c_X0_sound hA HB (fun k hk => putAt hk) h1 h2 hw) (k_X0_200 hts ⟨Nat.le_of_ble_eq_true rfl, Nat.le_of_ble_eq_true rfl⟩) (w_recv hK hW HB.1 (putAt (k := 0) (by decide)) rfl rfl) rfl rfl (Nat.le_of_ble_eq_true rfl) dX0_hunt_50 ⟨Nat.zero_le _, Nat.zero_le _⟩ (fun Ez H locs hw2 hW hS => ?_)
      obtain ⟨X_5, ez, hw⟩ := hw2
      rw [ez, putPut] at hW
      exact w_vret hx hb hr hlocks hW hS ⟨X_5, rfl, hw⟩ dX0_hunt_53
  · have hw := hw.1 c_2
    refine lv_aload_n hx hb dX0_hunt_17 rfl (lv_at hl 1 rfl) ?_
    refine lv_iconst (v := 5) hx hb dX0_hunt_18 (by decide) ?_
    refine w_cvv (As := [.int 5]) (rest := []) hx hb hml hown hts hK hW hS hl.1 (c_X1_become hA (HB.2.2.2.2.2 _ h1) (putAt (k := k1) (isFi_lt h1)) hw) (k_X0_184 hts ⟨Nat.le_of_ble_eq_true rfl, Nat.le_of_ble_eq_true rfl⟩) (w_recv hK hW (HB.2.2.2.2.2 _ h1) (putAt (k := k1) (isFi_lt h1)) rfl rfl) rfl rfl (Nat.le_of_ble_eq_true rfl) dX0_hunt_19 ⟨Nat.zero_le _, Nat.zero_le _⟩ (fun Ez H locs hw2 hW hS => ?_)
    obtain ⟨Y_6, ez, hw⟩ := hw2
    rw [ez] at hW
    obtain ⟨X_7, eX_7⟩ : ∃ z : ES, z = va_up X k1 Y_6 := ⟨_, rfl⟩
    have hw := hw X_7 eX_7
    have hW : Wd g lay (put 26 o X_7 E0) H := by rw [eX_7, ← putUp (k := k1) (isFi_lt h1)]; exact hW
    exact w_vret hx hb hr hlocks hW hS ⟨X_7, rfl, hw⟩ dX0_hunt_22
set_option maxHeartbeats 4000000 in
set_option maxRecDepth 100000 in
theorem c_X0_stepOn {l : Launch} {g : GG} {lay : LY} {E0 : ES} {o : Nat} {X : ES} {k1 : Nat} {k2 : Nat} {K : ES → Prop} (hA : okL g lay) (HB : XL g lay o) (hX : ∀ k, k < 26 → E0 (o + k) = X k) (h1 : isFi k1) (h2 : isLi k2) (hw : wp_X0_stepOn X k1 k2 K) : JMv l g lay yX0_stepOn wsX0_stepOn rmX0_stepOn [.ref o, .ref (o + k1), .ref (o + k2)] E0 (fun E1 => ∃ X1 : ES, E1 = put 26 o X1 E0 ∧ K X1) := by
  refine Met.ofW (cc := cX0_stepOn) (maxL := 5) (ret := none) (by decide) rfl ?_
  intro p e s m args below meth c s₁ B hml hv
  obtain ⟨rfl, hK, hW⟩ := hv
  have hx := B.exec
  have hb := B.bytes
  have hr := B.returns
  have hts := gd_of (atoms_spec (ws := wsX0_stepOn) B.pre)
  have hown : s.vm.findClass RX0 = some m.cls := findClass_of_methodNamed B.named
  have hlocks := B.notSynchronized
  have hS : va_S (Ab g) s.heap s.heap [] := va_S.rf
  have hW : Wd g lay (put 26 o X E0) s.heap := by rw [putSelf hX]; exact hW
  have hl := lv_entry [.ref o, .ref (o + k1), .ref (o + k2)] (n := 5) (Nat.le_of_ble_eq_true rfl)
  rw [lg_entry_eq]
  generalize (lg_sl [.ref o, .ref (o + k1), .ref (o + k2)] ++ List.replicate (5 - (lg_sl [.ref o, .ref (o + k1), .ref (o + k2)]).length) Slot.unset).toArray = ls at hl ⊢
  have hl : lv_has ls 5 [(0, .ref o), (1, .ref (o + k1)), (2, .ref (o + k2))] := hl
  unfold wp_X0_stepOn at hw
  refine lv_aload_n hx hb dX0_stepOn_0 rfl (lv_at hl 1 rfl) ?_
  refine lv_dup hx hb dX0_stepOn_1 rfl ?_
  refine g_X0_191 hx hb hown hts hK hW (HB.2.2.2.2.2 _ h1) (putAt (k := k1) (isFi_lt h1)) dX0_stepOn_2 ?_
  refine lv_iconst (v := 1) hx hb dX0_stepOn_5 (by decide) ?_
  refine lv_isub hx hb dX0_stepOn_6 ?_
  obtain ⟨X_1, eX_1⟩ : ∃ z : ES, z = va_up X k1 (upd (X k1) 5 (((X k1) 5) - 1)) := ⟨_, rfl⟩
  have hw := hw X_1 eX_1
  refine p_X0_191 (E1 := put 26 o X_1 E0) hx hb hown hts hK hA hW hS (HB.2.2.2.2.2 _ h1) (putAt (k := k1) (isFi_lt h1)) dX0_stepOn_7 (puE (k := k1) (isFi_lt h1) eX_1) (fun H locs hW hS => ?_)
  refine lv_aload_n hx hb dX0_stepOn_10 rfl (lv_at hl 1 rfl) ?_
  refine lv_dup hx hb dX0_stepOn_11 rfl ?_
  refine g_X0_211 hx hb hown hts hK hW (HB.2.2.2.2.2 _ h1) (putAt (k := k1) (isFi_lt h1)) dX0_stepOn_12 ?_
  refine lv_iconst (v := 1) hx hb dX0_stepOn_15 (by decide) ?_
  refine lv_iadd hx hb dX0_stepOn_16 ?_
  obtain ⟨X_2, eX_2⟩ : ∃ z : ES, z = va_up X_1 k1 (upd (X_1 k1) 6 (((X_1 k1) 6) + 1)) := ⟨_, rfl⟩
  have hw := hw X_2 eX_2
  refine p_X0_211 (E1 := put 26 o X_2 E0) hx hb hown hts hK hA hW hS (HB.2.2.2.2.2 _ h1) (putAt (k := k1) (isFi_lt h1)) dX0_stepOn_17 (puE (k := k1) (isFi_lt h1) eX_2) (fun H locs hW hS => ?_)
  refine lv_aload_n hx hb dX0_stepOn_20 rfl (lv_at hl 1 rfl) ?_
  refine g_X0_191 hx hb hown hts hK hW (HB.2.2.2.2.2 _ h1) (putAt (k := k1) (isFi_lt h1)) dX0_stepOn_21 ?_
  refine lv_if_le (tgt := 28) hx hb dX0_stepOn_24 (by decide) (fun c_3 => ?_) (fun c_3 => ?_)
  · have hw := hw.1 c_3
    refine lv_aload_n hx hb dX0_stepOn_28 rfl (lv_at hl 1 rfl) ?_
    refine g_X0_211 hx hb hown hts hK hW (HB.2.2.2.2.2 _ h1) (putAt (k := k1) (isFi_lt h1)) dX0_stepOn_29 ?_
    refine lv_iconst (v := 4) hx hb dX0_stepOn_32 (by decide) ?_
    refine lv_icmp_le (tgt := 46) hx hb dX0_stepOn_33 (by decide) (fun c_4 => ?_) (fun c_4 => ?_)
    · have hw := hw.1 c_4
      refine lv_iconst (v := 4) hx hb dX0_stepOn_46 (by decide) ?_
      refine lv_aload_n hx hb dX0_stepOn_47 rfl (lv_at hl 1 rfl) ?_
      refine g_X0_197 hx hb hown hts hK hW (HB.2.2.2.2.2 _ h1) (putAt (k := k1) (isFi_lt h1)) dX0_stepOn_48 ?_
      refine lv_iconst (v := 1) hx hb dX0_stepOn_51 (by decide) ?_
      refine lv_isub hx hb dX0_stepOn_52 ?_
      refine lv_imul hx hb dX0_stepOn_53 ?_
      refine lv_aload_n hx hb dX0_stepOn_54 rfl (lv_at hl 1 rfl) ?_
      refine g_X0_211 hx hb hown hts hK hW (HB.2.2.2.2.2 _ h1) (putAt (k := k1) (isFi_lt h1)) dX0_stepOn_55 ?_
      refine lv_iadd hx hb dX0_stepOn_58 ?_
      refine lv_iconst (v := 1) hx hb dX0_stepOn_59 (by decide) ?_
      refine lv_isub hx hb dX0_stepOn_60 ?_
      refine lv_topi (fun v_5 ev_5 => ?_)
      have hw := hw v_5 ev_5
      refine lv_istore_n (lv' := [(3, .int v_5), (0, .ref o), (1, .ref (o + k1)), (2, .ref (o + k2))]) hx hb dX0_stepOn_61 rfl hl (by decide) rfl (fun ls hl => ?_)
      refine lv_aload_n hx hb dX0_stepOn_62 rfl (lv_at hl 1 rfl) ?_
      refine lv_iload_n hx hb dX0_stepOn_63 rfl (lv_at hl 0 rfl) ?_
      refine w_cvr (As := [.int v_5]) (rest := []) hx hb hml hown hts hK hW hS hl.1 (c_X0_lineAt hA HB v_5) (k_X0_83 hts ⟨Nat.le_of_ble_eq_true rfl, Nat.le_of_ble_eq_true rfl⟩) (w_recv hK hW HB.1 (putAt (k := 0) (by decide)) rfl rfl) rfl rfl (Nat.le_of_ble_eq_true rfl) dX0_stepOn_64 ⟨Nat.zero_le _, Nat.zero_le _⟩ (fun q_6 Ez H locs hw2 hW hS => ?_)
      obtain ⟨ez, rfl⟩ := hw2
      rw [ez] at hW
      refine lv_astore (lv' := [(4, .ref (o + lix v_5)), (3, .int v_5), (0, .ref o), (1, .ref (o + k1)), (2, .ref (o + k2))]) hx hb dX0_stepOn_67 hl (by decide) rfl (fun ls hl => ?_)
      refine lv_aload hx hb dX0_stepOn_69 (lv_at hl 0 rfl) ?_
      refine g_X0_106 hx hb hown hts hK hW (HB.2.2.2.2.1 _ (isLi_lix v_5)) (putAt (k := lix v_5) (isLi_lt (isLi_lix v_5))) dX0_stepOn_71 ?_
      refine lv_if_eq (tgt := 87) hx hb dX0_stepOn_74 (by decide) (fun c_7 => ?_) (fun c_7 => ?_)
      · have hw := hw.1 c_7
        refine lv_aload_n hx hb dX0_stepOn_87 rfl (lv_at hl 3 rfl) ?_
        refine lv_bipush (v := 7) hx hb dX0_stepOn_88 (by decide) ?_
        refine w_cvv (As := [.int 7]) (rest := []) hx hb hml hown hts hK hW hS hl.1 (c_X1_become hA (HB.2.2.2.2.2 _ h1) (putAt (k := k1) (isFi_lt h1)) hw) (k_X0_184 hts ⟨Nat.le_of_ble_eq_true rfl, Nat.le_of_ble_eq_true rfl⟩) (w_recv hK hW (HB.2.2.2.2.2 _ h1) (putAt (k := k1) (isFi_lt h1)) rfl rfl) rfl rfl (Nat.le_of_ble_eq_true rfl) dX0_stepOn_90 ⟨Nat.zero_le _, Nat.zero_le _⟩ (fun Ez H locs hw2 hW hS => ?_)
        obtain ⟨Y_8, ez, hw⟩ := hw2
        rw [ez] at hW
        obtain ⟨X_9, eX_9⟩ : ∃ z : ES, z = va_up X_2 k1 Y_8 := ⟨_, rfl⟩
        have hw := hw X_9 eX_9
        have hW : Wd g lay (put 26 o X_9 E0) H := by rw [eX_9, ← putUp (k := k1) (isFi_lt h1)]; exact hW
        refine lv_aload_n hx hb dX0_stepOn_93 rfl (lv_at hl 3 rfl) ?_
        refine lv_iload_n hx hb dX0_stepOn_94 rfl (lv_at hl 1 rfl) ?_
        obtain ⟨X_10, eX_10⟩ : ∃ z : ES, z = va_up X_9 k1 (upd (X_9 k1) 9 v_5) := ⟨_, rfl⟩
        have hw := hw X_10 eX_10
        refine p_X0_129 (E1 := put 26 o X_10 E0) hx hb hown hts hK hA hW hS (HB.2.2.2.2.2 _ h1) (putAt (k := k1) (isFi_lt h1)) dX0_stepOn_95 (puE (k := k1) (isFi_lt h1) eX_10) (fun H locs hW hS => ?_)
        refine lv_aload_n hx hb dX0_stepOn_98 rfl (lv_at hl 4 rfl) ?_
        refine lv_iconst (v := 4) hx hb dX0_stepOn_99 (by decide) ?_
        obtain ⟨X_11, eX_11⟩ : ∃ z : ES, z = va_up X_10 k2 (upd (X_10 k2) 0 4) := ⟨_, rfl⟩
        have hw := hw X_11 eX_11
        refine p_X0_106 (E1 := put 26 o X_11 E0) hx hb hown hts hK hA hW hS (HB.2.2.2.2.1 _ h2) (putAt (k := k2) (isLi_lt h2)) dX0_stepOn_100 (puE (k := k2) (isLi_lt h2) eX_11) (fun H locs hW hS => ?_)
        refine lv_aload hx hb dX0_stepOn_103 (lv_at hl 0 rfl) ?_
        refine lv_iconst (v := 5) hx hb dX0_stepOn_105 (by decide) ?_
        obtain ⟨X_12, eX_12⟩ : ∃ z : ES, z = va_up X_11 (lix v_5) (upd (X_11 (lix v_5)) 0 5) := ⟨_, rfl⟩
        have hw := hw X_12 eX_12
        refine p_X0_106 (E1 := put 26 o X_12 E0) hx hb hown hts hK hA hW hS (HB.2.2.2.2.1 _ (isLi_lix v_5)) (putAt (k := lix v_5) (isLi_lt (isLi_lix v_5))) dX0_stepOn_106 (puE (k := lix v_5) (isLi_lt (isLi_lix v_5)) eX_12) (fun H locs hW hS => ?_)
        refine lv_aload hx hb dX0_stepOn_109 (lv_at hl 0 rfl) ?_
        refine lv_aload_n hx hb dX0_stepOn_111 rfl (lv_at hl 4 rfl) ?_
        refine g_X0_119 hx hb hown hts hK hW (HB.2.2.2.2.1 _ h2) (putAt (k := k2) (isLi_lt h2)) dX0_stepOn_112 ?_
        obtain ⟨X_13, eX_13⟩ : ∃ z : ES, z = va_up X_12 (lix v_5) (upd (X_12 (lix v_5)) 6 ((X_12 k2) 6)) := ⟨_, rfl⟩
        have hw := hw X_13 eX_13
        refine p_X0_119 (E1 := put 26 o X_13 E0) hx hb hown hts hK hA hW hS (HB.2.2.2.2.1 _ (isLi_lix v_5)) (putAt (k := lix v_5) (isLi_lt (isLi_lix v_5))) dX0_stepOn_115 (puE (k := lix v_5) (isLi_lt (isLi_lix v_5)) eX_13) (fun H locs hW hS => ?_)
        refine lv_aload_n hx hb dX0_stepOn_118 rfl (lv_at hl 2 rfl) ?_
        refine lv_dup hx hb dX0_stepOn_119 rfl ?_
        refine g_X0_64 hx hb hown hts hK hW HB.1 (putAt (k := 0) (by decide)) dX0_stepOn_120 ?_
        refine lv_iconst (v := 1) hx hb dX0_stepOn_123 (by decide) ?_
        refine lv_iadd hx hb dX0_stepOn_124 ?_
        obtain ⟨X_14, eX_14⟩ : ∃ z : ES, z = va_up X_13 0 (upd (X_13 0) 11 (((X_13 0) 11) + 1)) := ⟨_, rfl⟩
        have hw := hw X_14 eX_14
        refine p_X0_64 (E1 := put 26 o X_14 E0) hx hb hown hts hK hA hW hS HB.1 (putAt (k := 0) (by decide)) dX0_stepOn_125 (puE (k := 0) (by decide) eX_14) (fun H locs hW hS => ?_)
        exact w_vret hx hb hr hlocks hW hS ⟨X_14, rfl, hw⟩ dX0_stepOn_128
      · have hw := hw.2 c_7
        refine lv_aload_n hx hb dX0_stepOn_77 rfl (lv_at hl 2 rfl) ?_
        refine lv_aload_n hx hb dX0_stepOn_78 rfl (lv_at hl 3 rfl) ?_
        refine lv_aload_n hx hb dX0_stepOn_79 rfl (lv_at hl 4 rfl) ?_
        refine lv_bipush (v := 8) hx hb dX0_stepOn_80 (by decide) ?_
        refine lv_iconst (v := 1) hx hb dX0_stepOn_82 (by decide) ?_
        refine w_cvv (As := [.ref (o + k1), .ref (o + k2), .int 8, .int 1]) (rest := []) hx hb hml hown hts hK hW hS hl.1 (c_X0_sound hA HB (fun k hk => putAt hk) h1 h2 hw) (k_X0_200 hts ⟨Nat.le_of_ble_eq_true rfl, Nat.le_of_ble_eq_true rfl⟩) (w_recv hK hW HB.1 (putAt (k := 0) (by decide)) rfl rfl) rfl rfl (Nat.le_of_ble_eq_true rfl) dX0_stepOn_83 ⟨Nat.zero_le _, Nat.zero_le _⟩ (fun Ez H locs hw2 hW hS => ?_)
        obtain ⟨X_15, ez, hw⟩ := hw2
        rw [ez, putPut] at hW
        exact w_vret hx hb hr hlocks hW hS ⟨X_15, rfl, hw⟩ dX0_stepOn_86
    · have hw := hw.2 c_4
      refine lv_aload_n hx hb dX0_stepOn_36 rfl (lv_at hl 0 rfl) ?_
      refine lv_aload_n hx hb dX0_stepOn_37 rfl (lv_at hl 1 rfl) ?_
      refine lv_aload_n hx hb dX0_stepOn_38 rfl (lv_at hl 2 rfl) ?_
      refine lv_bipush (v := 9) hx hb dX0_stepOn_39 (by decide) ?_
      refine lv_iconst (v := 3) hx hb dX0_stepOn_41 (by decide) ?_
      refine w_cvv (As := [.ref (o + k1), .ref (o + k2), .int 9, .int 3]) (rest := []) hx hb hml hown hts hK hW hS hl.1 (c_X0_sound hA HB (fun k hk => putAt hk) h1 h2 hw) (k_X0_200 hts ⟨Nat.le_of_ble_eq_true rfl, Nat.le_of_ble_eq_true rfl⟩) (w_recv hK hW HB.1 (putAt (k := 0) (by decide)) rfl rfl) rfl rfl (Nat.le_of_ble_eq_true rfl) dX0_stepOn_42 ⟨Nat.zero_le _, Nat.zero_le _⟩ (fun Ez H locs hw2 hW hS => ?_)
      obtain ⟨X_16, ez, hw⟩ := hw2
      rw [ez, putPut] at hW
      exact w_vret hx hb hr hlocks hW hS ⟨X_16, rfl, hw⟩ dX0_stepOn_45
  · have hw := hw.2 c_3
    exact w_vret hx hb hr hlocks hW hS ⟨X_2, rfl, hw⟩ dX0_stepOn_27
set_option maxHeartbeats 4000000 in
set_option maxRecDepth 100000 in
theorem c_X0_ringOn {l : Launch} {g : GG} {lay : LY} {E0 : ES} {o : Nat} {X : ES} {k1 : Nat} {k2 : Nat} {K : ES → Prop} (hA : okL g lay) (HB : XL g lay o) (hX : ∀ k, k < 26 → E0 (o + k) = X k) (h1 : isFi k1) (h2 : isLi k2) (hw : wp_X0_ringOn X k1 k2 K) : JMv l g lay yX0_ringOn wsX0_ringOn rmX0_ringOn [.ref o, .ref (o + k1), .ref (o + k2)] E0 (fun E1 => ∃ X1 : ES, E1 = put 26 o X1 E0 ∧ K X1) := by
  refine Met.ofW (cc := cX0_ringOn) (maxL := 4) (ret := none) (by decide) rfl ?_
  intro p e s m args below meth c s₁ B hml hv
  obtain ⟨rfl, hK, hW⟩ := hv
  have hx := B.exec
  have hb := B.bytes
  have hr := B.returns
  have hts := gd_of (atoms_spec (ws := wsX0_ringOn) B.pre)
  have hown : s.vm.findClass RX0 = some m.cls := findClass_of_methodNamed B.named
  have hlocks := B.notSynchronized
  have hS : va_S (Ab g) s.heap s.heap [] := va_S.rf
  have hW : Wd g lay (put 26 o X E0) s.heap := by rw [putSelf hX]; exact hW
  have hl := lv_entry [.ref o, .ref (o + k1), .ref (o + k2)] (n := 4) (Nat.le_of_ble_eq_true rfl)
  rw [lg_entry_eq]
  generalize (lg_sl [.ref o, .ref (o + k1), .ref (o + k2)] ++ List.replicate (4 - (lg_sl [.ref o, .ref (o + k1), .ref (o + k2)]).length) Slot.unset).toArray = ls at hl ⊢
  have hl : lv_has ls 4 [(0, .ref o), (1, .ref (o + k1)), (2, .ref (o + k2))] := hl
  unfold wp_X0_ringOn at hw
  refine lv_aload_n hx hb dX0_ringOn_0 rfl (lv_at hl 0 rfl) ?_
  refine lv_aload_n hx hb dX0_ringOn_1 rfl (lv_at hl 1 rfl) ?_
  refine g_X0_129 hx hb hown hts hK hW (HB.2.2.2.2.2 _ h1) (putAt (k := k1) (isFi_lt h1)) dX0_ringOn_2 ?_
  refine w_cvr (As := [.int ((X k1) 9)]) (rest := []) hx hb hml hown hts hK hW hS hl.1 (c_X0_lineAt hA HB ((X k1) 9)) (k_X0_83 hts ⟨Nat.le_of_ble_eq_true rfl, Nat.le_of_ble_eq_true rfl⟩) (w_recv hK hW HB.1 (putAt (k := 0) (by decide)) rfl rfl) rfl rfl (Nat.le_of_ble_eq_true rfl) dX0_ringOn_5 ⟨Nat.zero_le _, Nat.zero_le _⟩ (fun q_1 Ez H locs hw2 hW hS => ?_)
  obtain ⟨ez, rfl⟩ := hw2
  rw [ez] at hW
  refine lv_astore_n (lv' := [(3, .ref (o + lix ((X k1) 9))), (0, .ref o), (1, .ref (o + k1)), (2, .ref (o + k2))]) hx hb dX0_ringOn_8 rfl hl (by decide) rfl (fun ls hl => ?_)
  refine lv_aload_n hx hb dX0_ringOn_9 rfl (lv_at hl 0 rfl) ?_
  refine g_X0_102 hx hb hown hts hK hW (HB.2.2.2.2.1 _ (isLi_lix ((X k1) 9))) (putAt (k := lix ((X k1) 9)) (isLi_lt (isLi_lix ((X k1) 9)))) dX0_ringOn_10 ?_
  refine lv_if_eq (tgt := 55) hx hb dX0_ringOn_13 (by decide) (fun c_2 => ?_) (fun c_2 => ?_)
  · have hw := hw.1 c_2
    refine lv_aload_n hx hb dX0_ringOn_55 rfl (lv_at hl 2 rfl) ?_
    refine lv_dup hx hb dX0_ringOn_56 rfl ?_
    refine g_X0_194 hx hb hown hts hK hW (HB.2.2.2.2.2 _ h1) (putAt (k := k1) (isFi_lt h1)) dX0_ringOn_57 ?_
    refine lv_iconst (v := 1) hx hb dX0_ringOn_60 (by decide) ?_
    refine lv_iadd hx hb dX0_ringOn_61 ?_
    obtain ⟨X_3, eX_3⟩ : ∃ z : ES, z = va_up X k1 (upd (X k1) 7 (((X k1) 7) + 1)) := ⟨_, rfl⟩
    have hw := hw X_3 eX_3
    refine p_X0_194 (E1 := put 26 o X_3 E0) hx hb hown hts hK hA hW hS (HB.2.2.2.2.2 _ h1) (putAt (k := k1) (isFi_lt h1)) dX0_ringOn_62 (puE (k := k1) (isFi_lt h1) eX_3) (fun H locs hW hS => ?_)
    refine lv_aload_n hx hb dX0_ringOn_65 rfl (lv_at hl 2 rfl) ?_
    refine g_X0_194 hx hb hown hts hK hW (HB.2.2.2.2.2 _ h1) (putAt (k := k1) (isFi_lt h1)) dX0_ringOn_66 ?_
    refine lv_aload_n hx hb dX0_ringOn_69 rfl (lv_at hl 1 rfl) ?_
    refine lv_iconst (v := 1) hx hb dX0_ringOn_70 (by decide) ?_
    refine w_cvi (As := [.int 1]) (rest := [.int ((X_3 k1) 7)]) hx hb hml hown hts hK hW hS hl.1 (c_X0_settingAt hA HB (fun k hk => putAt hk)  hw) (k_X0_79 hts ⟨Nat.le_of_ble_eq_true rfl, Nat.le_of_ble_eq_true rfl⟩) (w_recv hK hW HB.1 (putAt (k := 0) (by decide)) rfl rfl) rfl rfl (Nat.le_of_ble_eq_true rfl) dX0_ringOn_71 ⟨Nat.zero_le _, Nat.zero_le _⟩ (fun r_4 Ez H locs hw2 hW hS => ?_)
    obtain ⟨ez, hw⟩ := hw2
    rw [ez] at hW
    refine lv_icmp_lt (tgt := 91) hx hb dX0_ringOn_74 (by decide) (fun c_5 => ?_) (fun c_5 => ?_)
    · have hw := hw.1 c_5
      exact w_vret hx hb hr hlocks hW hS ⟨X_3, rfl, hw⟩ dX0_ringOn_91
    · have hw := hw.2 c_5
      refine lv_aload_n hx hb dX0_ringOn_77 rfl (lv_at hl 1 rfl) ?_
      refine lv_aload_n hx hb dX0_ringOn_78 rfl (lv_at hl 2 rfl) ?_
      refine lv_aload_n hx hb dX0_ringOn_79 rfl (lv_at hl 3 rfl) ?_
      refine lv_bipush (v := 8) hx hb dX0_ringOn_80 (by decide) ?_
      refine lv_iconst (v := 4) hx hb dX0_ringOn_82 (by decide) ?_
      refine w_cvv (As := [.ref (o + k1), .ref (o + k2), .int 8, .int 4]) (rest := []) hx hb hml hown hts hK hW hS hl.1 (c_X0_sound hA HB (fun k hk => putAt hk) h1 h2 hw) (k_X0_200 hts ⟨Nat.le_of_ble_eq_true rfl, Nat.le_of_ble_eq_true rfl⟩) (w_recv hK hW HB.1 (putAt (k := 0) (by decide)) rfl rfl) rfl rfl (Nat.le_of_ble_eq_true rfl) dX0_ringOn_83 ⟨Nat.zero_le _, Nat.zero_le _⟩ (fun Ez H locs hw2 hW hS => ?_)
      obtain ⟨X_6, ez, hw⟩ := hw2
      rw [ez, putPut] at hW
      refine lv_aload_n hx hb dX0_ringOn_86 rfl (lv_at hl 0 rfl) ?_
      refine lv_iconst (v := 0) hx hb dX0_ringOn_87 (by decide) ?_
      refine w_cvv (As := [.int 0]) (rest := []) hx hb hml hown hts hK hW hS hl.1 (c_X2_leaveCall hA (HB.2.2.2.2.1 _ (isLi_lix ((X k1) 9))) (putAt (k := lix ((X k1) 9)) (isLi_lt (isLi_lix ((X k1) 9)))) hw) (k_X0_125 hts ⟨Nat.le_of_ble_eq_true rfl, Nat.le_of_ble_eq_true rfl⟩) (w_recv hK hW (HB.2.2.2.2.1 _ (isLi_lix ((X k1) 9))) (putAt (k := lix ((X k1) 9)) (isLi_lt (isLi_lix ((X k1) 9)))) rfl rfl) rfl rfl (Nat.le_of_ble_eq_true rfl) dX0_ringOn_88 ⟨Nat.zero_le _, Nat.zero_le _⟩ (fun Ez H locs hw2 hW hS => ?_)
      obtain ⟨Y_7, ez, hw⟩ := hw2
      rw [ez] at hW
      obtain ⟨X_8, eX_8⟩ : ∃ z : ES, z = va_up X_6 (lix ((X k1) 9)) Y_7 := ⟨_, rfl⟩
      have hw := hw X_8 eX_8
      have hW : Wd g lay (put 26 o X_8 E0) H := by rw [eX_8, ← putUp (k := lix ((X k1) 9)) (isLi_lt (isLi_lix ((X k1) 9)))]; exact hW
      exact w_vret hx hb hr hlocks hW hS ⟨X_8, rfl, hw⟩ dX0_ringOn_91
  · have hw := hw.2 c_2
    refine lv_aload_n hx hb dX0_ringOn_16 rfl (lv_at hl 2 rfl) ?_
    refine lv_bipush (v := 8) hx hb dX0_ringOn_17 (by decide) ?_
    refine w_cvv (As := [.int 8]) (rest := []) hx hb hml hown hts hK hW hS hl.1 (c_X1_become hA (HB.2.2.2.2.2 _ h1) (putAt (k := k1) (isFi_lt h1)) hw) (k_X0_184 hts ⟨Nat.le_of_ble_eq_true rfl, Nat.le_of_ble_eq_true rfl⟩) (w_recv hK hW (HB.2.2.2.2.2 _ h1) (putAt (k := k1) (isFi_lt h1)) rfl rfl) rfl rfl (Nat.le_of_ble_eq_true rfl) dX0_ringOn_19 ⟨Nat.zero_le _, Nat.zero_le _⟩ (fun Ez H locs hw2 hW hS => ?_)
    obtain ⟨Y_9, ez, hw⟩ := hw2
    rw [ez] at hW
    obtain ⟨X_10, eX_10⟩ : ∃ z : ES, z = va_up X k1 Y_9 := ⟨_, rfl⟩
    have hw := hw X_10 eX_10
    have hW : Wd g lay (put 26 o X_10 E0) H := by rw [eX_10, ← putUp (k := k1) (isFi_lt h1)]; exact hW
    refine lv_aload_n hx hb dX0_ringOn_22 rfl (lv_at hl 3 rfl) ?_
    refine lv_bipush (v := 6) hx hb dX0_ringOn_23 (by decide) ?_
    obtain ⟨X_11, eX_11⟩ : ∃ z : ES, z = va_up X_10 k2 (upd (X_10 k2) 0 6) := ⟨_, rfl⟩
    have hw := hw X_11 eX_11
    refine p_X0_106 (E1 := put 26 o X_11 E0) hx hb hown hts hK hA hW hS (HB.2.2.2.2.1 _ h2) (putAt (k := k2) (isLi_lt h2)) dX0_ringOn_25 (puE (k := k2) (isLi_lt h2) eX_11) (fun H locs hW hS => ?_)
    refine lv_aload_n hx hb dX0_ringOn_28 rfl (lv_at hl 0 rfl) ?_
    refine lv_bipush (v := 7) hx hb dX0_ringOn_29 (by decide) ?_
    obtain ⟨X_12, eX_12⟩ : ∃ z : ES, z = va_up X_11 (lix ((X k1) 9)) (upd (X_11 (lix ((X k1) 9))) 0 7) := ⟨_, rfl⟩
    have hw := hw X_12 eX_12
    refine p_X0_106 (E1 := put 26 o X_12 E0) hx hb hown hts hK hA hW hS (HB.2.2.2.2.1 _ (isLi_lix ((X k1) 9))) (putAt (k := lix ((X k1) 9)) (isLi_lt (isLi_lix ((X k1) 9)))) dX0_ringOn_31 (puE (k := lix ((X k1) 9)) (isLi_lt (isLi_lix ((X k1) 9))) eX_12) (fun H locs hW hS => ?_)
    refine lv_aload_n hx hb dX0_ringOn_34 rfl (lv_at hl 3 rfl) ?_
    refine lv_dup hx hb dX0_ringOn_35 rfl ?_
    refine g_X0_214 hx hb hown hts hK hW (HB.2.2.2.2.1 _ h2) (putAt (k := k2) (isLi_lt h2)) dX0_ringOn_36 ?_
    refine lv_iconst (v := 1) hx hb dX0_ringOn_39 (by decide) ?_
    refine lv_iadd hx hb dX0_ringOn_40 ?_
    obtain ⟨X_13, eX_13⟩ : ∃ z : ES, z = va_up X_12 k2 (upd (X_12 k2) 2 (((X_12 k2) 2) + 1)) := ⟨_, rfl⟩
    have hw := hw X_13 eX_13
    refine p_X0_214 (E1 := put 26 o X_13 E0) hx hb hown hts hK hA hW hS (HB.2.2.2.2.1 _ h2) (putAt (k := k2) (isLi_lt h2)) dX0_ringOn_41 (puE (k := k2) (isLi_lt h2) eX_13) (fun H locs hW hS => ?_)
    refine lv_aload_n hx hb dX0_ringOn_44 rfl (lv_at hl 1 rfl) ?_
    refine lv_dup hx hb dX0_ringOn_45 rfl ?_
    refine g_X0_67 hx hb hown hts hK hW HB.1 (putAt (k := 0) (by decide)) dX0_ringOn_46 ?_
    refine lv_iconst (v := 1) hx hb dX0_ringOn_49 (by decide) ?_
    refine lv_iadd hx hb dX0_ringOn_50 ?_
    obtain ⟨X_14, eX_14⟩ : ∃ z : ES, z = va_up X_13 0 (upd (X_13 0) 12 (((X_13 0) 12) + 1)) := ⟨_, rfl⟩
    have hw := hw X_14 eX_14
    refine p_X0_67 (E1 := put 26 o X_14 E0) hx hb hown hts hK hA hW hS HB.1 (putAt (k := 0) (by decide)) dX0_ringOn_51 (puE (k := 0) (by decide) eX_14) (fun H locs hW hS => ?_)
    exact w_vret hx hb hr hlocks hW hS ⟨X_14, rfl, hw⟩ dX0_ringOn_54
set_option maxHeartbeats 4000000 in
set_option maxRecDepth 100000 in
theorem c_X0_talkOn {l : Launch} {g : GG} {lay : LY} {E0 : ES} {o : Nat} {X : ES} {k1 : Nat} {k2 : Nat} {K : ES → Prop} (hA : okL g lay) (HB : XL g lay o) (hX : ∀ k, k < 26 → E0 (o + k) = X k) (h1 : isFi k1) (h2 : isLi k2) (hw : wp_X0_talkOn X k1 k2 K) : JMv l g lay yX0_talkOn wsX0_talkOn rmX0_talkOn [.ref o, .ref (o + k1), .ref (o + k2)] E0 (fun E1 => ∃ X1 : ES, E1 = put 26 o X1 E0 ∧ K X1) := by
  refine Met.ofW (cc := cX0_talkOn) (maxL := 5) (ret := none) (by decide) rfl ?_
  intro p e s m args below meth c s₁ B hml hv
  obtain ⟨rfl, hK, hW⟩ := hv
  have hx := B.exec
  have hb := B.bytes
  have hr := B.returns
  have hts := gd_of (atoms_spec (ws := wsX0_talkOn) B.pre)
  have hown : s.vm.findClass RX0 = some m.cls := findClass_of_methodNamed B.named
  have hlocks := B.notSynchronized
  have hS : va_S (Ab g) s.heap s.heap [] := va_S.rf
  have hW : Wd g lay (put 26 o X E0) s.heap := by rw [putSelf hX]; exact hW
  have hl := lv_entry [.ref o, .ref (o + k1), .ref (o + k2)] (n := 5) (Nat.le_of_ble_eq_true rfl)
  rw [lg_entry_eq]
  generalize (lg_sl [.ref o, .ref (o + k1), .ref (o + k2)] ++ List.replicate (5 - (lg_sl [.ref o, .ref (o + k1), .ref (o + k2)]).length) Slot.unset).toArray = ls at hl ⊢
  have hl : lv_has ls 5 [(0, .ref o), (1, .ref (o + k1)), (2, .ref (o + k2))] := hl
  unfold wp_X0_talkOn at hw
  refine lv_aload_n hx hb dX0_talkOn_0 rfl (lv_at hl 0 rfl) ?_
  refine lv_aload_n hx hb dX0_talkOn_1 rfl (lv_at hl 1 rfl) ?_
  refine g_X0_129 hx hb hown hts hK hW (HB.2.2.2.2.2 _ h1) (putAt (k := k1) (isFi_lt h1)) dX0_talkOn_2 ?_
  refine w_cvr (As := [.int ((X k1) 9)]) (rest := []) hx hb hml hown hts hK hW hS hl.1 (c_X0_lineAt hA HB ((X k1) 9)) (k_X0_83 hts ⟨Nat.le_of_ble_eq_true rfl, Nat.le_of_ble_eq_true rfl⟩) (w_recv hK hW HB.1 (putAt (k := 0) (by decide)) rfl rfl) rfl rfl (Nat.le_of_ble_eq_true rfl) dX0_talkOn_5 ⟨Nat.zero_le _, Nat.zero_le _⟩ (fun q_1 Ez H locs hw2 hW hS => ?_)
  obtain ⟨ez, rfl⟩ := hw2
  rw [ez] at hW
  refine lv_astore_n (lv' := [(3, .ref (o + lix ((X k1) 9))), (0, .ref o), (1, .ref (o + k1)), (2, .ref (o + k2))]) hx hb dX0_talkOn_8 rfl hl (by decide) rfl (fun ls hl => ?_)
  refine lv_aload_n hx hb dX0_talkOn_9 rfl (lv_at hl 0 rfl) ?_
  refine g_X0_102 hx hb hown hts hK hW (HB.2.2.2.2.1 _ (isLi_lix ((X k1) 9))) (putAt (k := lix ((X k1) 9)) (isLi_lt (isLi_lix ((X k1) 9)))) dX0_talkOn_10 ?_
  refine lv_if_eq (tgt := 24) hx hb dX0_talkOn_13 (by decide) (fun c_2 => ?_) (fun c_2 => ?_)
  · have hw := hw.1 c_2
    refine lv_aload_n hx hb dX0_talkOn_24 rfl (lv_at hl 2 rfl) ?_
    refine lv_dup hx hb dX0_talkOn_25 rfl ?_
    refine g_X0_217 hx hb hown hts hK hW (HB.2.2.2.2.2 _ h1) (putAt (k := k1) (isFi_lt h1)) dX0_talkOn_26 ?_
    refine lv_iconst (v := 1) hx hb dX0_talkOn_29 (by decide) ?_
    refine lv_iadd hx hb dX0_talkOn_30 ?_
    obtain ⟨X_3, eX_3⟩ : ∃ z : ES, z = va_up X k1 (upd (X k1) 8 (((X k1) 8) + 1)) := ⟨_, rfl⟩
    have hw := hw X_3 eX_3
    refine p_X0_217 (E1 := put 26 o X_3 E0) hx hb hown hts hK hA hW hS (HB.2.2.2.2.2 _ h1) (putAt (k := k1) (isFi_lt h1)) dX0_talkOn_31 (puE (k := k1) (isFi_lt h1) eX_3) (fun H locs hW hS => ?_)
    refine lv_aload_n hx hb dX0_talkOn_34 rfl (lv_at hl 2 rfl) ?_
    refine g_X0_217 hx hb hown hts hK hW (HB.2.2.2.2.2 _ h1) (putAt (k := k1) (isFi_lt h1)) dX0_talkOn_35 ?_
    refine lv_aload_n hx hb dX0_talkOn_38 rfl (lv_at hl 1 rfl) ?_
    refine lv_iconst (v := 3) hx hb dX0_talkOn_39 (by decide) ?_
    refine w_cvi (As := [.int 3]) (rest := [.int ((X_3 k1) 8)]) hx hb hml hown hts hK hW hS hl.1 (c_X0_settingAt hA HB (fun k hk => putAt hk)  hw) (k_X0_79 hts ⟨Nat.le_of_ble_eq_true rfl, Nat.le_of_ble_eq_true rfl⟩) (w_recv hK hW HB.1 (putAt (k := 0) (by decide)) rfl rfl) rfl rfl (Nat.le_of_ble_eq_true rfl) dX0_talkOn_40 ⟨Nat.zero_le _, Nat.zero_le _⟩ (fun r_4 Ez H locs hw2 hW hS => ?_)
    obtain ⟨ez, hw⟩ := hw2
    rw [ez] at hW
    refine lv_icmp_lt (tgt := 68) hx hb dX0_talkOn_43 (by decide) (fun c_5 => ?_) (fun c_5 => ?_)
    · have hw := hw.1 c_5
      refine lv_aload_n hx hb dX0_talkOn_68 rfl (lv_at hl 2 rfl) ?_
      refine lv_dup hx hb dX0_talkOn_69 rfl ?_
      refine g_X0_194 hx hb hown hts hK hW (HB.2.2.2.2.2 _ h1) (putAt (k := k1) (isFi_lt h1)) dX0_talkOn_70 ?_
      refine lv_iconst (v := 1) hx hb dX0_talkOn_73 (by decide) ?_
      refine lv_iadd hx hb dX0_talkOn_74 ?_
      obtain ⟨X_6, eX_6⟩ : ∃ z : ES, z = va_up X_3 k1 (upd (X_3 k1) 7 (((X_3 k1) 7) + 1)) := ⟨_, rfl⟩
      have hw := hw X_6 eX_6
      refine p_X0_194 (E1 := put 26 o X_6 E0) hx hb hown hts hK hA hW hS (HB.2.2.2.2.2 _ h1) (putAt (k := k1) (isFi_lt h1)) dX0_talkOn_75 (puE (k := k1) (isFi_lt h1) eX_6) (fun H locs hW hS => ?_)
      refine lv_aload_n hx hb dX0_talkOn_78 rfl (lv_at hl 1 rfl) ?_
      refine lv_iconst (v := 2) hx hb dX0_talkOn_79 (by decide) ?_
      refine w_cvi (As := [.int 2]) (rest := []) hx hb hml hown hts hK hW hS hl.1 (c_X0_settingAt hA HB (fun k hk => putAt hk)  hw) (k_X0_79 hts ⟨Nat.le_of_ble_eq_true rfl, Nat.le_of_ble_eq_true rfl⟩) (w_recv hK hW HB.1 (putAt (k := 0) (by decide)) rfl rfl) rfl rfl (Nat.le_of_ble_eq_true rfl) dX0_talkOn_80 ⟨Nat.zero_le _, Nat.zero_le _⟩ (fun r_7 Ez H locs hw2 hW hS => ?_)
      obtain ⟨ez, hw⟩ := hw2
      rw [ez] at hW
      refine lv_istore (lv' := [(4, .int r_7), (3, .ref (o + lix ((X k1) 9))), (0, .ref o), (1, .ref (o + k1)), (2, .ref (o + k2))]) hx hb dX0_talkOn_83 hl (by decide) rfl (fun ls hl => ?_)
      refine lv_iload hx hb dX0_talkOn_85 (lv_at hl 0 rfl) ?_
      refine lv_if_le (tgt := 110) hx hb dX0_talkOn_87 (by decide) (fun c_8 => ?_) (fun c_8 => ?_)
      · have hw := hw.1 c_8
        exact w_vret hx hb hr hlocks hW hS ⟨X_6, rfl, hw⟩ dX0_talkOn_110
      · have hw := hw.2 c_8
        refine lv_aload_n hx hb dX0_talkOn_90 rfl (lv_at hl 3 rfl) ?_
        refine g_X0_194 hx hb hown hts hK hW (HB.2.2.2.2.2 _ h1) (putAt (k := k1) (isFi_lt h1)) dX0_talkOn_91 ?_
        refine lv_iload hx hb dX0_talkOn_94 (lv_at hl 0 rfl) ?_
        obtain ⟨hnz, hw⟩ := hw
        refine lv_irem hx hb dX0_talkOn_96 hnz ?_
        refine lv_if_ne (tgt := 110) hx hb dX0_talkOn_97 (by decide) (fun c_9 => ?_) (fun c_9 => ?_)
        · have hw := hw.2 c_9
          exact w_vret hx hb hr hlocks hW hS ⟨X_6, rfl, hw⟩ dX0_talkOn_110
        · have hw := hw.1 c_9
          refine lv_aload_n hx hb dX0_talkOn_100 rfl (lv_at hl 4 rfl) ?_
          refine lv_dup hx hb dX0_talkOn_101 rfl ?_
          refine g_X0_214 hx hb hown hts hK hW (HB.2.2.2.2.1 _ h2) (putAt (k := k2) (isLi_lt h2)) dX0_talkOn_102 ?_
          refine lv_iconst (v := 1) hx hb dX0_talkOn_105 (by decide) ?_
          refine lv_iadd hx hb dX0_talkOn_106 ?_
          obtain ⟨X_10, eX_10⟩ : ∃ z : ES, z = va_up X_6 k2 (upd (X_6 k2) 2 (((X_6 k2) 2) + 1)) := ⟨_, rfl⟩
          have hw := hw X_10 eX_10
          refine p_X0_214 (E1 := put 26 o X_10 E0) hx hb hown hts hK hA hW hS (HB.2.2.2.2.1 _ h2) (putAt (k := k2) (isLi_lt h2)) dX0_talkOn_107 (puE (k := k2) (isLi_lt h2) eX_10) (fun H locs hW hS => ?_)
          exact w_vret hx hb hr hlocks hW hS ⟨X_10, rfl, hw⟩ dX0_talkOn_110
    · have hw := hw.2 c_5
      refine lv_aload_n hx hb dX0_talkOn_46 rfl (lv_at hl 2 rfl) ?_
      refine w_cvv (As := []) (rest := []) hx hb hml hown hts hK hW hS hl.1 (c_X1_becomeFree hA (HB.2.2.2.2.2 _ h1) (putAt (k := k1) (isFi_lt h1)) hw) (k_X0_132 hts ⟨Nat.le_of_ble_eq_true rfl, Nat.le_of_ble_eq_true rfl⟩) (w_recv hK hW (HB.2.2.2.2.2 _ h1) (putAt (k := k1) (isFi_lt h1)) rfl rfl) rfl rfl (Nat.le_of_ble_eq_true rfl) dX0_talkOn_47 ⟨Nat.zero_le _, Nat.zero_le _⟩ (fun Ez H locs hw2 hW hS => ?_)
      obtain ⟨Y_11, ez, hw⟩ := hw2
      rw [ez] at hW
      obtain ⟨X_12, eX_12⟩ : ∃ z : ES, z = va_up X_3 k1 Y_11 := ⟨_, rfl⟩
      have hw := hw X_12 eX_12
      have hW : Wd g lay (put 26 o X_12 E0) H := by rw [eX_12, ← putUp (k := k1) (isFi_lt h1)]; exact hW
      refine lv_aload_n hx hb dX0_talkOn_50 rfl (lv_at hl 3 rfl) ?_
      refine lv_bipush (v := 6) hx hb dX0_talkOn_51 (by decide) ?_
      obtain ⟨X_13, eX_13⟩ : ∃ z : ES, z = va_up X_12 k2 (upd (X_12 k2) 3 6) := ⟨_, rfl⟩
      have hw := hw X_13 eX_13
      refine p_X0_109 (E1 := put 26 o X_13 E0) hx hb hown hts hK hA hW hS (HB.2.2.2.2.1 _ h2) (putAt (k := k2) (isLi_lt h2)) dX0_talkOn_53 (puE (k := k2) (isLi_lt h2) eX_13) (fun H locs hW hS => ?_)
      refine lv_aload_n hx hb dX0_talkOn_56 rfl (lv_at hl 3 rfl) ?_
      refine lv_bipush (v := 10) hx hb dX0_talkOn_57 (by decide) ?_
      refine w_cvv (As := [.int 10]) (rest := []) hx hb hml hown hts hK hW hS hl.1 (c_X2_leaveCall hA (HB.2.2.2.2.1 _ h2) (putAt (k := k2) (isLi_lt h2)) hw) (k_X0_125 hts ⟨Nat.le_of_ble_eq_true rfl, Nat.le_of_ble_eq_true rfl⟩) (w_recv hK hW (HB.2.2.2.2.1 _ h2) (putAt (k := k2) (isLi_lt h2)) rfl rfl) rfl rfl (Nat.le_of_ble_eq_true rfl) dX0_talkOn_59 ⟨Nat.zero_le _, Nat.zero_le _⟩ (fun Ez H locs hw2 hW hS => ?_)
      obtain ⟨Y_14, ez, hw⟩ := hw2
      rw [ez] at hW
      obtain ⟨X_15, eX_15⟩ : ∃ z : ES, z = va_up X_13 k2 Y_14 := ⟨_, rfl⟩
      have hw := hw X_15 eX_15
      have hW : Wd g lay (put 26 o X_15 E0) H := by rw [eX_15, ← putUp (k := k2) (isLi_lt h2)]; exact hW
      refine lv_aload_n hx hb dX0_talkOn_62 rfl (lv_at hl 0 rfl) ?_
      refine lv_iconst (v := 0) hx hb dX0_talkOn_63 (by decide) ?_
      refine w_cvv (As := [.int 0]) (rest := []) hx hb hml hown hts hK hW hS hl.1 (c_X2_leaveCall hA (HB.2.2.2.2.1 _ (isLi_lix ((X k1) 9))) (putAt (k := lix ((X k1) 9)) (isLi_lt (isLi_lix ((X k1) 9)))) hw) (k_X0_125 hts ⟨Nat.le_of_ble_eq_true rfl, Nat.le_of_ble_eq_true rfl⟩) (w_recv hK hW (HB.2.2.2.2.1 _ (isLi_lix ((X k1) 9))) (putAt (k := lix ((X k1) 9)) (isLi_lt (isLi_lix ((X k1) 9)))) rfl rfl) rfl rfl (Nat.le_of_ble_eq_true rfl) dX0_talkOn_64 ⟨Nat.zero_le _, Nat.zero_le _⟩ (fun Ez H locs hw2 hW hS => ?_)
      obtain ⟨Y_16, ez, hw⟩ := hw2
      rw [ez] at hW
      obtain ⟨X_17, eX_17⟩ : ∃ z : ES, z = va_up X_15 (lix ((X k1) 9)) Y_16 := ⟨_, rfl⟩
      have hw := hw X_17 eX_17
      have hW : Wd g lay (put 26 o X_17 E0) H := by rw [eX_17, ← putUp (k := lix ((X k1) 9)) (isLi_lt (isLi_lix ((X k1) 9)))]; exact hW
      exact w_vret hx hb hr hlocks hW hS ⟨X_17, rfl, hw⟩ dX0_talkOn_67
  · have hw := hw.2 c_2
    refine lv_aload_n hx hb dX0_talkOn_16 rfl (lv_at hl 2 rfl) ?_
    refine lv_iconst (v := 0) hx hb dX0_talkOn_17 (by decide) ?_
    obtain ⟨X_18, eX_18⟩ : ∃ z : ES, z = va_up X k1 (upd (X k1) 8 0) := ⟨_, rfl⟩
    have hw := hw X_18 eX_18
    refine p_X0_217 (E1 := put 26 o X_18 E0) hx hb hown hts hK hA hW hS (HB.2.2.2.2.2 _ h1) (putAt (k := k1) (isFi_lt h1)) dX0_talkOn_18 (puE (k := k1) (isFi_lt h1) eX_18) (fun H locs hW hS => ?_)
    refine lv_goto (tgt := 68) hx hb dX0_talkOn_21 (by decide) ?_
    refine lv_aload_n hx hb dX0_talkOn_68 rfl (lv_at hl 2 rfl) ?_
    refine lv_dup hx hb dX0_talkOn_69 rfl ?_
    refine g_X0_194 hx hb hown hts hK hW (HB.2.2.2.2.2 _ h1) (putAt (k := k1) (isFi_lt h1)) dX0_talkOn_70 ?_
    refine lv_iconst (v := 1) hx hb dX0_talkOn_73 (by decide) ?_
    refine lv_iadd hx hb dX0_talkOn_74 ?_
    obtain ⟨X_19, eX_19⟩ : ∃ z : ES, z = va_up X_18 k1 (upd (X_18 k1) 7 (((X_18 k1) 7) + 1)) := ⟨_, rfl⟩
    have hw := hw X_19 eX_19
    refine p_X0_194 (E1 := put 26 o X_19 E0) hx hb hown hts hK hA hW hS (HB.2.2.2.2.2 _ h1) (putAt (k := k1) (isFi_lt h1)) dX0_talkOn_75 (puE (k := k1) (isFi_lt h1) eX_19) (fun H locs hW hS => ?_)
    refine lv_aload_n hx hb dX0_talkOn_78 rfl (lv_at hl 1 rfl) ?_
    refine lv_iconst (v := 2) hx hb dX0_talkOn_79 (by decide) ?_
    refine w_cvi (As := [.int 2]) (rest := []) hx hb hml hown hts hK hW hS hl.1 (c_X0_settingAt hA HB (fun k hk => putAt hk)  hw) (k_X0_79 hts ⟨Nat.le_of_ble_eq_true rfl, Nat.le_of_ble_eq_true rfl⟩) (w_recv hK hW HB.1 (putAt (k := 0) (by decide)) rfl rfl) rfl rfl (Nat.le_of_ble_eq_true rfl) dX0_talkOn_80 ⟨Nat.zero_le _, Nat.zero_le _⟩ (fun r_20 Ez H locs hw2 hW hS => ?_)
    obtain ⟨ez, hw⟩ := hw2
    rw [ez] at hW
    refine lv_istore (lv' := [(4, .int r_20), (3, .ref (o + lix ((X k1) 9))), (0, .ref o), (1, .ref (o + k1)), (2, .ref (o + k2))]) hx hb dX0_talkOn_83 hl (by decide) rfl (fun ls hl => ?_)
    refine lv_iload hx hb dX0_talkOn_85 (lv_at hl 0 rfl) ?_
    refine lv_if_le (tgt := 110) hx hb dX0_talkOn_87 (by decide) (fun c_21 => ?_) (fun c_21 => ?_)
    · have hw := hw.1 c_21
      exact w_vret hx hb hr hlocks hW hS ⟨X_19, rfl, hw⟩ dX0_talkOn_110
    · have hw := hw.2 c_21
      refine lv_aload_n hx hb dX0_talkOn_90 rfl (lv_at hl 3 rfl) ?_
      refine g_X0_194 hx hb hown hts hK hW (HB.2.2.2.2.2 _ h1) (putAt (k := k1) (isFi_lt h1)) dX0_talkOn_91 ?_
      refine lv_iload hx hb dX0_talkOn_94 (lv_at hl 0 rfl) ?_
      obtain ⟨hnz, hw⟩ := hw
      refine lv_irem hx hb dX0_talkOn_96 hnz ?_
      refine lv_if_ne (tgt := 110) hx hb dX0_talkOn_97 (by decide) (fun c_22 => ?_) (fun c_22 => ?_)
      · have hw := hw.2 c_22
        exact w_vret hx hb hr hlocks hW hS ⟨X_19, rfl, hw⟩ dX0_talkOn_110
      · have hw := hw.1 c_22
        refine lv_aload_n hx hb dX0_talkOn_100 rfl (lv_at hl 4 rfl) ?_
        refine lv_dup hx hb dX0_talkOn_101 rfl ?_
        refine g_X0_214 hx hb hown hts hK hW (HB.2.2.2.2.1 _ h2) (putAt (k := k2) (isLi_lt h2)) dX0_talkOn_102 ?_
        refine lv_iconst (v := 1) hx hb dX0_talkOn_105 (by decide) ?_
        refine lv_iadd hx hb dX0_talkOn_106 ?_
        obtain ⟨X_23, eX_23⟩ : ∃ z : ES, z = va_up X_19 k2 (upd (X_19 k2) 2 (((X_19 k2) 2) + 1)) := ⟨_, rfl⟩
        have hw := hw X_23 eX_23
        refine p_X0_214 (E1 := put 26 o X_23 E0) hx hb hown hts hK hA hW hS (HB.2.2.2.2.1 _ h2) (putAt (k := k2) (isLi_lt h2)) dX0_talkOn_107 (puE (k := k2) (isLi_lt h2) eX_23) (fun H locs hW hS => ?_)
        exact w_vret hx hb hr hlocks hW hS ⟨X_23, rfl, hw⟩ dX0_talkOn_110
set_option maxHeartbeats 4000000 in
set_option maxRecDepth 100000 in
theorem c_X0_soundOn {l : Launch} {g : GG} {lay : LY} {E0 : ES} {o : Nat} {X : ES} {k1 : Nat} {k2 : Nat} {K : ES → Prop} (hA : okL g lay) (HB : XL g lay o) (hX : ∀ k, k < 26 → E0 (o + k) = X k) (h1 : isFi k1) (h2 : isLi k2) (hw : wp_X0_soundOn X k1 k2 K) : JMv l g lay yX0_soundOn wsX0_soundOn rmX0_soundOn [.ref o, .ref (o + k1), .ref (o + k2)] E0 (fun E1 => ∃ X1 : ES, E1 = put 26 o X1 E0 ∧ K X1) := by
  refine Met.ofW (cc := cX0_soundOn) (maxL := 3) (ret := none) (by decide) rfl ?_
  intro p e s m args below meth c s₁ B hml hv
  obtain ⟨rfl, hK, hW⟩ := hv
  have hx := B.exec
  have hb := B.bytes
  have hr := B.returns
  have hts := gd_of (atoms_spec (ws := wsX0_soundOn) B.pre)
  have hown : s.vm.findClass RX0 = some m.cls := findClass_of_methodNamed B.named
  have hlocks := B.notSynchronized
  have hS : va_S (Ab g) s.heap s.heap [] := va_S.rf
  have hW : Wd g lay (put 26 o X E0) s.heap := by rw [putSelf hX]; exact hW
  have hl := lv_entry [.ref o, .ref (o + k1), .ref (o + k2)] (n := 3) (Nat.le_of_ble_eq_true rfl)
  rw [lg_entry_eq]
  generalize (lg_sl [.ref o, .ref (o + k1), .ref (o + k2)] ++ List.replicate (3 - (lg_sl [.ref o, .ref (o + k1), .ref (o + k2)]).length) Slot.unset).toArray = ls at hl ⊢
  have hl : lv_has ls 3 [(0, .ref o), (1, .ref (o + k1)), (2, .ref (o + k2))] := hl
  unfold wp_X0_soundOn at hw
  refine lv_aload_n hx hb dX0_soundOn_0 rfl (lv_at hl 1 rfl) ?_
  refine lv_dup hx hb dX0_soundOn_1 rfl ?_
  refine g_X0_194 hx hb hown hts hK hW (HB.2.2.2.2.2 _ h1) (putAt (k := k1) (isFi_lt h1)) dX0_soundOn_2 ?_
  refine lv_iconst (v := 1) hx hb dX0_soundOn_5 (by decide) ?_
  refine lv_iadd hx hb dX0_soundOn_6 ?_
  obtain ⟨X_1, eX_1⟩ : ∃ z : ES, z = va_up X k1 (upd (X k1) 7 (((X k1) 7) + 1)) := ⟨_, rfl⟩
  have hw := hw X_1 eX_1
  refine p_X0_194 (E1 := put 26 o X_1 E0) hx hb hown hts hK hA hW hS (HB.2.2.2.2.2 _ h1) (putAt (k := k1) (isFi_lt h1)) dX0_soundOn_7 (puE (k := k1) (isFi_lt h1) eX_1) (fun H locs hW hS => ?_)
  refine lv_aload_n hx hb dX0_soundOn_10 rfl (lv_at hl 1 rfl) ?_
  refine g_X0_194 hx hb hown hts hK hW (HB.2.2.2.2.2 _ h1) (putAt (k := k1) (isFi_lt h1)) dX0_soundOn_11 ?_
  refine lv_aload_n hx hb dX0_soundOn_14 rfl (lv_at hl 0 rfl) ?_
  refine lv_iconst (v := 0) hx hb dX0_soundOn_15 (by decide) ?_
  refine w_cvi (As := [.int 0]) (rest := [.int ((X_1 k1) 7)]) hx hb hml hown hts hK hW hS hl.1 (c_X0_settingAt hA HB (fun k hk => putAt hk)  hw) (k_X0_79 hts ⟨Nat.le_of_ble_eq_true rfl, Nat.le_of_ble_eq_true rfl⟩) (w_recv hK hW HB.1 (putAt (k := 0) (by decide)) rfl rfl) rfl rfl (Nat.le_of_ble_eq_true rfl) dX0_soundOn_16 ⟨Nat.zero_le _, Nat.zero_le _⟩ (fun r_2 Ez H locs hw2 hW hS => ?_)
  obtain ⟨ez, hw⟩ := hw2
  rw [ez] at hW
  refine lv_icmp_lt (tgt := 32) hx hb dX0_soundOn_19 (by decide) (fun c_3 => ?_) (fun c_3 => ?_)
  · have hw := hw.1 c_3
    exact w_vret hx hb hr hlocks hW hS ⟨X_1, rfl, hw⟩ dX0_soundOn_32
  · have hw := hw.2 c_3
    refine lv_aload_n hx hb dX0_soundOn_22 rfl (lv_at hl 1 rfl) ?_
    refine w_cvv (As := []) (rest := []) hx hb hml hown hts hK hW hS hl.1 (c_X1_becomeFree hA (HB.2.2.2.2.2 _ h1) (putAt (k := k1) (isFi_lt h1)) hw) (k_X0_132 hts ⟨Nat.le_of_ble_eq_true rfl, Nat.le_of_ble_eq_true rfl⟩) (w_recv hK hW (HB.2.2.2.2.2 _ h1) (putAt (k := k1) (isFi_lt h1)) rfl rfl) rfl rfl (Nat.le_of_ble_eq_true rfl) dX0_soundOn_23 ⟨Nat.zero_le _, Nat.zero_le _⟩ (fun Ez H locs hw2 hW hS => ?_)
    obtain ⟨Y_4, ez, hw⟩ := hw2
    rw [ez] at hW
    obtain ⟨X_5, eX_5⟩ : ∃ z : ES, z = va_up X_1 k1 Y_4 := ⟨_, rfl⟩
    have hw := hw X_5 eX_5
    have hW : Wd g lay (put 26 o X_5 E0) H := by rw [eX_5, ← putUp (k := k1) (isFi_lt h1)]; exact hW
    refine lv_aload_n hx hb dX0_soundOn_26 rfl (lv_at hl 2 rfl) ?_
    refine lv_bipush (v := 10) hx hb dX0_soundOn_27 (by decide) ?_
    refine w_cvv (As := [.int 10]) (rest := []) hx hb hml hown hts hK hW hS hl.1 (c_X2_leaveCall hA (HB.2.2.2.2.1 _ h2) (putAt (k := k2) (isLi_lt h2)) hw) (k_X0_125 hts ⟨Nat.le_of_ble_eq_true rfl, Nat.le_of_ble_eq_true rfl⟩) (w_recv hK hW (HB.2.2.2.2.1 _ h2) (putAt (k := k2) (isLi_lt h2)) rfl rfl) rfl rfl (Nat.le_of_ble_eq_true rfl) dX0_soundOn_29 ⟨Nat.zero_le _, Nat.zero_le _⟩ (fun Ez H locs hw2 hW hS => ?_)
    obtain ⟨Y_6, ez, hw⟩ := hw2
    rw [ez] at hW
    obtain ⟨X_7, eX_7⟩ : ∃ z : ES, z = va_up X_5 k2 Y_6 := ⟨_, rfl⟩
    have hw := hw X_7 eX_7
    have hW : Wd g lay (put 26 o X_7 E0) H := by rw [eX_7, ← putUp (k := k2) (isLi_lt h2)]; exact hW
    exact w_vret hx hb hr hlocks hW hS ⟨X_7, rfl, hw⟩ dX0_soundOn_32
set_option maxHeartbeats 4000000 in
set_option maxRecDepth 100000 in
theorem c_X0_takeStep {l : Launch} {g : GG} {lay : LY} {E0 : ES} {o : Nat} {X : ES} {k1 : Nat} {K : ES → Prop} (hA : okL g lay) (HB : XL g lay o) (hX : ∀ k, k < 26 → E0 (o + k) = X k) (h1 : isFi k1) (hw : wp_X0_takeStep X k1 K) : JMv l g lay yX0_takeStep wsX0_takeStep rmX0_takeStep [.ref o, .ref (o + k1)] E0 (fun E1 => ∃ X1 : ES, E1 = put 26 o X1 E0 ∧ K X1) := by
  refine Met.ofW (cc := cX0_takeStep) (maxL := 3) (ret := none) (by decide) rfl ?_
  intro p e s m args below meth c s₁ B hml hv
  obtain ⟨rfl, hK, hW⟩ := hv
  have hx := B.exec
  have hb := B.bytes
  have hr := B.returns
  have hts := gd_of (atoms_spec (ws := wsX0_takeStep) B.pre)
  have hown : s.vm.findClass RX0 = some m.cls := findClass_of_methodNamed B.named
  have hlocks := B.notSynchronized
  have hS : va_S (Ab g) s.heap s.heap [] := va_S.rf
  have hW : Wd g lay (put 26 o X E0) s.heap := by rw [putSelf hX]; exact hW
  have hl := lv_entry [.ref o, .ref (o + k1)] (n := 3) (Nat.le_of_ble_eq_true rfl)
  rw [lg_entry_eq]
  generalize (lg_sl [.ref o, .ref (o + k1)] ++ List.replicate (3 - (lg_sl [.ref o, .ref (o + k1)]).length) Slot.unset).toArray = ls at hl ⊢
  have hl : lv_has ls 3 [(0, .ref o), (1, .ref (o + k1))] := hl
  unfold wp_X0_takeStep at hw
  refine lv_aload_n hx hb dX0_takeStep_0 rfl (lv_at hl 0 rfl) ?_
  refine lv_aload_n hx hb dX0_takeStep_1 rfl (lv_at hl 1 rfl) ?_
  refine g_X0_151 hx hb hown hts hK hW (HB.2.2.2.2.2 _ h1) (putAt (k := k1) (isFi_lt h1)) dX0_takeStep_2 ?_
  refine w_cvr (As := [.int ((X k1) 2)]) (rest := []) hx hb hml hown hts hK hW hS hl.1 (c_X0_lineAt hA HB ((X k1) 2)) (k_X0_83 hts ⟨Nat.le_of_ble_eq_true rfl, Nat.le_of_ble_eq_true rfl⟩) (w_recv hK hW HB.1 (putAt (k := 0) (by decide)) rfl rfl) rfl rfl (Nat.le_of_ble_eq_true rfl) dX0_takeStep_5 ⟨Nat.zero_le _, Nat.zero_le _⟩ (fun q_1 Ez H locs hw2 hW hS => ?_)
  obtain ⟨ez, rfl⟩ := hw2
  rw [ez] at hW
  refine lv_astore_n (lv' := [(2, .ref (o + lix ((X k1) 2))), (0, .ref o), (1, .ref (o + k1))]) hx hb dX0_takeStep_8 rfl hl (by decide) rfl (fun ls hl => ?_)
  refine lv_aload_n hx hb dX0_takeStep_9 rfl (lv_at hl 2 rfl) ?_
  refine g_X0_154 hx hb hown hts hK hW (HB.2.2.2.2.2 _ h1) (putAt (k := k1) (isFi_lt h1)) dX0_takeStep_10 ?_
  by_cases c_2 : ((X k1) 0) = 1
  · have hw := hw.1 c_2
    refine lv_tableIn (tgt := 64) hx hb dX0_takeStep_13 (by rw [c_2]; decide) (by rw [c_2]; decide) (by rw [c_2] <;> rfl) (by decide) ?_
    refine lv_aload_n hx hb dX0_takeStep_64 rfl (lv_at hl 1 rfl) ?_
    refine lv_aload_n hx hb dX0_takeStep_65 rfl (lv_at hl 2 rfl) ?_
    refine lv_aload_n hx hb dX0_takeStep_66 rfl (lv_at hl 0 rfl) ?_
    refine w_cvv (As := [.ref (o + k1), .ref (o + lix ((X k1) 2))]) (rest := []) hx hb hml hown hts hK hW hS hl.1 (c_X0_seek hA HB (fun k hk => putAt hk) h1 (isLi_lix ((X k1) 2)) hw) (k_X0_155 hts ⟨Nat.le_of_ble_eq_true rfl, Nat.le_of_ble_eq_true rfl⟩) (w_recv hK hW HB.1 (putAt (k := 0) (by decide)) rfl rfl) rfl rfl (Nat.le_of_ble_eq_true rfl) dX0_takeStep_67 ⟨Nat.zero_le _, Nat.zero_le _⟩ (fun Ez H locs hw2 hW hS => ?_)
    obtain ⟨X_3, ez, hw⟩ := hw2
    rw [ez, putPut] at hW
    refine lv_goto (tgt := 148) hx hb dX0_takeStep_70 (by decide) ?_
    exact w_vret hx hb hr hlocks hW hS ⟨X_3, rfl, hw⟩ dX0_takeStep_148
  · have hw := hw.2 c_2
    by_cases c_4 : ((X k1) 0) = 2
    · have hw := hw.1 c_4
      refine lv_tableIn (tgt := 73) hx hb dX0_takeStep_13 (by rw [c_4]; decide) (by rw [c_4]; decide) (by rw [c_4] <;> rfl) (by decide) ?_
      refine lv_aload_n hx hb dX0_takeStep_73 rfl (lv_at hl 1 rfl) ?_
      refine lv_aload_n hx hb dX0_takeStep_74 rfl (lv_at hl 2 rfl) ?_
      refine lv_aload_n hx hb dX0_takeStep_75 rfl (lv_at hl 0 rfl) ?_
      refine lv_iconst (v := 3) hx hb dX0_takeStep_76 (by decide) ?_
      refine w_cvv (As := [.ref (o + k1), .ref (o + lix ((X k1) 2)), .int 3]) (rest := []) hx hb hml hown hts hK hW hS hl.1 (c_X0_awaitDigit hA HB (fun k hk => putAt hk) h1 (isLi_lix ((X k1) 2)) hw) (k_X0_159 hts ⟨Nat.le_of_ble_eq_true rfl, Nat.le_of_ble_eq_true rfl⟩) (w_recv hK hW HB.1 (putAt (k := 0) (by decide)) rfl rfl) rfl rfl (Nat.le_of_ble_eq_true rfl) dX0_takeStep_77 ⟨Nat.zero_le _, Nat.zero_le _⟩ (fun Ez H locs hw2 hW hS => ?_)
      obtain ⟨X_5, ez, hw⟩ := hw2
      rw [ez, putPut] at hW
      refine lv_goto (tgt := 148) hx hb dX0_takeStep_80 (by decide) ?_
      exact w_vret hx hb hr hlocks hW hS ⟨X_5, rfl, hw⟩ dX0_takeStep_148
    · have hw := hw.2 c_4
      by_cases c_6 : ((X k1) 0) = 3
      · have hw := hw.1 c_6
        refine lv_tableIn (tgt := 83) hx hb dX0_takeStep_13 (by rw [c_6]; decide) (by rw [c_6]; decide) (by rw [c_6] <;> rfl) (by decide) ?_
        refine lv_aload_n hx hb dX0_takeStep_83 rfl (lv_at hl 1 rfl) ?_
        refine lv_aload_n hx hb dX0_takeStep_84 rfl (lv_at hl 2 rfl) ?_
        refine lv_aload_n hx hb dX0_takeStep_85 rfl (lv_at hl 0 rfl) ?_
        refine w_cvv (As := [.ref (o + k1), .ref (o + lix ((X k1) 2))]) (rest := []) hx hb hml hown hts hK hW hS hl.1 (c_X0_rise hA HB (fun k hk => putAt hk) h1 (isLi_lix ((X k1) 2)) hw) (k_X0_163 hts ⟨Nat.le_of_ble_eq_true rfl, Nat.le_of_ble_eq_true rfl⟩) (w_recv hK hW HB.1 (putAt (k := 0) (by decide)) rfl rfl) rfl rfl (Nat.le_of_ble_eq_true rfl) dX0_takeStep_86 ⟨Nat.zero_le _, Nat.zero_le _⟩ (fun Ez H locs hw2 hW hS => ?_)
        obtain ⟨X_7, ez, hw⟩ := hw2
        rw [ez, putPut] at hW
        refine lv_goto (tgt := 148) hx hb dX0_takeStep_89 (by decide) ?_
        exact w_vret hx hb hr hlocks hW hS ⟨X_7, rfl, hw⟩ dX0_takeStep_148
      · have hw := hw.2 c_6
        by_cases c_8 : ((X k1) 0) = 4
        · have hw := hw.1 c_8
          refine lv_tableIn (tgt := 92) hx hb dX0_takeStep_13 (by rw [c_8]; decide) (by rw [c_8]; decide) (by rw [c_8] <;> rfl) (by decide) ?_
          refine lv_aload_n hx hb dX0_takeStep_92 rfl (lv_at hl 1 rfl) ?_
          refine lv_aload_n hx hb dX0_takeStep_93 rfl (lv_at hl 2 rfl) ?_
          refine lv_aload_n hx hb dX0_takeStep_94 rfl (lv_at hl 0 rfl) ?_
          refine w_cvv (As := [.ref (o + k1), .ref (o + lix ((X k1) 2))]) (rest := []) hx hb hml hown hts hK hW hS hl.1 (c_X0_hunt hA HB (fun k hk => putAt hk) h1 (isLi_lix ((X k1) 2)) hw) (k_X0_166 hts ⟨Nat.le_of_ble_eq_true rfl, Nat.le_of_ble_eq_true rfl⟩) (w_recv hK hW HB.1 (putAt (k := 0) (by decide)) rfl rfl) rfl rfl (Nat.le_of_ble_eq_true rfl) dX0_takeStep_95 ⟨Nat.zero_le _, Nat.zero_le _⟩ (fun Ez H locs hw2 hW hS => ?_)
          obtain ⟨X_9, ez, hw⟩ := hw2
          rw [ez, putPut] at hW
          refine lv_goto (tgt := 148) hx hb dX0_takeStep_98 (by decide) ?_
          exact w_vret hx hb hr hlocks hW hS ⟨X_9, rfl, hw⟩ dX0_takeStep_148
        · have hw := hw.2 c_8
          by_cases c_10 : ((X k1) 0) = 5
          · have hw := hw.1 c_10
            refine lv_tableIn (tgt := 101) hx hb dX0_takeStep_13 (by rw [c_10]; decide) (by rw [c_10]; decide) (by rw [c_10] <;> rfl) (by decide) ?_
            refine lv_aload_n hx hb dX0_takeStep_101 rfl (lv_at hl 1 rfl) ?_
            refine lv_aload_n hx hb dX0_takeStep_102 rfl (lv_at hl 2 rfl) ?_
            refine lv_aload_n hx hb dX0_takeStep_103 rfl (lv_at hl 0 rfl) ?_
            refine lv_bipush (v := 6) hx hb dX0_takeStep_104 (by decide) ?_
            refine w_cvv (As := [.ref (o + k1), .ref (o + lix ((X k1) 2)), .int 6]) (rest := []) hx hb hml hown hts hK hW hS hl.1 (c_X0_awaitDigit hA HB (fun k hk => putAt hk) h1 (isLi_lix ((X k1) 2)) hw) (k_X0_159 hts ⟨Nat.le_of_ble_eq_true rfl, Nat.le_of_ble_eq_true rfl⟩) (w_recv hK hW HB.1 (putAt (k := 0) (by decide)) rfl rfl) rfl rfl (Nat.le_of_ble_eq_true rfl) dX0_takeStep_106 ⟨Nat.zero_le _, Nat.zero_le _⟩ (fun Ez H locs hw2 hW hS => ?_)
            obtain ⟨X_11, ez, hw⟩ := hw2
            rw [ez, putPut] at hW
            refine lv_goto (tgt := 148) hx hb dX0_takeStep_109 (by decide) ?_
            exact w_vret hx hb hr hlocks hW hS ⟨X_11, rfl, hw⟩ dX0_takeStep_148
          · have hw := hw.2 c_10
            by_cases c_12 : ((X k1) 0) = 6
            · have hw := hw.1 c_12
              refine lv_tableIn (tgt := 112) hx hb dX0_takeStep_13 (by rw [c_12]; decide) (by rw [c_12]; decide) (by rw [c_12] <;> rfl) (by decide) ?_
              refine lv_aload_n hx hb dX0_takeStep_112 rfl (lv_at hl 1 rfl) ?_
              refine lv_aload_n hx hb dX0_takeStep_113 rfl (lv_at hl 2 rfl) ?_
              refine lv_aload_n hx hb dX0_takeStep_114 rfl (lv_at hl 0 rfl) ?_
              refine w_cvv (As := [.ref (o + k1), .ref (o + lix ((X k1) 2))]) (rest := []) hx hb hml hown hts hK hW hS hl.1 (c_X0_stepOn hA HB (fun k hk => putAt hk) h1 (isLi_lix ((X k1) 2)) hw) (k_X0_169 hts ⟨Nat.le_of_ble_eq_true rfl, Nat.le_of_ble_eq_true rfl⟩) (w_recv hK hW HB.1 (putAt (k := 0) (by decide)) rfl rfl) rfl rfl (Nat.le_of_ble_eq_true rfl) dX0_takeStep_115 ⟨Nat.zero_le _, Nat.zero_le _⟩ (fun Ez H locs hw2 hW hS => ?_)
              obtain ⟨X_13, ez, hw⟩ := hw2
              rw [ez, putPut] at hW
              refine lv_goto (tgt := 148) hx hb dX0_takeStep_118 (by decide) ?_
              exact w_vret hx hb hr hlocks hW hS ⟨X_13, rfl, hw⟩ dX0_takeStep_148
            · have hw := hw.2 c_12
              by_cases c_14 : ((X k1) 0) = 7
              · have hw := hw.1 c_14
                refine lv_tableIn (tgt := 121) hx hb dX0_takeStep_13 (by rw [c_14]; decide) (by rw [c_14]; decide) (by rw [c_14] <;> rfl) (by decide) ?_
                refine lv_aload_n hx hb dX0_takeStep_121 rfl (lv_at hl 1 rfl) ?_
                refine lv_aload_n hx hb dX0_takeStep_122 rfl (lv_at hl 2 rfl) ?_
                refine lv_aload_n hx hb dX0_takeStep_123 rfl (lv_at hl 0 rfl) ?_
                refine w_cvv (As := [.ref (o + k1), .ref (o + lix ((X k1) 2))]) (rest := []) hx hb hml hown hts hK hW hS hl.1 (c_X0_ringOn hA HB (fun k hk => putAt hk) h1 (isLi_lix ((X k1) 2)) hw) (k_X0_172 hts ⟨Nat.le_of_ble_eq_true rfl, Nat.le_of_ble_eq_true rfl⟩) (w_recv hK hW HB.1 (putAt (k := 0) (by decide)) rfl rfl) rfl rfl (Nat.le_of_ble_eq_true rfl) dX0_takeStep_124 ⟨Nat.zero_le _, Nat.zero_le _⟩ (fun Ez H locs hw2 hW hS => ?_)
                obtain ⟨X_15, ez, hw⟩ := hw2
                rw [ez, putPut] at hW
                refine lv_goto (tgt := 148) hx hb dX0_takeStep_127 (by decide) ?_
                exact w_vret hx hb hr hlocks hW hS ⟨X_15, rfl, hw⟩ dX0_takeStep_148
              · have hw := hw.2 c_14
                by_cases c_16 : ((X k1) 0) = 8
                · have hw := hw.1 c_16
                  refine lv_tableIn (tgt := 130) hx hb dX0_takeStep_13 (by rw [c_16]; decide) (by rw [c_16]; decide) (by rw [c_16] <;> rfl) (by decide) ?_
                  refine lv_aload_n hx hb dX0_takeStep_130 rfl (lv_at hl 1 rfl) ?_
                  refine lv_aload_n hx hb dX0_takeStep_131 rfl (lv_at hl 2 rfl) ?_
                  refine lv_aload_n hx hb dX0_takeStep_132 rfl (lv_at hl 0 rfl) ?_
                  refine w_cvv (As := [.ref (o + k1), .ref (o + lix ((X k1) 2))]) (rest := []) hx hb hml hown hts hK hW hS hl.1 (c_X0_talkOn hA HB (fun k hk => putAt hk) h1 (isLi_lix ((X k1) 2)) hw) (k_X0_175 hts ⟨Nat.le_of_ble_eq_true rfl, Nat.le_of_ble_eq_true rfl⟩) (w_recv hK hW HB.1 (putAt (k := 0) (by decide)) rfl rfl) rfl rfl (Nat.le_of_ble_eq_true rfl) dX0_takeStep_133 ⟨Nat.zero_le _, Nat.zero_le _⟩ (fun Ez H locs hw2 hW hS => ?_)
                  obtain ⟨X_17, ez, hw⟩ := hw2
                  rw [ez, putPut] at hW
                  refine lv_goto (tgt := 148) hx hb dX0_takeStep_136 (by decide) ?_
                  exact w_vret hx hb hr hlocks hW hS ⟨X_17, rfl, hw⟩ dX0_takeStep_148
                · have hw := hw.2 c_16
                  by_cases c_18 : ((X k1) 0) = 9
                  · have hw := hw.1 c_18
                    refine lv_tableIn (tgt := 139) hx hb dX0_takeStep_13 (by rw [c_18]; decide) (by rw [c_18]; decide) (by rw [c_18] <;> rfl) (by decide) ?_
                    refine lv_aload_n hx hb dX0_takeStep_139 rfl (lv_at hl 1 rfl) ?_
                    refine lv_aload_n hx hb dX0_takeStep_140 rfl (lv_at hl 2 rfl) ?_
                    refine lv_aload_n hx hb dX0_takeStep_141 rfl (lv_at hl 0 rfl) ?_
                    refine w_cvv (As := [.ref (o + k1), .ref (o + lix ((X k1) 2))]) (rest := []) hx hb hml hown hts hK hW hS hl.1 (c_X0_soundOn hA HB (fun k hk => putAt hk) h1 (isLi_lix ((X k1) 2)) hw) (k_X0_178 hts ⟨Nat.le_of_ble_eq_true rfl, Nat.le_of_ble_eq_true rfl⟩) (w_recv hK hW HB.1 (putAt (k := 0) (by decide)) rfl rfl) rfl rfl (Nat.le_of_ble_eq_true rfl) dX0_takeStep_142 ⟨Nat.zero_le _, Nat.zero_le _⟩ (fun Ez H locs hw2 hW hS => ?_)
                    obtain ⟨X_19, ez, hw⟩ := hw2
                    rw [ez, putPut] at hW
                    refine lv_goto (tgt := 148) hx hb dX0_takeStep_145 (by decide) ?_
                    exact w_vret hx hb hr hlocks hW hS ⟨X_19, rfl, hw⟩ dX0_takeStep_148
                  · have hw := hw.2 c_18
                    refine lv_tableOut (tgt := 148) hx hb dX0_takeStep_13 (by have zc_2 := lv_neT (a := 1) c_2 rfl; have zc_4 := lv_neT (a := 2) c_4 rfl; have zc_6 := lv_neT (a := 3) c_6 rfl; have zc_8 := lv_neT (a := 4) c_8 rfl; have zc_10 := lv_neT (a := 5) c_10 rfl; have zc_12 := lv_neT (a := 6) c_12 rfl; have zc_14 := lv_neT (a := 7) c_14 rfl; have zc_16 := lv_neT (a := 8) c_16 rfl; have zc_18 := lv_neT (a := 9) c_18 rfl; omega) (by decide) ?_
                    exact w_vret hx hb hr hlocks hW hS ⟨X, rfl, hw⟩ dX0_takeStep_148
set_option maxHeartbeats 4000000 in
set_option maxRecDepth 100000 in
theorem c_X0_nextFreeFinder {l : Launch} {g : GG} {lay : LY} {E0 : ES} {o : Nat} {X : ES} {K : Int32 → Prop} (hA : okL g lay) (HB : XL g lay o) (hX : ∀ k, k < 26 → E0 (o + k) = X k) (hw : wp_X0_nextFreeFinder X K) : JMi l g lay yX0_nextFreeFinder wsX0_nextFreeFinder rmX0_nextFreeFinder [.ref o] E0 (fun r E1 => E1 = E0 ∧ K r) := by
  refine Met.ofW (cc := cX0_nextFreeFinder) (maxL := 3) (ret := (some .int)) (by decide) rfl ?_
  intro p e s m args below meth c s₁ B hml hv
  obtain ⟨rfl, hK, hW⟩ := hv
  have hx := B.exec
  have hb := B.bytes
  have hr := B.returns
  have hts := gd_of (atoms_spec (ws := wsX0_nextFreeFinder) B.pre)
  have hown : s.vm.findClass RX0 = some m.cls := findClass_of_methodNamed B.named
  have hlocks := B.notSynchronized
  have hS : va_S (Ab g) s.heap s.heap [] := va_S.rf
  have hl := lv_entry [.ref o] (n := 3) (Nat.le_of_ble_eq_true rfl)
  rw [lg_entry_eq]
  generalize (lg_sl [.ref o] ++ List.replicate (3 - (lg_sl [.ref o]).length) Slot.unset).toArray = ls at hl ⊢
  have hl : lv_has ls 3 [(0, .ref o)] := hl
  unfold wp_X0_nextFreeFinder at hw
  refine lv_iconst (v := 1) hx hb dX0_nextFreeFinder_0 (by decide) ?_
  refine lv_istore_n (lv' := [(1, .int 1), (0, .ref o)]) hx hb dX0_nextFreeFinder_1 rfl hl (by decide) rfl (fun ls hl => ?_)
  obtain ⟨n_23, hw⟩ := hw
  refine w_loop (KT := Int32 → Prop) (σ := Int32) (Wl := fun Kx_2 n_2 q => wpl_X0_nextFreeFinder_2 X K Kx_2 n_2 q) (Pw := fun q => Wd g lay (E0)) (lvf := fun q => [(0, .ref o), (1, .int q)]) (nL := 3) n_23 (1) hw hW hS (lv_sub hl [1, 0] rfl) (fun _ h => h) (fun Kx_2 eK_2 n_2 q H locs ls hw hW hS hl ih_2 => ?_)
  obtain ⟨i_1, rfl⟩ : ∃ z, z = q := ⟨_, rfl⟩
  try dsimp only at hw
  rw [wpl_X0_nextFreeFinder_2] at hw
  have hl : lv_has ls 3 [(0, .ref o), (1, .int i_1)] := hl
  have hW : Wd g lay (E0) H := hW
  refine lv_iload_n hx hb dX0_nextFreeFinder_2 rfl (lv_at hl 1 rfl) ?_
  refine lv_aload_n hx hb dX0_nextFreeFinder_3 rfl (lv_at hl 0 rfl) ?_
  refine g_X0_45 hx hb hown hts hK hW HB.1 (hX 0 (by decide)) dX0_nextFreeFinder_4 ?_
  refine lv_icmp_gt (tgt := 51) hx hb dX0_nextFreeFinder_7 (by decide) (fun c_13 => ?_) (fun c_13 => ?_)
  · have hw := hw.1 c_13
    rw [eK_2] at hw
    refine lv_bipush (v := (-6)) hx hb dX0_nextFreeFinder_51 (by decide) ?_
    exact w_iret hx hb hr hlocks hW hS ⟨rfl, hw⟩ dX0_nextFreeFinder_53
  · have hw := hw.2 c_13
    refine lv_aload_n hx hb dX0_nextFreeFinder_10 rfl (lv_at hl 0 rfl) ?_
    refine g_X0_55 hx hb hown hts hK hW HB.1 (hX 0 (by decide)) dX0_nextFreeFinder_11 ?_
    refine lv_iload_n hx hb dX0_nextFreeFinder_14 rfl (lv_at hl 1 rfl) ?_
    refine lv_iadd hx hb dX0_nextFreeFinder_15 ?_
    refine lv_topi (fun v_14 ev_14 => ?_)
    have hw := hw v_14 ev_14
    refine lv_istore_n (lv' := [(2, .int v_14), (0, .ref o), (1, .int i_1)]) hx hb dX0_nextFreeFinder_16 rfl hl (by decide) rfl (fun ls hl => ?_)
    refine lv_iload_n hx hb dX0_nextFreeFinder_17 rfl (lv_at hl 0 rfl) ?_
    refine lv_aload_n hx hb dX0_nextFreeFinder_18 rfl (lv_at hl 1 rfl) ?_
    refine g_X0_45 hx hb hown hts hK hW HB.1 (hX 0 (by decide)) dX0_nextFreeFinder_19 ?_
    refine lv_icmp_lt (tgt := 32) hx hb dX0_nextFreeFinder_22 (by decide) (fun c_15 => ?_) (fun c_15 => ?_)
    · have hw := hw.1 c_15
      refine lv_aload_n hx hb dX0_nextFreeFinder_32 rfl (lv_at hl 1 rfl) ?_
      refine lv_iload_n hx hb dX0_nextFreeFinder_33 rfl (lv_at hl 0 rfl) ?_
      refine w_cvr (As := [.int v_14]) (rest := []) hx hb hml hown hts hK hW hS hl.1 (c_X0_finderAt hA HB v_14) (k_X0_90 hts ⟨Nat.le_of_ble_eq_true rfl, Nat.le_of_ble_eq_true rfl⟩) (w_recv hK hW HB.1 (hX 0 (by decide)) rfl rfl) rfl rfl (Nat.le_of_ble_eq_true rfl) dX0_nextFreeFinder_34 ⟨Nat.zero_le _, Nat.zero_le _⟩ (fun q_16 Ez H locs hw2 hW hS => ?_)
      obtain ⟨ez, rfl⟩ := hw2
      rw [ez] at hW
      refine g_X0_154 hx hb hown hts hK hW (HB.2.2.2.2.2 _ (isFi_fix v_14)) (hX (fix v_14) (isFi_lt (isFi_fix v_14))) dX0_nextFreeFinder_37 ?_
      refine lv_if_ne (tgt := 45) hx hb dX0_nextFreeFinder_40 (by decide) (fun c_17 => ?_) (fun c_17 => ?_)
      · have hw := hw.2 c_17
        obtain ⟨v_18, ev_18⟩ : ∃ z : Int32, z = i_1 + 1 := ⟨_, rfl⟩
        have hw := hw v_18 ev_18
        refine lv_iinc (v := v_18) (lv' := [(1, .int v_18), (2, .int v_14), (0, .ref o)]) hx hb dX0_nextFreeFinder_45 hl (k := 2) rfl (by rw [ev_18]; rfl) (by decide) rfl (fun ls hl => ?_)
        refine lv_goto (tgt := 2) hx hb dX0_nextFreeFinder_48 (by decide) ?_
        exact ih_2 (v_18) _ _ _ hw hW hS (lv_sub hl [2, 0] rfl)
      · have hw := hw.1 c_17
        refine lv_iload_n hx hb dX0_nextFreeFinder_43 rfl (lv_at hl 0 rfl) ?_
        exact w_iret hx hb hr hlocks hW hS ⟨rfl, hw⟩ dX0_nextFreeFinder_44
    · have hw := hw.2 c_15
      refine lv_iload_n hx hb dX0_nextFreeFinder_25 rfl (lv_at hl 0 rfl) ?_
      refine lv_aload_n hx hb dX0_nextFreeFinder_26 rfl (lv_at hl 1 rfl) ?_
      refine g_X0_45 hx hb hown hts hK hW HB.1 (hX 0 (by decide)) dX0_nextFreeFinder_27 ?_
      refine lv_isub hx hb dX0_nextFreeFinder_30 ?_
      refine lv_topi (fun v_19 ev_19 => ?_)
      have hw := hw v_19 ev_19
      refine lv_istore_n (lv' := [(2, .int v_19), (0, .ref o), (1, .int i_1)]) hx hb dX0_nextFreeFinder_31 rfl hl (by decide) rfl (fun ls hl => ?_)
      refine lv_aload_n hx hb dX0_nextFreeFinder_32 rfl (lv_at hl 1 rfl) ?_
      refine lv_iload_n hx hb dX0_nextFreeFinder_33 rfl (lv_at hl 0 rfl) ?_
      refine w_cvr (As := [.int v_19]) (rest := []) hx hb hml hown hts hK hW hS hl.1 (c_X0_finderAt hA HB v_19) (k_X0_90 hts ⟨Nat.le_of_ble_eq_true rfl, Nat.le_of_ble_eq_true rfl⟩) (w_recv hK hW HB.1 (hX 0 (by decide)) rfl rfl) rfl rfl (Nat.le_of_ble_eq_true rfl) dX0_nextFreeFinder_34 ⟨Nat.zero_le _, Nat.zero_le _⟩ (fun q_20 Ez H locs hw2 hW hS => ?_)
      obtain ⟨ez, rfl⟩ := hw2
      rw [ez] at hW
      refine g_X0_154 hx hb hown hts hK hW (HB.2.2.2.2.2 _ (isFi_fix v_19)) (hX (fix v_19) (isFi_lt (isFi_fix v_19))) dX0_nextFreeFinder_37 ?_
      refine lv_if_ne (tgt := 45) hx hb dX0_nextFreeFinder_40 (by decide) (fun c_21 => ?_) (fun c_21 => ?_)
      · have hw := hw.2 c_21
        obtain ⟨v_22, ev_22⟩ : ∃ z : Int32, z = i_1 + 1 := ⟨_, rfl⟩
        have hw := hw v_22 ev_22
        refine lv_iinc (v := v_22) (lv' := [(1, .int v_22), (2, .int v_19), (0, .ref o)]) hx hb dX0_nextFreeFinder_45 hl (k := 2) rfl (by rw [ev_22]; rfl) (by decide) rfl (fun ls hl => ?_)
        refine lv_goto (tgt := 2) hx hb dX0_nextFreeFinder_48 (by decide) ?_
        exact ih_2 (v_22) _ _ _ hw hW hS (lv_sub hl [2, 0] rfl)
      · have hw := hw.1 c_21
        refine lv_iload_n hx hb dX0_nextFreeFinder_43 rfl (lv_at hl 0 rfl) ?_
        exact w_iret hx hb hr hlocks hW hS ⟨rfl, hw⟩ dX0_nextFreeFinder_44
set_option maxHeartbeats 4000000 in
set_option maxRecDepth 100000 in
theorem c_X0_firstWaitingLine {l : Launch} {g : GG} {lay : LY} {E0 : ES} {o : Nat} {X : ES} {K : Int32 → Prop} (hA : okL g lay) (HB : XL g lay o) (hX : ∀ k, k < 26 → E0 (o + k) = X k) (hw : wp_X0_firstWaitingLine X K) : JMi l g lay yX0_firstWaitingLine wsX0_firstWaitingLine rmX0_firstWaitingLine [.ref o] E0 (fun r E1 => E1 = E0 ∧ K r) := by
  refine Met.ofW (cc := cX0_firstWaitingLine) (maxL := 4) (ret := (some .int)) (by decide) rfl ?_
  intro p e s m args below meth c s₁ B hml hv
  obtain ⟨rfl, hK, hW⟩ := hv
  have hx := B.exec
  have hb := B.bytes
  have hr := B.returns
  have hts := gd_of (atoms_spec (ws := wsX0_firstWaitingLine) B.pre)
  have hown : s.vm.findClass RX0 = some m.cls := findClass_of_methodNamed B.named
  have hlocks := B.notSynchronized
  have hS : va_S (Ab g) s.heap s.heap [] := va_S.rf
  have hl := lv_entry [.ref o] (n := 4) (Nat.le_of_ble_eq_true rfl)
  rw [lg_entry_eq]
  generalize (lg_sl [.ref o] ++ List.replicate (4 - (lg_sl [.ref o]).length) Slot.unset).toArray = ls at hl ⊢
  have hl : lv_has ls 4 [(0, .ref o)] := hl
  unfold wp_X0_firstWaitingLine at hw
  refine lv_bipush (v := (-6)) hx hb dX0_firstWaitingLine_0 (by decide) ?_
  refine lv_istore_n (lv' := [(1, .int ((-6))), (0, .ref o)]) hx hb dX0_firstWaitingLine_2 rfl hl (by decide) rfl (fun ls hl => ?_)
  refine lv_iconst (v := 0) hx hb dX0_firstWaitingLine_3 (by decide) ?_
  refine lv_istore_n (lv' := [(2, .int 0), (1, .int ((-6))), (0, .ref o)]) hx hb dX0_firstWaitingLine_4 rfl hl (by decide) rfl (fun ls hl => ?_)
  obtain ⟨n_29, hw⟩ := hw
  refine w_loop (KT := Int32 → Int32 → Prop) (σ := Int32 × Int32) (Wl := fun Kx_5 n_5 q => wpl_X0_firstWaitingLine_5 X K Kx_5 n_5 q.1 q.2) (Pw := fun q => Wd g lay (E0)) (lvf := fun q => [(0, .ref o), (1, .int q.1), (2, .int q.2)]) (nL := 4) n_29 ((-6), 0) hw hW hS (lv_sub hl [2, 1, 0] rfl) (fun _ h => h) (fun Kx_5 eK_5 n_5 q H locs ls hw hW hS hl ih_5 => ?_)
  obtain ⟨i_1, i_2⟩ := q
  try dsimp only at hw
  rw [wpl_X0_firstWaitingLine_5] at hw
  have hl : lv_has ls 4 [(0, .ref o), (1, .int i_1), (2, .int i_2)] := hl
  have hW : Wd g lay (E0) H := hW
  refine lv_iload_n hx hb dX0_firstWaitingLine_5 rfl (lv_at hl 2 rfl) ?_
  refine lv_bipush (v := 16) hx hb dX0_firstWaitingLine_6 (by decide) ?_
  refine lv_icmp_ge (tgt := 53) hx hb dX0_firstWaitingLine_8 (by decide) (fun c_17 => ?_) (fun c_17 => ?_)
  · have hw := hw.1 c_17
    rw [eK_5] at hw
    refine lv_iload_n hx hb dX0_firstWaitingLine_53 rfl (lv_at hl 1 rfl) ?_
    exact w_iret hx hb hr hlocks hW hS ⟨rfl, hw⟩ dX0_firstWaitingLine_54
  · have hw := hw.2 c_17
    refine lv_aload_n hx hb dX0_firstWaitingLine_11 rfl (lv_at hl 0 rfl) ?_
    refine lv_iload_n hx hb dX0_firstWaitingLine_12 rfl (lv_at hl 2 rfl) ?_
    refine w_cvr (As := [.int i_2]) (rest := []) hx hb hml hown hts hK hW hS hl.1 (c_X0_lineAt hA HB i_2) (k_X0_83 hts ⟨Nat.le_of_ble_eq_true rfl, Nat.le_of_ble_eq_true rfl⟩) (w_recv hK hW HB.1 (hX 0 (by decide)) rfl rfl) rfl rfl (Nat.le_of_ble_eq_true rfl) dX0_firstWaitingLine_13 ⟨Nat.zero_le _, Nat.zero_le _⟩ (fun q_18 Ez H locs hw2 hW hS => ?_)
    obtain ⟨ez, rfl⟩ := hw2
    rw [ez] at hW
    refine lv_astore_n (lv' := [(3, .ref (o + lix i_2)), (0, .ref o), (1, .int i_1), (2, .int i_2)]) hx hb dX0_firstWaitingLine_16 rfl hl (by decide) rfl (fun ls hl => ?_)
    refine lv_aload_n hx hb dX0_firstWaitingLine_17 rfl (lv_at hl 0 rfl) ?_
    refine w_cvi (As := []) (rest := []) hx hb hml hown hts hK hW hS hl.1 (c_X2_waitsUnsought hA (HB.2.2.2.2.1 _ (isLi_lix i_2)) (hX (lix i_2) (isLi_lt (isLi_lix i_2))) hw) (k_X0_229 hts ⟨Nat.le_of_ble_eq_true rfl, Nat.le_of_ble_eq_true rfl⟩) (w_recv hK hW (HB.2.2.2.2.1 _ (isLi_lix i_2)) (hX (lix i_2) (isLi_lt (isLi_lix i_2))) rfl rfl) rfl rfl (Nat.le_of_ble_eq_true rfl) dX0_firstWaitingLine_18 ⟨Nat.zero_le _, Nat.zero_le _⟩ (fun r_19 Ez H locs hw2 hW hS => ?_)
    obtain ⟨ez, z_20, hw⟩ := hw2
    rw [ez] at hW
    refine lv_if_eq (tgt := 47) hx hb dX0_firstWaitingLine_21 (by decide) (fun c_21 => ?_) (fun c_21 => ?_)
    · have hw := hw.1 c_21
      obtain ⟨v_22, ev_22⟩ : ∃ z : Int32, z = i_2 + 1 := ⟨_, rfl⟩
      have hw := hw v_22 ev_22
      refine lv_iinc (v := v_22) (lv' := [(2, .int v_22), (3, .ref (o + lix i_2)), (0, .ref o), (1, .int i_1)]) hx hb dX0_firstWaitingLine_47 hl (k := 3) rfl (by rw [ev_22]; rfl) (by decide) rfl (fun ls hl => ?_)
      refine lv_goto (tgt := 5) hx hb dX0_firstWaitingLine_50 (by decide) ?_
      exact ih_5 (i_1, v_22) _ _ _ hw hW hS (lv_sub hl [2, 3, 0] rfl)
    · have hw := hw.2 c_21
      refine lv_iload_n hx hb dX0_firstWaitingLine_24 rfl (lv_at hl 2 rfl) ?_
      refine lv_bipush (v := (-6)) hx hb dX0_firstWaitingLine_25 (by decide) ?_
      refine lv_icmp_eq (tgt := 45) hx hb dX0_firstWaitingLine_27 (by decide) (fun c_23 => ?_) (fun c_23 => ?_)
      · have hw := hw.1 c_23
        refine lv_iload_n hx hb dX0_firstWaitingLine_45 rfl (lv_at hl 3 rfl) ?_
        refine lv_istore_n (lv' := [(1, .int i_2), (3, .ref (o + lix i_2)), (0, .ref o), (2, .int i_2)]) hx hb dX0_firstWaitingLine_46 rfl hl (by decide) rfl (fun ls hl => ?_)
        obtain ⟨v_24, ev_24⟩ : ∃ z : Int32, z = i_2 + 1 := ⟨_, rfl⟩
        have hw := hw v_24 ev_24
        refine lv_iinc (v := v_24) (lv' := [(2, .int v_24), (1, .int i_2), (3, .ref (o + lix i_2)), (0, .ref o)]) hx hb dX0_firstWaitingLine_47 hl (k := 3) rfl (by rw [ev_24]; rfl) (by decide) rfl (fun ls hl => ?_)
        refine lv_goto (tgt := 5) hx hb dX0_firstWaitingLine_50 (by decide) ?_
        exact ih_5 (i_2, v_24) _ _ _ hw hW hS (lv_sub hl [3, 1, 0] rfl)
      · have hw := hw.2 c_23
        refine lv_aload_n hx hb dX0_firstWaitingLine_30 rfl (lv_at hl 0 rfl) ?_
        refine g_X0_112 hx hb hown hts hK hW (HB.2.2.2.2.1 _ (isLi_lix i_2)) (hX (lix i_2) (isLi_lt (isLi_lix i_2))) dX0_firstWaitingLine_31 ?_
        refine lv_aload_n hx hb dX0_firstWaitingLine_34 rfl (lv_at hl 1 rfl) ?_
        refine lv_iload_n hx hb dX0_firstWaitingLine_35 rfl (lv_at hl 2 rfl) ?_
        refine w_cvr (As := [.int i_1]) (rest := [.int ((X (lix i_2)) 7)]) hx hb hml hown hts hK hW hS hl.1 (c_X0_lineAt hA HB i_1) (k_X0_83 hts ⟨Nat.le_of_ble_eq_true rfl, Nat.le_of_ble_eq_true rfl⟩) (w_recv hK hW HB.1 (hX 0 (by decide)) rfl rfl) rfl rfl (Nat.le_of_ble_eq_true rfl) dX0_firstWaitingLine_36 ⟨Nat.zero_le _, Nat.zero_le _⟩ (fun q_25 Ez H locs hw2 hW hS => ?_)
        obtain ⟨ez, rfl⟩ := hw2
        rw [ez] at hW
        refine g_X0_112 hx hb hown hts hK hW (HB.2.2.2.2.1 _ (isLi_lix i_1)) (hX (lix i_1) (isLi_lt (isLi_lix i_1))) dX0_firstWaitingLine_39 ?_
        refine lv_icmp_ge (tgt := 47) hx hb dX0_firstWaitingLine_42 (by decide) (fun c_26 => ?_) (fun c_26 => ?_)
        · have hw := hw.1 c_26
          obtain ⟨v_27, ev_27⟩ : ∃ z : Int32, z = i_2 + 1 := ⟨_, rfl⟩
          have hw := hw v_27 ev_27
          refine lv_iinc (v := v_27) (lv' := [(2, .int v_27), (3, .ref (o + lix i_2)), (0, .ref o), (1, .int i_1)]) hx hb dX0_firstWaitingLine_47 hl (k := 3) rfl (by rw [ev_27]; rfl) (by decide) rfl (fun ls hl => ?_)
          refine lv_goto (tgt := 5) hx hb dX0_firstWaitingLine_50 (by decide) ?_
          exact ih_5 (i_1, v_27) _ _ _ hw hW hS (lv_sub hl [2, 3, 0] rfl)
        · have hw := hw.2 c_26
          refine lv_iload_n hx hb dX0_firstWaitingLine_45 rfl (lv_at hl 3 rfl) ?_
          refine lv_istore_n (lv' := [(1, .int i_2), (3, .ref (o + lix i_2)), (0, .ref o), (2, .int i_2)]) hx hb dX0_firstWaitingLine_46 rfl hl (by decide) rfl (fun ls hl => ?_)
          obtain ⟨v_28, ev_28⟩ : ∃ z : Int32, z = i_2 + 1 := ⟨_, rfl⟩
          have hw := hw v_28 ev_28
          refine lv_iinc (v := v_28) (lv' := [(2, .int v_28), (1, .int i_2), (3, .ref (o + lix i_2)), (0, .ref o)]) hx hb dX0_firstWaitingLine_47 hl (k := 3) rfl (by rw [ev_28]; rfl) (by decide) rfl (fun ls hl => ?_)
          refine lv_goto (tgt := 5) hx hb dX0_firstWaitingLine_50 (by decide) ?_
          exact ih_5 (i_2, v_28) _ _ _ hw hW hS (lv_sub hl [3, 1, 0] rfl)
set_option maxHeartbeats 4000000 in
set_option maxRecDepth 100000 in
theorem c_X0_allotFinder {l : Launch} {g : GG} {lay : LY} {E0 : ES} {o : Nat} {X : ES} {K : ES → Prop} (hA : okL g lay) (HB : XL g lay o) (hX : ∀ k, k < 26 → E0 (o + k) = X k) (hw : wp_X0_allotFinder X K) : JMv l g lay yX0_allotFinder wsX0_allotFinder rmX0_allotFinder [.ref o] E0 (fun E1 => ∃ X1 : ES, E1 = put 26 o X1 E0 ∧ K X1) := by
  refine Met.ofW (cc := cX0_allotFinder) (maxL := 4) (ret := none) (by decide) rfl ?_
  intro p e s m args below meth c s₁ B hml hv
  obtain ⟨rfl, hK, hW⟩ := hv
  have hx := B.exec
  have hb := B.bytes
  have hr := B.returns
  have hts := gd_of (atoms_spec (ws := wsX0_allotFinder) B.pre)
  have hown : s.vm.findClass RX0 = some m.cls := findClass_of_methodNamed B.named
  have hlocks := B.notSynchronized
  have hS : va_S (Ab g) s.heap s.heap [] := va_S.rf
  have hW : Wd g lay (put 26 o X E0) s.heap := by rw [putSelf hX]; exact hW
  have hl := lv_entry [.ref o] (n := 4) (Nat.le_of_ble_eq_true rfl)
  rw [lg_entry_eq]
  generalize (lg_sl [.ref o] ++ List.replicate (4 - (lg_sl [.ref o]).length) Slot.unset).toArray = ls at hl ⊢
  have hl : lv_has ls 4 [(0, .ref o)] := hl
  unfold wp_X0_allotFinder at hw
  refine lv_aload_n hx hb dX0_allotFinder_0 rfl (lv_at hl 0 rfl) ?_
  refine w_cvi (As := []) (rest := []) hx hb hml hown hts hK hW hS hl.1 (c_X0_nextFreeFinder hA HB (fun k hk => putAt hk)  hw) (k_X0_220 hts ⟨Nat.le_of_ble_eq_true rfl, Nat.le_of_ble_eq_true rfl⟩) (w_recv hK hW HB.1 (putAt (k := 0) (by decide)) rfl rfl) rfl rfl (Nat.le_of_ble_eq_true rfl) dX0_allotFinder_1 ⟨Nat.zero_le _, Nat.zero_le _⟩ (fun r_1 Ez H locs hw2 hW hS => ?_)
  obtain ⟨ez, hw⟩ := hw2
  rw [ez] at hW
  refine lv_istore_n (lv' := [(1, .int r_1), (0, .ref o)]) hx hb dX0_allotFinder_4 rfl hl (by decide) rfl (fun ls hl => ?_)
  refine lv_iload_n hx hb dX0_allotFinder_5 rfl (lv_at hl 0 rfl) ?_
  refine lv_bipush (v := (-6)) hx hb dX0_allotFinder_6 (by decide) ?_
  refine lv_icmp_ne (tgt := 12) hx hb dX0_allotFinder_8 (by decide) (fun c_2 => ?_) (fun c_2 => ?_)
  · have hw := hw.2 c_2
    refine lv_aload_n hx hb dX0_allotFinder_12 rfl (lv_at hl 1 rfl) ?_
    refine w_cvi (As := []) (rest := []) hx hb hml hown hts hK hW hS hl.1 (c_X0_firstWaitingLine hA HB (fun k hk => putAt hk)  hw) (k_X0_223 hts ⟨Nat.le_of_ble_eq_true rfl, Nat.le_of_ble_eq_true rfl⟩) (w_recv hK hW HB.1 (putAt (k := 0) (by decide)) rfl rfl) rfl rfl (Nat.le_of_ble_eq_true rfl) dX0_allotFinder_13 ⟨Nat.zero_le _, Nat.zero_le _⟩ (fun r_3 Ez H locs hw2 hW hS => ?_)
    obtain ⟨ez, hw⟩ := hw2
    rw [ez] at hW
    refine lv_istore_n (lv' := [(2, .int r_3), (1, .int r_1), (0, .ref o)]) hx hb dX0_allotFinder_16 rfl hl (by decide) rfl (fun ls hl => ?_)
    refine lv_iload_n hx hb dX0_allotFinder_17 rfl (lv_at hl 0 rfl) ?_
    refine lv_bipush (v := (-6)) hx hb dX0_allotFinder_18 (by decide) ?_
    refine lv_icmp_ne (tgt := 24) hx hb dX0_allotFinder_20 (by decide) (fun c_4 => ?_) (fun c_4 => ?_)
    · have hw := hw.2 c_4
      refine lv_aload_n hx hb dX0_allotFinder_24 rfl (lv_at hl 2 rfl) ?_
      refine lv_iload_n hx hb dX0_allotFinder_25 rfl (lv_at hl 1 rfl) ?_
      refine w_cvr (As := [.int r_1]) (rest := []) hx hb hml hown hts hK hW hS hl.1 (c_X0_finderAt hA HB r_1) (k_X0_90 hts ⟨Nat.le_of_ble_eq_true rfl, Nat.le_of_ble_eq_true rfl⟩) (w_recv hK hW HB.1 (putAt (k := 0) (by decide)) rfl rfl) rfl rfl (Nat.le_of_ble_eq_true rfl) dX0_allotFinder_26 ⟨Nat.zero_le _, Nat.zero_le _⟩ (fun q_5 Ez H locs hw2 hW hS => ?_)
      obtain ⟨ez, rfl⟩ := hw2
      rw [ez] at hW
      refine lv_astore_n (lv' := [(3, .ref (o + fix r_1)), (2, .int r_3), (1, .int r_1), (0, .ref o)]) hx hb dX0_allotFinder_29 rfl hl (by decide) rfl (fun ls hl => ?_)
      refine lv_aload_n hx hb dX0_allotFinder_30 rfl (lv_at hl 0 rfl) ?_
      refine lv_iconst (v := 1) hx hb dX0_allotFinder_31 (by decide) ?_
      refine w_cvv (As := [.int 1]) (rest := []) hx hb hml hown hts hK hW hS hl.1 (c_X1_become hA (HB.2.2.2.2.2 _ (isFi_fix r_1)) (putAt (k := fix r_1) (isFi_lt (isFi_fix r_1))) hw) (k_X0_184 hts ⟨Nat.le_of_ble_eq_true rfl, Nat.le_of_ble_eq_true rfl⟩) (w_recv hK hW (HB.2.2.2.2.2 _ (isFi_fix r_1)) (putAt (k := fix r_1) (isFi_lt (isFi_fix r_1))) rfl rfl) rfl rfl (Nat.le_of_ble_eq_true rfl) dX0_allotFinder_32 ⟨Nat.zero_le _, Nat.zero_le _⟩ (fun Ez H locs hw2 hW hS => ?_)
      obtain ⟨Y_6, ez, hw⟩ := hw2
      rw [ez] at hW
      obtain ⟨X_7, eX_7⟩ : ∃ z : ES, z = va_up X (fix r_1) Y_6 := ⟨_, rfl⟩
      have hw := hw X_7 eX_7
      have hW : Wd g lay (put 26 o X_7 E0) H := by rw [eX_7, ← putUp (k := fix r_1) (isFi_lt (isFi_fix r_1))]; exact hW
      refine lv_aload_n hx hb dX0_allotFinder_35 rfl (lv_at hl 0 rfl) ?_
      refine lv_iload_n hx hb dX0_allotFinder_36 rfl (lv_at hl 1 rfl) ?_
      obtain ⟨X_8, eX_8⟩ : ∃ z : ES, z = va_up X_7 (fix r_1) (upd (X_7 (fix r_1)) 2 r_3) := ⟨_, rfl⟩
      have hw := hw X_8 eX_8
      refine p_X0_151 (E1 := put 26 o X_8 E0) hx hb hown hts hK hA hW hS (HB.2.2.2.2.2 _ (isFi_fix r_1)) (putAt (k := fix r_1) (isFi_lt (isFi_fix r_1))) dX0_allotFinder_37 (puE (k := fix r_1) (isFi_lt (isFi_fix r_1)) eX_8) (fun H locs hW hS => ?_)
      refine lv_aload_n hx hb dX0_allotFinder_40 rfl (lv_at hl 3 rfl) ?_
      refine lv_iload_n hx hb dX0_allotFinder_41 rfl (lv_at hl 1 rfl) ?_
      refine w_cvr (As := [.int r_3]) (rest := []) hx hb hml hown hts hK hW hS hl.1 (c_X0_lineAt hA HB r_3) (k_X0_83 hts ⟨Nat.le_of_ble_eq_true rfl, Nat.le_of_ble_eq_true rfl⟩) (w_recv hK hW HB.1 (putAt (k := 0) (by decide)) rfl rfl) rfl rfl (Nat.le_of_ble_eq_true rfl) dX0_allotFinder_42 ⟨Nat.zero_le _, Nat.zero_le _⟩ (fun q_9 Ez H locs hw2 hW hS => ?_)
      obtain ⟨ez, rfl⟩ := hw2
      rw [ez] at hW
      refine lv_iload_n hx hb dX0_allotFinder_45 rfl (lv_at hl 2 rfl) ?_
      obtain ⟨X_10, eX_10⟩ : ∃ z : ES, z = va_up X_8 (lix r_3) (upd (X_8 (lix r_3)) 6 r_1) := ⟨_, rfl⟩
      have hw := hw X_10 eX_10
      refine p_X0_119 (E1 := put 26 o X_10 E0) hx hb hown hts hK hA hW hS (HB.2.2.2.2.1 _ (isLi_lix r_3)) (putAt (k := lix r_3) (isLi_lt (isLi_lix r_3))) dX0_allotFinder_46 (puE (k := lix r_3) (isLi_lt (isLi_lix r_3)) eX_10) (fun H locs hW hS => ?_)
      refine lv_aload_n hx hb dX0_allotFinder_49 rfl (lv_at hl 3 rfl) ?_
      refine lv_iload_n hx hb dX0_allotFinder_50 rfl (lv_at hl 2 rfl) ?_
      obtain ⟨X_11, eX_11⟩ : ∃ z : ES, z = va_up X_10 0 (upd (X_10 0) 8 r_1) := ⟨_, rfl⟩
      have hw := hw X_11 eX_11
      refine p_X0_55 (E1 := put 26 o X_11 E0) hx hb hown hts hK hA hW hS HB.1 (putAt (k := 0) (by decide)) dX0_allotFinder_51 (puE (k := 0) (by decide) eX_11) (fun H locs hW hS => ?_)
      exact w_vret hx hb hr hlocks hW hS ⟨X_11, rfl, hw⟩ dX0_allotFinder_54
    · have hw := hw.1 c_4
      exact w_vret hx hb hr hlocks hW hS ⟨X, rfl, hw⟩ dX0_allotFinder_23
  · have hw := hw.1 c_2
    exact w_vret hx hb hr hlocks hW hS ⟨X, rfl, hw⟩ dX0_allotFinder_11
set_option maxHeartbeats 4000000 in
set_option maxRecDepth 100000 in
theorem c_X0_countParked {l : Launch} {g : GG} {lay : LY} {E0 : ES} {o : Nat} {X : ES} {K : ES → Prop} (hA : okL g lay) (HB : XL g lay o) (hX : ∀ k, k < 26 → E0 (o + k) = X k) (hw : wp_X0_countParked X K) : JMv l g lay yX0_countParked wsX0_countParked rmX0_countParked [.ref o] E0 (fun E1 => ∃ X1 : ES, E1 = put 26 o X1 E0 ∧ K X1) := by
  refine Met.ofW (cc := cX0_countParked) (maxL := 3) (ret := none) (by decide) rfl ?_
  intro p e s m args below meth c s₁ B hml hv
  obtain ⟨rfl, hK, hW⟩ := hv
  have hx := B.exec
  have hb := B.bytes
  have hr := B.returns
  have hts := gd_of (atoms_spec (ws := wsX0_countParked) B.pre)
  have hown : s.vm.findClass RX0 = some m.cls := findClass_of_methodNamed B.named
  have hlocks := B.notSynchronized
  have hS : va_S (Ab g) s.heap s.heap [] := va_S.rf
  have hW : Wd g lay (put 26 o X E0) s.heap := by rw [putSelf hX]; exact hW
  have hl := lv_entry [.ref o] (n := 3) (Nat.le_of_ble_eq_true rfl)
  rw [lg_entry_eq]
  generalize (lg_sl [.ref o] ++ List.replicate (3 - (lg_sl [.ref o]).length) Slot.unset).toArray = ls at hl ⊢
  have hl : lv_has ls 3 [(0, .ref o)] := hl
  unfold wp_X0_countParked at hw
  refine lv_aload_n hx hb dX0_countParked_0 rfl (lv_at hl 0 rfl) ?_
  refine lv_iconst (v := 4) hx hb dX0_countParked_1 (by decide) ?_
  refine w_cvi (As := [.int 4]) (rest := []) hx hb hml hown hts hK hW hS hl.1 (c_X0_settingAt hA HB (fun k hk => putAt hk)  hw) (k_X0_79 hts ⟨Nat.le_of_ble_eq_true rfl, Nat.le_of_ble_eq_true rfl⟩) (w_recv hK hW HB.1 (putAt (k := 0) (by decide)) rfl rfl) rfl rfl (Nat.le_of_ble_eq_true rfl) dX0_countParked_2 ⟨Nat.zero_le _, Nat.zero_le _⟩ (fun r_1 Ez H locs hw2 hW hS => ?_)
  obtain ⟨ez, hw⟩ := hw2
  rw [ez] at hW
  refine lv_istore_n (lv' := [(1, .int r_1), (0, .ref o)]) hx hb dX0_countParked_5 rfl hl (by decide) rfl (fun ls hl => ?_)
  refine lv_iconst (v := 0) hx hb dX0_countParked_6 (by decide) ?_
  refine lv_istore_n (lv' := [(2, .int 0), (1, .int r_1), (0, .ref o)]) hx hb dX0_countParked_7 rfl hl (by decide) rfl (fun ls hl => ?_)
  obtain ⟨n_17, hw⟩ := hw
  refine w_loop (KT := Int32 → ES → Prop) (σ := Int32 × ES) (Wl := fun Kx_8 n_8 q => wpl_X0_countParked_8 r_1 K Kx_8 n_8 q.1 q.2) (Pw := fun q => Wd g lay (put 26 o q.2 E0)) (lvf := fun q => [(0, .ref o), (1, .int r_1), (2, .int q.1)]) (nL := 3) n_17 (0, X) hw hW hS (lv_sub hl [2, 1, 0] rfl) (fun _ h => h) (fun Kx_8 eK_8 n_8 q H locs ls hw hW hS hl ih_8 => ?_)
  obtain ⟨i_2, X_3⟩ := q
  try dsimp only at hw
  rw [wpl_X0_countParked_8] at hw
  have hl : lv_has ls 3 [(0, .ref o), (1, .int r_1), (2, .int i_2)] := hl
  have hW : Wd g lay (put 26 o X_3 E0) H := hW
  refine lv_iload_n hx hb dX0_countParked_8 rfl (lv_at hl 2 rfl) ?_
  refine lv_bipush (v := 16) hx hb dX0_countParked_9 (by decide) ?_
  refine lv_icmp_ge (tgt := 29) hx hb dX0_countParked_11 (by decide) (fun c_12 => ?_) (fun c_12 => ?_)
  · have hw := hw.1 c_12
    rw [eK_8] at hw
    exact w_vret hx hb hr hlocks hW hS ⟨X_3, rfl, hw⟩ dX0_countParked_29
  · have hw := hw.2 c_12
    refine lv_aload_n hx hb dX0_countParked_14 rfl (lv_at hl 0 rfl) ?_
    refine lv_iload_n hx hb dX0_countParked_15 rfl (lv_at hl 2 rfl) ?_
    refine w_cvr (As := [.int i_2]) (rest := []) hx hb hml hown hts hK hW hS hl.1 (c_X0_lineAt hA HB i_2) (k_X0_83 hts ⟨Nat.le_of_ble_eq_true rfl, Nat.le_of_ble_eq_true rfl⟩) (w_recv hK hW HB.1 (putAt (k := 0) (by decide)) rfl rfl) rfl rfl (Nat.le_of_ble_eq_true rfl) dX0_countParked_16 ⟨Nat.zero_le _, Nat.zero_le _⟩ (fun q_13 Ez H locs hw2 hW hS => ?_)
    obtain ⟨ez, rfl⟩ := hw2
    rw [ez] at hW
    refine lv_iload_n hx hb dX0_countParked_19 rfl (lv_at hl 1 rfl) ?_
    refine w_cvv (As := [.int r_1]) (rest := []) hx hb hml hown hts hK hW hS hl.1 (c_X2_waitParked hA (HB.2.2.2.2.1 _ (isLi_lix i_2)) (putAt (k := lix i_2) (isLi_lt (isLi_lix i_2))) hw) (k_X0_226 hts ⟨Nat.le_of_ble_eq_true rfl, Nat.le_of_ble_eq_true rfl⟩) (w_recv hK hW (HB.2.2.2.2.1 _ (isLi_lix i_2)) (putAt (k := lix i_2) (isLi_lt (isLi_lix i_2))) rfl rfl) rfl rfl (Nat.le_of_ble_eq_true rfl) dX0_countParked_20 ⟨Nat.zero_le _, Nat.zero_le _⟩ (fun Ez H locs hw2 hW hS => ?_)
    obtain ⟨Y_14, ez, hw⟩ := hw2
    rw [ez] at hW
    obtain ⟨X_15, eX_15⟩ : ∃ z : ES, z = va_up X_3 (lix i_2) Y_14 := ⟨_, rfl⟩
    have hw := hw X_15 eX_15
    have hW : Wd g lay (put 26 o X_15 E0) H := by rw [eX_15, ← putUp (k := lix i_2) (isLi_lt (isLi_lix i_2))]; exact hW
    obtain ⟨v_16, ev_16⟩ : ∃ z : Int32, z = i_2 + 1 := ⟨_, rfl⟩
    have hw := hw v_16 ev_16
    refine lv_iinc (v := v_16) (lv' := [(2, .int v_16), (0, .ref o), (1, .int r_1)]) hx hb dX0_countParked_23 hl (k := 2) rfl (by rw [ev_16]; rfl) (by decide) rfl (fun ls hl => ?_)
    refine lv_goto (tgt := 8) hx hb dX0_countParked_26 (by decide) ?_
    exact ih_8 (v_16, X_15) _ _ _ hw hW hS (lv_sub hl [1, 2, 0] rfl)
set_option maxHeartbeats 4000000 in
set_option maxRecDepth 100000 in
theorem c_X0_pass {l : Launch} {g : GG} {lay : LY} {E0 : ES} {o : Nat} {X : ES} {p1 : Int32} {K : ES → Prop} (hA : okL g lay) (HB : XL g lay o) (hX : ∀ k, k < 26 → E0 (o + k) = X k) (hw : wp_X0_pass X p1 K) : JMv l g lay yX0_pass wsX0_pass rmX0_pass [.ref o, .int p1] E0 (fun E1 => ∃ X1 : ES, E1 = put 26 o X1 E0 ∧ K X1) := by
  refine Met.ofW (cc := cX0_pass) (maxL := 4) (ret := none) (by decide) rfl ?_
  intro p e s m args below meth c s₁ B hml hv
  obtain ⟨rfl, hK, hW⟩ := hv
  have hx := B.exec
  have hb := B.bytes
  have hr := B.returns
  have hts := gd_of (atoms_spec (ws := wsX0_pass) B.pre)
  have hown : s.vm.findClass RX0 = some m.cls := findClass_of_methodNamed B.named
  have hlocks := B.notSynchronized
  have hS : va_S (Ab g) s.heap s.heap [] := va_S.rf
  have hW : Wd g lay (put 26 o X E0) s.heap := by rw [putSelf hX]; exact hW
  have hl := lv_entry [.ref o, .int p1] (n := 4) (Nat.le_of_ble_eq_true rfl)
  rw [lg_entry_eq]
  generalize (lg_sl [.ref o, .int p1] ++ List.replicate (4 - (lg_sl [.ref o, .int p1]).length) Slot.unset).toArray = ls at hl ⊢
  have hl : lv_has ls 4 [(0, .ref o), (1, .int p1)] := hl
  unfold wp_X0_pass at hw
  refine lv_iconst (v := 0) hx hb dX0_pass_0 (by decide) ?_
  refine lv_istore_n (lv' := [(2, .int 0), (0, .ref o), (1, .int p1)]) hx hb dX0_pass_1 rfl hl (by decide) rfl (fun ls hl => ?_)
  obtain ⟨n_62, hw⟩ := hw
  refine w_loop (KT := Int32 → ES → Prop) (σ := Int32 × ES) (Wl := fun Kx_2 n_2 q => wpl_X0_pass_2 p1 K Kx_2 n_2 q.1 q.2) (Pw := fun q => Wd g lay (put 26 o q.2 E0)) (lvf := fun q => [(0, .ref o), (1, .int p1), (2, .int q.1)]) (nL := 4) n_62 (0, X) hw hW hS (lv_sub hl [1, 2, 0] rfl) (fun _ h => h) (fun Kx_2 eK_2 n_2 q H locs ls hw hW hS hl ih_2 => ?_)
  obtain ⟨i_1, X_2⟩ := q
  try dsimp only at hw
  rw [wpl_X0_pass_2] at hw
  have hl : lv_has ls 4 [(0, .ref o), (1, .int p1), (2, .int i_1)] := hl
  have hW : Wd g lay (put 26 o X_2 E0) H := hW
  refine lv_iload_n hx hb dX0_pass_2 rfl (lv_at hl 2 rfl) ?_
  refine lv_iload_n hx hb dX0_pass_3 rfl (lv_at hl 1 rfl) ?_
  refine lv_icmp_ge (tgt := 56) hx hb dX0_pass_4 (by decide) (fun c_34 => ?_) (fun c_34 => ?_)
  · have hw := hw.1 c_34
    rw [eK_2] at hw
    exact w_vret hx hb hr hlocks hW hS ⟨X_2, rfl, hw⟩ dX0_pass_56
  · have hw := hw.2 c_34
    refine lv_iconst (v := 0) hx hb dX0_pass_7 (by decide) ?_
    refine lv_istore_n (lv' := [(3, .int 0), (0, .ref o), (1, .int p1), (2, .int i_1)]) hx hb dX0_pass_8 rfl hl (by decide) rfl (fun ls hl => ?_)
    obtain ⟨n_61, hw⟩ := hw
    refine w_loop (KT := Int32 → ES → Prop) (σ := Int32 × ES) (Wl := fun Kx_9 n_9 q => wpl_X0_pass_9 K Kx_9 n_9 q.1 q.2) (Pw := fun q => Wd g lay (put 26 o q.2 E0)) (lvf := fun q => [(0, .ref o), (1, .int p1), (2, .int i_1), (3, .int q.1)]) (nL := 4) n_61 (0, X_2) hw hW hS (lv_sub hl [1, 2, 3, 0] rfl) (fun _ h => h) (fun Kx_9 eK_9 n_9 q H locs ls hw hW hS hl ih_9 => ?_)
    obtain ⟨i_35, X_36⟩ := q
    try dsimp only at hw
    rw [wpl_X0_pass_9] at hw
    have hl : lv_has ls 4 [(0, .ref o), (1, .int p1), (2, .int i_1), (3, .int i_35)] := hl
    have hW : Wd g lay (put 26 o X_36 E0) H := hW
    refine lv_iload_n hx hb dX0_pass_9 rfl (lv_at hl 3 rfl) ?_
    refine lv_aload_n hx hb dX0_pass_10 rfl (lv_at hl 0 rfl) ?_
    refine g_X0_45 hx hb hown hts hK hW HB.1 (putAt (k := 0) (by decide)) dX0_pass_11 ?_
    refine lv_icmp_ge (tgt := 32) hx hb dX0_pass_14 (by decide) (fun c_53 => ?_) (fun c_53 => ?_)
    · have hw := hw.1 c_53
      rw [eK_9] at hw
      refine lv_aload_n hx hb dX0_pass_32 rfl (lv_at hl 0 rfl) ?_
      refine w_cvv (As := []) (rest := []) hx hb hml hown hts hK hW hS hl.1 (c_X0_allotFinder hA HB (fun k hk => putAt hk)  hw) (k_X0_145 hts ⟨Nat.le_of_ble_eq_true rfl, Nat.le_of_ble_eq_true rfl⟩) (w_recv hK hW HB.1 (putAt (k := 0) (by decide)) rfl rfl) rfl rfl (Nat.le_of_ble_eq_true rfl) dX0_pass_33 ⟨Nat.zero_le _, Nat.zero_le _⟩ (fun Ez H locs hw2 hW hS => ?_)
      obtain ⟨X_54, ez, hw⟩ := hw2
      rw [ez, putPut] at hW
      refine lv_aload_n hx hb dX0_pass_36 rfl (lv_at hl 0 rfl) ?_
      refine w_cvv (As := []) (rest := []) hx hb hml hown hts hK hW hS hl.1 (c_X0_countParked hA HB (fun k hk => putAt hk)  hw) (k_X0_148 hts ⟨Nat.le_of_ble_eq_true rfl, Nat.le_of_ble_eq_true rfl⟩) (w_recv hK hW HB.1 (putAt (k := 0) (by decide)) rfl rfl) rfl rfl (Nat.le_of_ble_eq_true rfl) dX0_pass_37 ⟨Nat.zero_le _, Nat.zero_le _⟩ (fun Ez H locs hw2 hW hS => ?_)
      obtain ⟨X_55, ez, hw⟩ := hw2
      rw [ez, putPut] at hW
      refine lv_aload_n hx hb dX0_pass_40 rfl (lv_at hl 0 rfl) ?_
      refine lv_dup hx hb dX0_pass_41 rfl ?_
      refine g_X0_52 hx hb hown hts hK hW HB.1 (putAt (k := 0) (by decide)) dX0_pass_42 ?_
      refine lv_iconst (v := 1) hx hb dX0_pass_45 (by decide) ?_
      refine lv_iadd hx hb dX0_pass_46 ?_
      obtain ⟨X_56, eX_56⟩ : ∃ z : ES, z = va_up X_55 0 (upd (X_55 0) 7 (((X_55 0) 7) + 1)) := ⟨_, rfl⟩
      have hw := hw X_56 eX_56
      refine p_X0_52 (E1 := put 26 o X_56 E0) hx hb hown hts hK hA hW hS HB.1 (putAt (k := 0) (by decide)) dX0_pass_47 (puE (k := 0) (by decide) eX_56) (fun H locs hW hS => ?_)
      obtain ⟨v_57, ev_57⟩ : ∃ z : Int32, z = i_1 + 1 := ⟨_, rfl⟩
      have hw := hw v_57 ev_57
      refine lv_iinc (v := v_57) (lv' := [(2, .int v_57), (0, .ref o), (1, .int p1), (3, .int i_35)]) hx hb dX0_pass_50 hl (k := 2) rfl (by rw [ev_57]; rfl) (by decide) rfl (fun ls hl => ?_)
      refine lv_goto (tgt := 2) hx hb dX0_pass_53 (by decide) ?_
      exact ih_2 (v_57, X_56) _ _ _ hw hW hS (lv_sub hl [1, 2, 0] rfl)
    · have hw := hw.2 c_53
      refine lv_aload_n hx hb dX0_pass_17 rfl (lv_at hl 0 rfl) ?_
      refine lv_aload_n hx hb dX0_pass_18 rfl (lv_at hl 0 rfl) ?_
      refine lv_iload_n hx hb dX0_pass_19 rfl (lv_at hl 3 rfl) ?_
      refine w_cvr (As := [.int i_35]) (rest := [.ref o]) hx hb hml hown hts hK hW hS hl.1 (c_X0_finderAt hA HB i_35) (k_X0_90 hts ⟨Nat.le_of_ble_eq_true rfl, Nat.le_of_ble_eq_true rfl⟩) (w_recv hK hW HB.1 (putAt (k := 0) (by decide)) rfl rfl) rfl rfl (Nat.le_of_ble_eq_true rfl) dX0_pass_20 ⟨Nat.zero_le _, Nat.zero_le _⟩ (fun q_58 Ez H locs hw2 hW hS => ?_)
      obtain ⟨ez, rfl⟩ := hw2
      rw [ez] at hW
      refine w_cvv (As := [.ref (o + fix i_35)]) (rest := []) hx hb hml hown hts hK hW hS hl.1 (c_X0_takeStep hA HB (fun k hk => putAt hk) (isFi_fix i_35) hw) (k_X0_142 hts ⟨Nat.le_of_ble_eq_true rfl, Nat.le_of_ble_eq_true rfl⟩) (w_recv hK hW HB.1 (putAt (k := 0) (by decide)) rfl rfl) rfl rfl (Nat.le_of_ble_eq_true rfl) dX0_pass_23 ⟨Nat.zero_le _, Nat.zero_le _⟩ (fun Ez H locs hw2 hW hS => ?_)
      obtain ⟨X_59, ez, hw⟩ := hw2
      rw [ez, putPut] at hW
      obtain ⟨v_60, ev_60⟩ : ∃ z : Int32, z = i_35 + 1 := ⟨_, rfl⟩
      have hw := hw v_60 ev_60
      refine lv_iinc (v := v_60) (lv' := [(3, .int v_60), (0, .ref o), (1, .int p1), (2, .int i_1)]) hx hb dX0_pass_26 hl (k := 3) rfl (by rw [ev_60]; rfl) (by decide) rfl (fun ls hl => ?_)
      refine lv_goto (tgt := 9) hx hb dX0_pass_29 (by decide) ?_
      exact ih_9 (v_60, X_59) _ _ _ hw hW hS (lv_sub hl [1, 2, 3, 0] rfl)
set_option maxHeartbeats 4000000 in
set_option maxRecDepth 100000 in
theorem c_X0_ticksUntil {l : Launch} {g : GG} {lay : LY} {E0 : ES} {o : Nat} {X : ES} {p1 : Int32} {p2 : Int32} {p3 : Int32} {K : Int32 → ES → Prop} (hA : okL g lay) (HB : XL g lay o) (hX : ∀ k, k < 26 → E0 (o + k) = X k) (hw : wp_X0_ticksUntil X p1 p2 p3 K) : JMi l g lay yX0_ticksUntil wsX0_ticksUntil rmX0_ticksUntil [.ref o, .int p1, .int p2, .int p3] E0 (fun r E1 => ∃ X1 : ES, E1 = put 26 o X1 E0 ∧ K r X1) := by
  refine Met.ofW (cc := cX0_ticksUntil) (maxL := 5) (ret := (some .int)) (by decide) rfl ?_
  intro p e s m args below meth c s₁ B hml hv
  obtain ⟨rfl, hK, hW⟩ := hv
  have hx := B.exec
  have hb := B.bytes
  have hr := B.returns
  have hts := gd_of (atoms_spec (ws := wsX0_ticksUntil) B.pre)
  have hown : s.vm.findClass RX0 = some m.cls := findClass_of_methodNamed B.named
  have hlocks := B.notSynchronized
  have hS : va_S (Ab g) s.heap s.heap [] := va_S.rf
  have hW : Wd g lay (put 26 o X E0) s.heap := by rw [putSelf hX]; exact hW
  have hl := lv_entry [.ref o, .int p1, .int p2, .int p3] (n := 5) (Nat.le_of_ble_eq_true rfl)
  rw [lg_entry_eq]
  generalize (lg_sl [.ref o, .int p1, .int p2, .int p3] ++ List.replicate (5 - (lg_sl [.ref o, .int p1, .int p2, .int p3]).length) Slot.unset).toArray = ls at hl ⊢
  have hl : lv_has ls 5 [(0, .ref o), (1, .int p1), (2, .int p2), (3, .int p3)] := hl
  unfold wp_X0_ticksUntil at hw
  refine lv_iconst (v := 0) hx hb dX0_ticksUntil_0 (by decide) ?_
  refine lv_istore (lv' := [(4, .int 0), (0, .ref o), (1, .int p1), (2, .int p2), (3, .int p3)]) hx hb dX0_ticksUntil_1 hl (by decide) rfl (fun ls hl => ?_)
  obtain ⟨n_24, hw⟩ := hw
  refine w_loop (KT := Int32 → ES → Prop) (σ := Int32 × ES) (Wl := fun Kx_3 n_3 q => wpl_X0_ticksUntil_3 p1 p2 p3 K Kx_3 n_3 q.1 q.2) (Pw := fun q => Wd g lay (put 26 o q.2 E0)) (lvf := fun q => [(0, .ref o), (1, .int p1), (2, .int p2), (3, .int p3), (4, .int q.1)]) (nL := 5) n_24 (0, X) hw hW hS (lv_sub hl [1, 2, 3, 4, 0] rfl) (fun _ h => h) (fun Kx_3 eK_3 n_3 q H locs ls hw hW hS hl ih_3 => ?_)
  obtain ⟨i_1, X_2⟩ := q
  try dsimp only at hw
  rw [wpl_X0_ticksUntil_3] at hw
  have hl : lv_has ls 5 [(0, .ref o), (1, .int p1), (2, .int p2), (3, .int p3), (4, .int i_1)] := hl
  have hW : Wd g lay (put 26 o X_2 E0) H := hW
  refine lv_iload hx hb dX0_ticksUntil_3 (lv_at hl 4 rfl) ?_
  refine lv_iload_n hx hb dX0_ticksUntil_5 rfl (lv_at hl 3 rfl) ?_
  refine lv_icmp_ge (tgt := 35) hx hb dX0_ticksUntil_6 (by decide) (fun c_17 => ?_) (fun c_17 => ?_)
  · have hw := hw.1 c_17
    rw [eK_3] at hw
    refine lv_aload_n hx hb dX0_ticksUntil_35 rfl (lv_at hl 0 rfl) ?_
    refine lv_iload_n hx hb dX0_ticksUntil_36 rfl (lv_at hl 1 rfl) ?_
    refine w_cvr (As := [.int p1]) (rest := []) hx hb hml hown hts hK hW hS hl.1 (c_X0_lineAt hA HB p1) (k_X0_83 hts ⟨Nat.le_of_ble_eq_true rfl, Nat.le_of_ble_eq_true rfl⟩) (w_recv hK hW HB.1 (putAt (k := 0) (by decide)) rfl rfl) rfl rfl (Nat.le_of_ble_eq_true rfl) dX0_ticksUntil_37 ⟨Nat.zero_le _, Nat.zero_le _⟩ (fun q_18 Ez H locs hw2 hW hS => ?_)
    obtain ⟨ez, rfl⟩ := hw2
    rw [ez] at hW
    refine g_X0_106 hx hb hown hts hK hW (HB.2.2.2.2.1 _ (isLi_lix p1)) (putAt (k := lix p1) (isLi_lt (isLi_lix p1))) dX0_ticksUntil_40 ?_
    refine lv_iload_n hx hb dX0_ticksUntil_43 rfl (lv_at hl 2 rfl) ?_
    refine lv_icmp_ne (tgt := 51) hx hb dX0_ticksUntil_44 (by decide) (fun c_19 => ?_) (fun c_19 => ?_)
    · have hw := hw.2 c_19
      refine lv_bipush (v := (-6)) hx hb dX0_ticksUntil_51 (by decide) ?_
      exact w_iret hx hb hr hlocks hW hS ⟨X_2, rfl, hw⟩ dX0_ticksUntil_53
    · have hw := hw.1 c_19
      refine lv_iload_n hx hb dX0_ticksUntil_47 rfl (lv_at hl 3 rfl) ?_
      refine lv_goto (tgt := 53) hx hb dX0_ticksUntil_48 (by decide) ?_
      exact w_iret hx hb hr hlocks hW hS ⟨X_2, rfl, hw⟩ dX0_ticksUntil_53
  · have hw := hw.2 c_17
    refine lv_aload_n hx hb dX0_ticksUntil_9 rfl (lv_at hl 0 rfl) ?_
    refine lv_iload_n hx hb dX0_ticksUntil_10 rfl (lv_at hl 1 rfl) ?_
    refine w_cvr (As := [.int p1]) (rest := []) hx hb hml hown hts hK hW hS hl.1 (c_X0_lineAt hA HB p1) (k_X0_83 hts ⟨Nat.le_of_ble_eq_true rfl, Nat.le_of_ble_eq_true rfl⟩) (w_recv hK hW HB.1 (putAt (k := 0) (by decide)) rfl rfl) rfl rfl (Nat.le_of_ble_eq_true rfl) dX0_ticksUntil_11 ⟨Nat.zero_le _, Nat.zero_le _⟩ (fun q_20 Ez H locs hw2 hW hS => ?_)
    obtain ⟨ez, rfl⟩ := hw2
    rw [ez] at hW
    refine g_X0_106 hx hb hown hts hK hW (HB.2.2.2.2.1 _ (isLi_lix p1)) (putAt (k := lix p1) (isLi_lt (isLi_lix p1))) dX0_ticksUntil_14 ?_
    refine lv_iload_n hx hb dX0_ticksUntil_17 rfl (lv_at hl 2 rfl) ?_
    refine lv_icmp_ne (tgt := 24) hx hb dX0_ticksUntil_18 (by decide) (fun c_21 => ?_) (fun c_21 => ?_)
    · have hw := hw.2 c_21
      refine lv_aload_n hx hb dX0_ticksUntil_24 rfl (lv_at hl 0 rfl) ?_
      refine lv_iconst (v := 1) hx hb dX0_ticksUntil_25 (by decide) ?_
      refine w_cvv (As := [.int 1]) (rest := []) hx hb hml hown hts hK hW hS hl.1 (c_X0_pass hA HB (fun k hk => putAt hk)  hw) (k_X0_235 hts ⟨Nat.le_of_ble_eq_true rfl, Nat.le_of_ble_eq_true rfl⟩) (w_recv hK hW HB.1 (putAt (k := 0) (by decide)) rfl rfl) rfl rfl (Nat.le_of_ble_eq_true rfl) dX0_ticksUntil_26 ⟨Nat.zero_le _, Nat.zero_le _⟩ (fun Ez H locs hw2 hW hS => ?_)
      obtain ⟨X_22, ez, hw⟩ := hw2
      rw [ez, putPut] at hW
      obtain ⟨v_23, ev_23⟩ : ∃ z : Int32, z = i_1 + 1 := ⟨_, rfl⟩
      have hw := hw v_23 ev_23
      refine lv_iinc (v := v_23) (lv' := [(4, .int v_23), (0, .ref o), (1, .int p1), (2, .int p2), (3, .int p3)]) hx hb dX0_ticksUntil_29 hl (k := 4) rfl (by rw [ev_23]; rfl) (by decide) rfl (fun ls hl => ?_)
      refine lv_goto (tgt := 3) hx hb dX0_ticksUntil_32 (by decide) ?_
      exact ih_3 (v_23, X_22) _ _ _ hw hW hS (lv_sub hl [1, 2, 3, 4, 0] rfl)
    · have hw := hw.1 c_21
      refine lv_iload hx hb dX0_ticksUntil_21 (lv_at hl 4 rfl) ?_
      exact w_iret hx hb hr hlocks hW hS ⟨X_2, rfl, hw⟩ dX0_ticksUntil_23
set_option maxHeartbeats 4000000 in
set_option maxRecDepth 100000 in
theorem c_X0_partnerOf {l : Launch} {g : GG} {lay : LY} {E0 : ES} {o : Nat} {X : ES} {k1 : Nat} {K : Int32 → Prop} (hA : okL g lay) (HB : XL g lay o) (hX : ∀ k, k < 26 → E0 (o + k) = X k) (h1 : isLi k1) (hw : wp_X0_partnerOf X k1 K) : JMi l g lay yX0_partnerOf wsX0_partnerOf rmX0_partnerOf [.ref o, .ref (o + k1)] E0 (fun r E1 => E1 = E0 ∧ K r) := by
  refine Met.ofW (cc := cX0_partnerOf) (maxL := 3) (ret := (some .int)) (by decide) rfl ?_
  intro p e s m args below meth c s₁ B hml hv
  obtain ⟨rfl, hK, hW⟩ := hv
  have hx := B.exec
  have hb := B.bytes
  have hr := B.returns
  have hts := gd_of (atoms_spec (ws := wsX0_partnerOf) B.pre)
  have hown : s.vm.findClass RX0 = some m.cls := findClass_of_methodNamed B.named
  have hlocks := B.notSynchronized
  have hS : va_S (Ab g) s.heap s.heap [] := va_S.rf
  have hl := lv_entry [.ref o, .ref (o + k1)] (n := 3) (Nat.le_of_ble_eq_true rfl)
  rw [lg_entry_eq]
  generalize (lg_sl [.ref o, .ref (o + k1)] ++ List.replicate (3 - (lg_sl [.ref o, .ref (o + k1)]).length) Slot.unset).toArray = ls at hl ⊢
  have hl : lv_has ls 3 [(0, .ref o), (1, .ref (o + k1))] := hl
  unfold wp_X0_partnerOf at hw
  refine lv_aload_n hx hb dX0_partnerOf_0 rfl (lv_at hl 0 rfl) ?_
  refine lv_aload_n hx hb dX0_partnerOf_1 rfl (lv_at hl 1 rfl) ?_
  refine g_X0_119 hx hb hown hts hK hW (HB.2.2.2.2.1 _ h1) (hX k1 (isLi_lt h1)) dX0_partnerOf_2 ?_
  refine w_cvr (As := [.int ((X k1) 6)]) (rest := []) hx hb hml hown hts hK hW hS hl.1 (c_X0_finderAt hA HB ((X k1) 6)) (k_X0_90 hts ⟨Nat.le_of_ble_eq_true rfl, Nat.le_of_ble_eq_true rfl⟩) (w_recv hK hW HB.1 (hX 0 (by decide)) rfl rfl) rfl rfl (Nat.le_of_ble_eq_true rfl) dX0_partnerOf_5 ⟨Nat.zero_le _, Nat.zero_le _⟩ (fun q_1 Ez H locs hw2 hW hS => ?_)
  obtain ⟨ez, rfl⟩ := hw2
  rw [ez] at hW
  refine lv_astore_n (lv' := [(2, .ref (o + fix ((X k1) 6))), (0, .ref o), (1, .ref (o + k1))]) hx hb dX0_partnerOf_8 rfl hl (by decide) rfl (fun ls hl => ?_)
  refine lv_aload_n hx hb dX0_partnerOf_9 rfl (lv_at hl 2 rfl) ?_
  refine w_cvi (As := []) (rest := []) hx hb hml hown hts hK hW hS hl.1 (c_X2_callsAnother hA (HB.2.2.2.2.1 _ h1) (hX k1 (isLi_lt h1)) hw) (k_X0_258 hts ⟨Nat.le_of_ble_eq_true rfl, Nat.le_of_ble_eq_true rfl⟩) (w_recv hK hW (HB.2.2.2.2.1 _ h1) (hX k1 (isLi_lt h1)) rfl rfl) rfl rfl (Nat.le_of_ble_eq_true rfl) dX0_partnerOf_10 ⟨Nat.zero_le _, Nat.zero_le _⟩ (fun r_2 Ez H locs hw2 hW hS => ?_)
  obtain ⟨ez, z_3, hw⟩ := hw2
  rw [ez] at hW
  refine lv_if_eq (tgt := 21) hx hb dX0_partnerOf_13 (by decide) (fun c_4 => ?_) (fun c_4 => ?_)
  · have hw := hw.1 c_4
    refine lv_aload_n hx hb dX0_partnerOf_21 rfl (lv_at hl 2 rfl) ?_
    refine w_cvi (As := []) (rest := []) hx hb hml hown hts hK hW hS hl.1 (c_X2_isCalledByAnother hA (HB.2.2.2.2.1 _ h1) (hX k1 (isLi_lt h1)) hw) (k_X0_115 hts ⟨Nat.le_of_ble_eq_true rfl, Nat.le_of_ble_eq_true rfl⟩) (w_recv hK hW (HB.2.2.2.2.1 _ h1) (hX k1 (isLi_lt h1)) rfl rfl) rfl rfl (Nat.le_of_ble_eq_true rfl) dX0_partnerOf_22 ⟨Nat.zero_le _, Nat.zero_le _⟩ (fun r_5 Ez H locs hw2 hW hS => ?_)
    obtain ⟨ez, z_6, hw⟩ := hw2
    rw [ez] at hW
    refine lv_if_eq (tgt := 35) hx hb dX0_partnerOf_25 (by decide) (fun c_7 => ?_) (fun c_7 => ?_)
    · have hw := hw.1 c_7
      refine lv_bipush (v := (-6)) hx hb dX0_partnerOf_35 (by decide) ?_
      exact w_iret hx hb hr hlocks hW hS ⟨rfl, hw⟩ dX0_partnerOf_37
    · have hw := hw.2 c_7
      refine lv_aload_n hx hb dX0_partnerOf_28 rfl (lv_at hl 0 rfl) ?_
      refine g_X0_151 hx hb hown hts hK hW (HB.2.2.2.2.2 _ (isFi_fix ((X k1) 6))) (hX (fix ((X k1) 6)) (isFi_lt (isFi_fix ((X k1) 6)))) dX0_partnerOf_29 ?_
      refine lv_goto (tgt := 37) hx hb dX0_partnerOf_32 (by decide) ?_
      exact w_iret hx hb hr hlocks hW hS ⟨rfl, hw⟩ dX0_partnerOf_37
  · have hw := hw.2 c_4
    refine lv_aload_n hx hb dX0_partnerOf_16 rfl (lv_at hl 0 rfl) ?_
    refine g_X0_129 hx hb hown hts hK hW (HB.2.2.2.2.2 _ (isFi_fix ((X k1) 6))) (hX (fix ((X k1) 6)) (isFi_lt (isFi_fix ((X k1) 6)))) dX0_partnerOf_17 ?_
    exact w_iret hx hb hr hlocks hW hS ⟨rfl, hw⟩ dX0_partnerOf_20
set_option maxHeartbeats 4000000 in
set_option maxRecDepth 100000 in
theorem c_X0_placeOf {l : Launch} {g : GG} {lay : LY} {E0 : ES} {o : Nat} {X : ES} {k1 : Nat} {K : Int32 → Prop} (hA : okL g lay) (HB : XL g lay o) (hX : ∀ k, k < 26 → E0 (o + k) = X k) (h1 : isLi k1) (hw : wp_X0_placeOf X k1 K) : JMi l g lay yX0_placeOf wsX0_placeOf rmX0_placeOf [.ref o, .ref (o + k1)] E0 (fun r E1 => E1 = E0 ∧ K r) := by
  refine Met.ofW (cc := cX0_placeOf) (maxL := 4) (ret := (some .int)) (by decide) rfl ?_
  intro p e s m args below meth c s₁ B hml hv
  obtain ⟨rfl, hK, hW⟩ := hv
  have hx := B.exec
  have hb := B.bytes
  have hr := B.returns
  have hts := gd_of (atoms_spec (ws := wsX0_placeOf) B.pre)
  have hown : s.vm.findClass RX0 = some m.cls := findClass_of_methodNamed B.named
  have hlocks := B.notSynchronized
  have hS : va_S (Ab g) s.heap s.heap [] := va_S.rf
  have hl := lv_entry [.ref o, .ref (o + k1)] (n := 4) (Nat.le_of_ble_eq_true rfl)
  rw [lg_entry_eq]
  generalize (lg_sl [.ref o, .ref (o + k1)] ++ List.replicate (4 - (lg_sl [.ref o, .ref (o + k1)]).length) Slot.unset).toArray = ls at hl ⊢
  have hl : lv_has ls 4 [(0, .ref o), (1, .ref (o + k1))] := hl
  unfold wp_X0_placeOf at hw
  refine lv_aload_n hx hb dX0_placeOf_0 rfl (lv_at hl 1 rfl) ?_
  refine w_cvi (As := []) (rest := []) hx hb hml hown hts hK hW hS hl.1 (c_X2_waitsUnsought hA (HB.2.2.2.2.1 _ h1) (hX k1 (isLi_lt h1)) hw) (k_X0_229 hts ⟨Nat.le_of_ble_eq_true rfl, Nat.le_of_ble_eq_true rfl⟩) (w_recv hK hW (HB.2.2.2.2.1 _ h1) (hX k1 (isLi_lt h1)) rfl rfl) rfl rfl (Nat.le_of_ble_eq_true rfl) dX0_placeOf_1 ⟨Nat.zero_le _, Nat.zero_le _⟩ (fun r_1 Ez H locs hw2 hW hS => ?_)
  obtain ⟨ez, z_2, hw⟩ := hw2
  rw [ez] at hW
  refine lv_if_ne (tgt := 10) hx hb dX0_placeOf_4 (by decide) (fun c_3 => ?_) (fun c_3 => ?_)
  · have hw := hw.2 c_3
    refine lv_iconst (v := 0) hx hb dX0_placeOf_10 (by decide) ?_
    refine lv_istore_n (lv' := [(2, .int 0), (0, .ref o), (1, .ref (o + k1))]) hx hb dX0_placeOf_11 rfl hl (by decide) rfl (fun ls hl => ?_)
    refine lv_iconst (v := 0) hx hb dX0_placeOf_12 (by decide) ?_
    refine lv_istore_n (lv' := [(3, .int 0), (2, .int 0), (0, .ref o), (1, .ref (o + k1))]) hx hb dX0_placeOf_13 rfl hl (by decide) rfl (fun ls hl => ?_)
    obtain ⟨n_30, hw⟩ := hw
    refine w_loop (KT := Int32 → Int32 → Prop) (σ := Int32 × Int32) (Wl := fun Kx_14 n_14 q => wpl_X0_placeOf_14 X k1 K Kx_14 n_14 q.1 q.2) (Pw := fun q => Wd g lay (E0)) (lvf := fun q => [(0, .ref o), (1, .ref (o + k1)), (2, .int q.1), (3, .int q.2)]) (nL := 4) n_30 (0, 0) hw hW hS (lv_sub hl [2, 3, 1, 0] rfl) (fun _ h => h) (fun Kx_14 eK_14 n_14 q H locs ls hw hW hS hl ih_14 => ?_)
    obtain ⟨i_4, i_5⟩ := q
    try dsimp only at hw
    rw [wpl_X0_placeOf_14] at hw
    have hl : lv_has ls 4 [(0, .ref o), (1, .ref (o + k1)), (2, .int i_4), (3, .int i_5)] := hl
    have hW : Wd g lay (E0) H := hW
    refine lv_iload_n hx hb dX0_placeOf_14 rfl (lv_at hl 3 rfl) ?_
    refine lv_bipush (v := 16) hx hb dX0_placeOf_15 (by decide) ?_
    refine lv_icmp_ge (tgt := 55) hx hb dX0_placeOf_17 (by decide) (fun c_19 => ?_) (fun c_19 => ?_)
    · have hw := hw.1 c_19
      rw [eK_14] at hw
      refine lv_iload_n hx hb dX0_placeOf_55 rfl (lv_at hl 2 rfl) ?_
      exact w_iret hx hb hr hlocks hW hS ⟨rfl, hw⟩ dX0_placeOf_56
    · have hw := hw.2 c_19
      refine lv_aload_n hx hb dX0_placeOf_20 rfl (lv_at hl 0 rfl) ?_
      refine lv_iload_n hx hb dX0_placeOf_21 rfl (lv_at hl 3 rfl) ?_
      refine w_cvr (As := [.int i_5]) (rest := []) hx hb hml hown hts hK hW hS hl.1 (c_X0_lineAt hA HB i_5) (k_X0_83 hts ⟨Nat.le_of_ble_eq_true rfl, Nat.le_of_ble_eq_true rfl⟩) (w_recv hK hW HB.1 (hX 0 (by decide)) rfl rfl) rfl rfl (Nat.le_of_ble_eq_true rfl) dX0_placeOf_22 ⟨Nat.zero_le _, Nat.zero_le _⟩ (fun q_20 Ez H locs hw2 hW hS => ?_)
      obtain ⟨ez, rfl⟩ := hw2
      rw [ez] at hW
      refine w_cvi (As := []) (rest := []) hx hb hml hown hts hK hW hS hl.1 (c_X2_waitsUnsought hA (HB.2.2.2.2.1 _ (isLi_lix i_5)) (hX (lix i_5) (isLi_lt (isLi_lix i_5))) hw) (k_X0_229 hts ⟨Nat.le_of_ble_eq_true rfl, Nat.le_of_ble_eq_true rfl⟩) (w_recv hK hW (HB.2.2.2.2.1 _ (isLi_lix i_5)) (hX (lix i_5) (isLi_lt (isLi_lix i_5))) rfl rfl) rfl rfl (Nat.le_of_ble_eq_true rfl) dX0_placeOf_25 ⟨Nat.zero_le _, Nat.zero_le _⟩ (fun r_21 Ez H locs hw2 hW hS => ?_)
      obtain ⟨ez, z_22, hw⟩ := hw2
      rw [ez] at hW
      refine lv_if_eq (tgt := 49) hx hb dX0_placeOf_28 (by decide) (fun c_23 => ?_) (fun c_23 => ?_)
      · have hw := hw.1 c_23
        obtain ⟨v_24, ev_24⟩ : ∃ z : Int32, z = i_5 + 1 := ⟨_, rfl⟩
        have hw := hw v_24 ev_24
        refine lv_iinc (v := v_24) (lv' := [(3, .int v_24), (0, .ref o), (1, .ref (o + k1)), (2, .int i_4)]) hx hb dX0_placeOf_49 hl (k := 3) rfl (by rw [ev_24]; rfl) (by decide) rfl (fun ls hl => ?_)
        refine lv_goto (tgt := 14) hx hb dX0_placeOf_52 (by decide) ?_
        exact ih_14 (i_4, v_24) _ _ _ hw hW hS (lv_sub hl [1, 2, 3, 0] rfl)
      · have hw := hw.2 c_23
        refine lv_aload_n hx hb dX0_placeOf_31 rfl (lv_at hl 0 rfl) ?_
        refine lv_iload_n hx hb dX0_placeOf_32 rfl (lv_at hl 3 rfl) ?_
        refine w_cvr (As := [.int i_5]) (rest := []) hx hb hml hown hts hK hW hS hl.1 (c_X0_lineAt hA HB i_5) (k_X0_83 hts ⟨Nat.le_of_ble_eq_true rfl, Nat.le_of_ble_eq_true rfl⟩) (w_recv hK hW HB.1 (hX 0 (by decide)) rfl rfl) rfl rfl (Nat.le_of_ble_eq_true rfl) dX0_placeOf_33 ⟨Nat.zero_le _, Nat.zero_le _⟩ (fun q_25 Ez H locs hw2 hW hS => ?_)
        obtain ⟨ez, rfl⟩ := hw2
        rw [ez] at hW
        refine g_X0_112 hx hb hown hts hK hW (HB.2.2.2.2.1 _ (isLi_lix i_5)) (hX (lix i_5) (isLi_lt (isLi_lix i_5))) dX0_placeOf_36 ?_
        refine lv_aload_n hx hb dX0_placeOf_39 rfl (lv_at hl 1 rfl) ?_
        refine g_X0_112 hx hb hown hts hK hW (HB.2.2.2.2.1 _ h1) (hX k1 (isLi_lt h1)) dX0_placeOf_40 ?_
        refine lv_icmp_ge (tgt := 49) hx hb dX0_placeOf_43 (by decide) (fun c_26 => ?_) (fun c_26 => ?_)
        · have hw := hw.1 c_26
          obtain ⟨v_27, ev_27⟩ : ∃ z : Int32, z = i_5 + 1 := ⟨_, rfl⟩
          have hw := hw v_27 ev_27
          refine lv_iinc (v := v_27) (lv' := [(3, .int v_27), (0, .ref o), (1, .ref (o + k1)), (2, .int i_4)]) hx hb dX0_placeOf_49 hl (k := 3) rfl (by rw [ev_27]; rfl) (by decide) rfl (fun ls hl => ?_)
          refine lv_goto (tgt := 14) hx hb dX0_placeOf_52 (by decide) ?_
          exact ih_14 (i_4, v_27) _ _ _ hw hW hS (lv_sub hl [1, 2, 3, 0] rfl)
        · have hw := hw.2 c_26
          obtain ⟨v_28, ev_28⟩ : ∃ z : Int32, z = i_4 + 1 := ⟨_, rfl⟩
          have hw := hw v_28 ev_28
          refine lv_iinc (v := v_28) (lv' := [(2, .int v_28), (0, .ref o), (1, .ref (o + k1)), (3, .int i_5)]) hx hb dX0_placeOf_46 hl (k := 2) rfl (by rw [ev_28]; rfl) (by decide) rfl (fun ls hl => ?_)
          obtain ⟨v_29, ev_29⟩ : ∃ z : Int32, z = i_5 + 1 := ⟨_, rfl⟩
          have hw := hw v_29 ev_29
          refine lv_iinc (v := v_29) (lv' := [(3, .int v_29), (2, .int v_28), (0, .ref o), (1, .ref (o + k1))]) hx hb dX0_placeOf_49 hl (k := 3) rfl (by rw [ev_29]; rfl) (by decide) rfl (fun ls hl => ?_)
          refine lv_goto (tgt := 14) hx hb dX0_placeOf_52 (by decide) ?_
          exact ih_14 (v_28, v_29) _ _ _ hw hW hS (lv_sub hl [2, 3, 1, 0] rfl)
  · have hw := hw.1 c_3
    refine lv_bipush (v := (-6)) hx hb dX0_placeOf_7 (by decide) ?_
    exact w_iret hx hb hr hlocks hW hS ⟨rfl, hw⟩ dX0_placeOf_9
set_option maxHeartbeats 4000000 in
set_option maxRecDepth 100000 in
theorem c_X0_numberOfLine {l : Launch} {g : GG} {lay : LY} {E0 : ES} {o : Nat} {X : ES} {p1 : Int32} {p2 : Int32} {K : Int32 → Prop} (hA : okL g lay) (HB : XL g lay o) (hX : ∀ k, k < 26 → E0 (o + k) = X k) (hw : wp_X0_numberOfLine X p1 p2 K) : JMi l g lay yX0_numberOfLine wsX0_numberOfLine rmX0_numberOfLine [.ref o, .int p1, .int p2] E0 (fun r E1 => E1 = E0 ∧ K r) := by
  refine Met.ofW (cc := cX0_numberOfLine) (maxL := 4) (ret := (some .int)) (by decide) rfl ?_
  intro p e s m args below meth c s₁ B hml hv
  obtain ⟨rfl, hK, hW⟩ := hv
  have hx := B.exec
  have hb := B.bytes
  have hr := B.returns
  have hts := gd_of (atoms_spec (ws := wsX0_numberOfLine) B.pre)
  have hown : s.vm.findClass RX0 = some m.cls := findClass_of_methodNamed B.named
  have hlocks := B.notSynchronized
  have hS : va_S (Ab g) s.heap s.heap [] := va_S.rf
  have hl := lv_entry [.ref o, .int p1, .int p2] (n := 4) (Nat.le_of_ble_eq_true rfl)
  rw [lg_entry_eq]
  generalize (lg_sl [.ref o, .int p1, .int p2] ++ List.replicate (4 - (lg_sl [.ref o, .int p1, .int p2]).length) Slot.unset).toArray = ls at hl ⊢
  have hl : lv_has ls 4 [(0, .ref o), (1, .int p1), (2, .int p2)] := hl
  unfold wp_X0_numberOfLine at hw
  refine lv_aload_n hx hb dX0_numberOfLine_0 rfl (lv_at hl 0 rfl) ?_
  refine lv_iload_n hx hb dX0_numberOfLine_1 rfl (lv_at hl 1 rfl) ?_
  refine w_cvr (As := [.int p1]) (rest := []) hx hb hml hown hts hK hW hS hl.1 (c_X0_lineAt hA HB p1) (k_X0_83 hts ⟨Nat.le_of_ble_eq_true rfl, Nat.le_of_ble_eq_true rfl⟩) (w_recv hK hW HB.1 (hX 0 (by decide)) rfl rfl) rfl rfl (Nat.le_of_ble_eq_true rfl) dX0_numberOfLine_2 ⟨Nat.zero_le _, Nat.zero_le _⟩ (fun q_1 Ez H locs hw2 hW hS => ?_)
  obtain ⟨ez, rfl⟩ := hw2
  rw [ez] at hW
  refine lv_astore_n (lv' := [(3, .ref (o + lix p1)), (0, .ref o), (1, .int p1), (2, .int p2)]) hx hb dX0_numberOfLine_5 rfl hl (by decide) rfl (fun ls hl => ?_)
  refine lv_iload_n hx hb dX0_numberOfLine_6 rfl (lv_at hl 3 rfl) ?_
  by_cases c_2 : p2 = 0
  · have hw := hw.1 c_2
    refine lv_tableIn (tgt := 56) hx hb dX0_numberOfLine_7 (by rw [c_2]; decide) (by rw [c_2]; decide) (by rw [c_2] <;> rfl) (by decide) ?_
    refine lv_aload_n hx hb dX0_numberOfLine_56 rfl (lv_at hl 0 rfl) ?_
    refine g_X0_106 hx hb hown hts hK hW (HB.2.2.2.2.1 _ (isLi_lix p1)) (hX (lix p1) (isLi_lt (isLi_lix p1))) dX0_numberOfLine_57 ?_
    exact w_iret hx hb hr hlocks hW hS ⟨rfl, hw⟩ dX0_numberOfLine_60
  · have hw := hw.2 c_2
    by_cases c_3 : p2 = 1
    · have hw := hw.1 c_3
      refine lv_tableIn (tgt := 61) hx hb dX0_numberOfLine_7 (by rw [c_3]; decide) (by rw [c_3]; decide) (by rw [c_3] <;> rfl) (by decide) ?_
      refine lv_aload_n hx hb dX0_numberOfLine_61 rfl (lv_at hl 0 rfl) ?_
      refine g_X0_102 hx hb hown hts hK hW (HB.2.2.2.2.1 _ (isLi_lix p1)) (hX (lix p1) (isLi_lt (isLi_lix p1))) dX0_numberOfLine_62 ?_
      refine lv_if_eq (tgt := 72) hx hb dX0_numberOfLine_65 (by decide) (fun c_4 => ?_) (fun c_4 => ?_)
      · have hw := hw.1 c_4
        refine lv_iconst (v := 0) hx hb dX0_numberOfLine_72 (by decide) ?_
        exact w_iret hx hb hr hlocks hW hS ⟨rfl, hw⟩ dX0_numberOfLine_73
      · have hw := hw.2 c_4
        refine lv_iconst (v := 1) hx hb dX0_numberOfLine_68 (by decide) ?_
        refine lv_goto (tgt := 73) hx hb dX0_numberOfLine_69 (by decide) ?_
        exact w_iret hx hb hr hlocks hW hS ⟨rfl, hw⟩ dX0_numberOfLine_73
    · have hw := hw.2 c_3
      by_cases c_5 : p2 = 2
      · have hw := hw.1 c_5
        refine lv_tableIn (tgt := 74) hx hb dX0_numberOfLine_7 (by rw [c_5]; decide) (by rw [c_5]; decide) (by rw [c_5] <;> rfl) (by decide) ?_
        refine lv_aload_n hx hb dX0_numberOfLine_74 rfl (lv_at hl 0 rfl) ?_
        refine g_X0_119 hx hb hown hts hK hW (HB.2.2.2.2.1 _ (isLi_lix p1)) (hX (lix p1) (isLi_lt (isLi_lix p1))) dX0_numberOfLine_75 ?_
        exact w_iret hx hb hr hlocks hW hS ⟨rfl, hw⟩ dX0_numberOfLine_78
      · have hw := hw.2 c_5
        by_cases c_6 : p2 = 3
        · have hw := hw.1 c_6
          refine lv_tableIn (tgt := 79) hx hb dX0_numberOfLine_7 (by rw [c_6]; decide) (by rw [c_6]; decide) (by rw [c_6] <;> rfl) (by decide) ?_
          refine lv_aload_n hx hb dX0_numberOfLine_79 rfl (lv_at hl 1 rfl) ?_
          refine lv_aload_n hx hb dX0_numberOfLine_80 rfl (lv_at hl 0 rfl) ?_
          refine w_cvi (As := [.ref (o + lix p1)]) (rest := []) hx hb hml hown hts hK hW hS hl.1 (c_X0_partnerOf hA HB hX (isLi_lix p1) hw) (k_X0_248 hts ⟨Nat.le_of_ble_eq_true rfl, Nat.le_of_ble_eq_true rfl⟩) (w_recv hK hW HB.1 (hX 0 (by decide)) rfl rfl) rfl rfl (Nat.le_of_ble_eq_true rfl) dX0_numberOfLine_81 ⟨Nat.zero_le _, Nat.zero_le _⟩ (fun r_7 Ez H locs hw2 hW hS => ?_)
          obtain ⟨ez, hw⟩ := hw2
          rw [ez] at hW
          exact w_iret hx hb hr hlocks hW hS ⟨rfl, hw⟩ dX0_numberOfLine_84
        · have hw := hw.2 c_6
          by_cases c_8 : p2 = 4
          · have hw := hw.1 c_8
            refine lv_tableIn (tgt := 85) hx hb dX0_numberOfLine_7 (by rw [c_8]; decide) (by rw [c_8]; decide) (by rw [c_8] <;> rfl) (by decide) ?_
            refine lv_aload_n hx hb dX0_numberOfLine_85 rfl (lv_at hl 0 rfl) ?_
            refine g_X0_135 hx hb hown hts hK hW (HB.2.2.2.2.1 _ (isLi_lix p1)) (hX (lix p1) (isLi_lt (isLi_lix p1))) dX0_numberOfLine_86 ?_
            exact w_iret hx hb hr hlocks hW hS ⟨rfl, hw⟩ dX0_numberOfLine_89
          · have hw := hw.2 c_8
            by_cases c_9 : p2 = 5
            · have hw := hw.1 c_9
              refine lv_tableIn (tgt := 90) hx hb dX0_numberOfLine_7 (by rw [c_9]; decide) (by rw [c_9]; decide) (by rw [c_9] <;> rfl) (by decide) ?_
              refine lv_aload_n hx hb dX0_numberOfLine_90 rfl (lv_at hl 0 rfl) ?_
              refine g_X0_214 hx hb hown hts hK hW (HB.2.2.2.2.1 _ (isLi_lix p1)) (hX (lix p1) (isLi_lt (isLi_lix p1))) dX0_numberOfLine_91 ?_
              exact w_iret hx hb hr hlocks hW hS ⟨rfl, hw⟩ dX0_numberOfLine_94
            · have hw := hw.2 c_9
              by_cases c_10 : p2 = 6
              · have hw := hw.1 c_10
                refine lv_tableIn (tgt := 95) hx hb dX0_numberOfLine_7 (by rw [c_10]; decide) (by rw [c_10]; decide) (by rw [c_10] <;> rfl) (by decide) ?_
                refine lv_aload_n hx hb dX0_numberOfLine_95 rfl (lv_at hl 0 rfl) ?_
                refine g_X0_109 hx hb hown hts hK hW (HB.2.2.2.2.1 _ (isLi_lix p1)) (hX (lix p1) (isLi_lt (isLi_lix p1))) dX0_numberOfLine_96 ?_
                exact w_iret hx hb hr hlocks hW hS ⟨rfl, hw⟩ dX0_numberOfLine_99
              · have hw := hw.2 c_10
                by_cases c_11 : p2 = 7
                · have hw := hw.1 c_11
                  refine lv_tableIn (tgt := 100) hx hb dX0_numberOfLine_7 (by rw [c_11]; decide) (by rw [c_11]; decide) (by rw [c_11] <;> rfl) (by decide) ?_
                  refine lv_aload_n hx hb dX0_numberOfLine_100 rfl (lv_at hl 1 rfl) ?_
                  refine lv_aload_n hx hb dX0_numberOfLine_101 rfl (lv_at hl 0 rfl) ?_
                  refine w_cvi (As := [.ref (o + lix p1)]) (rest := []) hx hb hml hown hts hK hW hS hl.1 (c_X0_placeOf hA HB hX (isLi_lix p1) hw) (k_X0_252 hts ⟨Nat.le_of_ble_eq_true rfl, Nat.le_of_ble_eq_true rfl⟩) (w_recv hK hW HB.1 (hX 0 (by decide)) rfl rfl) rfl rfl (Nat.le_of_ble_eq_true rfl) dX0_numberOfLine_102 ⟨Nat.zero_le _, Nat.zero_le _⟩ (fun r_12 Ez H locs hw2 hW hS => ?_)
                  obtain ⟨ez, hw⟩ := hw2
                  rw [ez] at hW
                  exact w_iret hx hb hr hlocks hW hS ⟨rfl, hw⟩ dX0_numberOfLine_105
                · have hw := hw.2 c_11
                  by_cases c_13 : p2 = 8
                  · have hw := hw.1 c_13
                    refine lv_tableIn (tgt := 106) hx hb dX0_numberOfLine_7 (by rw [c_13]; decide) (by rw [c_13]; decide) (by rw [c_13] <;> rfl) (by decide) ?_
                    refine lv_aload_n hx hb dX0_numberOfLine_106 rfl (lv_at hl 0 rfl) ?_
                    refine g_X0_255 hx hb hown hts hK hW (HB.2.2.2.2.1 _ (isLi_lix p1)) (hX (lix p1) (isLi_lt (isLi_lix p1))) dX0_numberOfLine_107 ?_
                    exact w_iret hx hb hr hlocks hW hS ⟨rfl, hw⟩ dX0_numberOfLine_110
                  · have hw := hw.2 c_13
                    refine lv_tableOut (tgt := 111) hx hb dX0_numberOfLine_7 (by have zc_2 := lv_neT (a := 0) c_2 rfl; have zc_3 := lv_neT (a := 1) c_3 rfl; have zc_5 := lv_neT (a := 2) c_5 rfl; have zc_6 := lv_neT (a := 3) c_6 rfl; have zc_8 := lv_neT (a := 4) c_8 rfl; have zc_9 := lv_neT (a := 5) c_9 rfl; have zc_10 := lv_neT (a := 6) c_10 rfl; have zc_11 := lv_neT (a := 7) c_11 rfl; have zc_13 := lv_neT (a := 8) c_13 rfl; omega) (by decide) ?_
                    refine lv_bipush (v := (-2)) hx hb dX0_numberOfLine_111 (by decide) ?_
                    exact w_iret hx hb hr hlocks hW hS ⟨rfl, hw⟩ dX0_numberOfLine_113
set_option maxHeartbeats 4000000 in
set_option maxRecDepth 100000 in
theorem c_X0_traceFrom {l : Launch} {g : GG} {lay : LY} {E0 : ES} {o : Nat} {X : ES} {p1 : Int32} {p2 : Int32} {K : Int32 → Prop} (hA : okL g lay) (HB : XL g lay o) (hX : ∀ k, k < 26 → E0 (o + k) = X k) (hw : wp_X0_traceFrom X p1 p2 K) : JMi l g lay yX0_traceFrom wsX0_traceFrom rmX0_traceFrom [.ref o, .int p1, .int p2] E0 (fun r E1 => E1 = E0 ∧ K r) := by
  refine Met.ofW (cc := cX0_traceFrom) (maxL := 5) (ret := (some .int)) (by decide) rfl ?_
  intro p e s m args below meth c s₁ B hml hv
  obtain ⟨rfl, hK, hW⟩ := hv
  have hx := B.exec
  have hb := B.bytes
  have hr := B.returns
  have hts := gd_of (atoms_spec (ws := wsX0_traceFrom) B.pre)
  have hown : s.vm.findClass RX0 = some m.cls := findClass_of_methodNamed B.named
  have hlocks := B.notSynchronized
  have hS : va_S (Ab g) s.heap s.heap [] := va_S.rf
  have hl := lv_entry [.ref o, .int p1, .int p2] (n := 5) (Nat.le_of_ble_eq_true rfl)
  rw [lg_entry_eq]
  generalize (lg_sl [.ref o, .int p1, .int p2] ++ List.replicate (5 - (lg_sl [.ref o, .int p1, .int p2]).length) Slot.unset).toArray = ls at hl ⊢
  have hl : lv_has ls 5 [(0, .ref o), (1, .int p1), (2, .int p2)] := hl
  unfold wp_X0_traceFrom at hw
  refine lv_aload_n hx hb dX0_traceFrom_0 rfl (lv_at hl 0 rfl) ?_
  refine lv_iload_n hx hb dX0_traceFrom_1 rfl (lv_at hl 1 rfl) ?_
  refine w_cvr (As := [.int p1]) (rest := []) hx hb hml hown hts hK hW hS hl.1 (c_X0_lineAt hA HB p1) (k_X0_83 hts ⟨Nat.le_of_ble_eq_true rfl, Nat.le_of_ble_eq_true rfl⟩) (w_recv hK hW HB.1 (hX 0 (by decide)) rfl rfl) rfl rfl (Nat.le_of_ble_eq_true rfl) dX0_traceFrom_2 ⟨Nat.zero_le _, Nat.zero_le _⟩ (fun q_1 Ez H locs hw2 hW hS => ?_)
  obtain ⟨ez, rfl⟩ := hw2
  rw [ez] at hW
  refine lv_astore_n (lv' := [(3, .ref (o + lix p1)), (0, .ref o), (1, .int p1), (2, .int p2)]) hx hb dX0_traceFrom_5 rfl hl (by decide) rfl (fun ls hl => ?_)
  refine lv_aload_n hx hb dX0_traceFrom_6 rfl (lv_at hl 0 rfl) ?_
  refine w_cvi (As := []) (rest := []) hx hb hml hown hts hK hW hS hl.1 (c_X2_isCalledByAnother hA (HB.2.2.2.2.1 _ (isLi_lix p1)) (hX (lix p1) (isLi_lt (isLi_lix p1))) hw) (k_X0_115 hts ⟨Nat.le_of_ble_eq_true rfl, Nat.le_of_ble_eq_true rfl⟩) (w_recv hK hW (HB.2.2.2.2.1 _ (isLi_lix p1)) (hX (lix p1) (isLi_lt (isLi_lix p1))) rfl rfl) rfl rfl (Nat.le_of_ble_eq_true rfl) dX0_traceFrom_7 ⟨Nat.zero_le _, Nat.zero_le _⟩ (fun r_2 Ez H locs hw2 hW hS => ?_)
  obtain ⟨ez, z_3, hw⟩ := hw2
  rw [ez] at hW
  refine lv_if_ne (tgt := 16) hx hb dX0_traceFrom_10 (by decide) (fun c_4 => ?_) (fun c_4 => ?_)
  · have hw := hw.2 c_4
    refine lv_iload_n hx hb dX0_traceFrom_16 rfl (lv_at hl 3 rfl) ?_
    refine lv_iconst (v := 1) hx hb dX0_traceFrom_17 (by decide) ?_
    refine lv_icmp_ne (tgt := 26) hx hb dX0_traceFrom_18 (by decide) (fun c_5 => ?_) (fun c_5 => ?_)
    · have hw := hw.2 c_5
      refine lv_aload_n hx hb dX0_traceFrom_26 rfl (lv_at hl 1 rfl) ?_
      refine lv_aload_n hx hb dX0_traceFrom_27 rfl (lv_at hl 0 rfl) ?_
      refine g_X0_119 hx hb hown hts hK hW (HB.2.2.2.2.1 _ (isLi_lix p1)) (hX (lix p1) (isLi_lt (isLi_lix p1))) dX0_traceFrom_28 ?_
      refine w_cvr (As := [.int ((X (lix p1)) 6)]) (rest := []) hx hb hml hown hts hK hW hS hl.1 (c_X0_finderAt hA HB ((X (lix p1)) 6)) (k_X0_90 hts ⟨Nat.le_of_ble_eq_true rfl, Nat.le_of_ble_eq_true rfl⟩) (w_recv hK hW HB.1 (hX 0 (by decide)) rfl rfl) rfl rfl (Nat.le_of_ble_eq_true rfl) dX0_traceFrom_31 ⟨Nat.zero_le _, Nat.zero_le _⟩ (fun q_6 Ez H locs hw2 hW hS => ?_)
      obtain ⟨ez, rfl⟩ := hw2
      rw [ez] at hW
      refine lv_astore (lv' := [(4, .ref (o + fix ((X (lix p1)) 6))), (3, .ref (o + lix p1)), (0, .ref o), (1, .int p1), (2, .int p2)]) hx hb dX0_traceFrom_34 hl (by decide) rfl (fun ls hl => ?_)
      refine lv_iload_n hx hb dX0_traceFrom_36 rfl (lv_at hl 4 rfl) ?_
      refine lv_if_ne (tgt := 48) hx hb dX0_traceFrom_37 (by decide) (fun c_7 => ?_) (fun c_7 => ?_)
      · have hw := hw.2 c_7
        refine lv_aload hx hb dX0_traceFrom_48 (lv_at hl 0 rfl) ?_
        refine g_X0_151 hx hb hown hts hK hW (HB.2.2.2.2.2 _ (isFi_fix ((X (lix p1)) 6))) (hX (fix ((X (lix p1)) 6)) (isFi_lt (isFi_fix ((X (lix p1)) 6)))) dX0_traceFrom_50 ?_
        exact w_iret hx hb hr hlocks hW hS ⟨rfl, hw⟩ dX0_traceFrom_53
      · have hw := hw.1 c_7
        refine lv_aload hx hb dX0_traceFrom_40 (lv_at hl 0 rfl) ?_
        refine g_X0_204 hx hb hown hts hK hW (HB.2.2.2.2.2 _ (isFi_fix ((X (lix p1)) 6))) (hX (fix ((X (lix p1)) 6)) (isFi_lt (isFi_fix ((X (lix p1)) 6)))) dX0_traceFrom_42 ?_
        refine lv_goto (tgt := 53) hx hb dX0_traceFrom_45 (by decide) ?_
        exact w_iret hx hb hr hlocks hW hS ⟨rfl, hw⟩ dX0_traceFrom_53
    · have hw := hw.1 c_5
      refine lv_aload_n hx hb dX0_traceFrom_21 rfl (lv_at hl 0 rfl) ?_
      refine g_X0_119 hx hb hown hts hK hW (HB.2.2.2.2.1 _ (isLi_lix p1)) (hX (lix p1) (isLi_lt (isLi_lix p1))) dX0_traceFrom_22 ?_
      exact w_iret hx hb hr hlocks hW hS ⟨rfl, hw⟩ dX0_traceFrom_25
  · have hw := hw.1 c_4
    refine lv_bipush (v := (-6)) hx hb dX0_traceFrom_13 (by decide) ?_
    exact w_iret hx hb hr hlocks hW hS ⟨rfl, hw⟩ dX0_traceFrom_15
set_option maxHeartbeats 4000000 in
set_option maxRecDepth 100000 in
theorem c_X0_freeFinders {l : Launch} {g : GG} {lay : LY} {E0 : ES} {o : Nat} {X : ES} {K : Int32 → Prop} (hA : okL g lay) (HB : XL g lay o) (hX : ∀ k, k < 26 → E0 (o + k) = X k) (hw : wp_X0_freeFinders X K) : JMi l g lay yX0_freeFinders wsX0_freeFinders rmX0_freeFinders [.ref o] E0 (fun r E1 => E1 = E0 ∧ K r) := by
  refine Met.ofW (cc := cX0_freeFinders) (maxL := 3) (ret := (some .int)) (by decide) rfl ?_
  intro p e s m args below meth c s₁ B hml hv
  obtain ⟨rfl, hK, hW⟩ := hv
  have hx := B.exec
  have hb := B.bytes
  have hr := B.returns
  have hts := gd_of (atoms_spec (ws := wsX0_freeFinders) B.pre)
  have hown : s.vm.findClass RX0 = some m.cls := findClass_of_methodNamed B.named
  have hlocks := B.notSynchronized
  have hS : va_S (Ab g) s.heap s.heap [] := va_S.rf
  have hl := lv_entry [.ref o] (n := 3) (Nat.le_of_ble_eq_true rfl)
  rw [lg_entry_eq]
  generalize (lg_sl [.ref o] ++ List.replicate (3 - (lg_sl [.ref o]).length) Slot.unset).toArray = ls at hl ⊢
  have hl : lv_has ls 3 [(0, .ref o)] := hl
  unfold wp_X0_freeFinders at hw
  refine lv_iconst (v := 0) hx hb dX0_freeFinders_0 (by decide) ?_
  refine lv_istore_n (lv' := [(1, .int 0), (0, .ref o)]) hx hb dX0_freeFinders_1 rfl hl (by decide) rfl (fun ls hl => ?_)
  refine lv_iconst (v := 0) hx hb dX0_freeFinders_2 (by decide) ?_
  refine lv_istore_n (lv' := [(2, .int 0), (1, .int 0), (0, .ref o)]) hx hb dX0_freeFinders_3 rfl hl (by decide) rfl (fun ls hl => ?_)
  obtain ⟨n_17, hw⟩ := hw
  refine w_loop (KT := Int32 → Int32 → Prop) (σ := Int32 × Int32) (Wl := fun Kx_4 n_4 q => wpl_X0_freeFinders_4 X K Kx_4 n_4 q.1 q.2) (Pw := fun q => Wd g lay (E0)) (lvf := fun q => [(0, .ref o), (1, .int q.1), (2, .int q.2)]) (nL := 3) n_17 (0, 0) hw hW hS (lv_sub hl [2, 1, 0] rfl) (fun _ h => h) (fun Kx_4 eK_4 n_4 q H locs ls hw hW hS hl ih_4 => ?_)
  obtain ⟨i_1, i_2⟩ := q
  try dsimp only at hw
  rw [wpl_X0_freeFinders_4] at hw
  have hl : lv_has ls 3 [(0, .ref o), (1, .int i_1), (2, .int i_2)] := hl
  have hW : Wd g lay (E0) H := hW
  refine lv_iload_n hx hb dX0_freeFinders_4 rfl (lv_at hl 2 rfl) ?_
  refine lv_aload_n hx hb dX0_freeFinders_5 rfl (lv_at hl 0 rfl) ?_
  refine g_X0_45 hx hb hown hts hK hW HB.1 (hX 0 (by decide)) dX0_freeFinders_6 ?_
  refine lv_icmp_ge (tgt := 32) hx hb dX0_freeFinders_9 (by decide) (fun c_11 => ?_) (fun c_11 => ?_)
  · have hw := hw.1 c_11
    rw [eK_4] at hw
    refine lv_iload_n hx hb dX0_freeFinders_32 rfl (lv_at hl 1 rfl) ?_
    exact w_iret hx hb hr hlocks hW hS ⟨rfl, hw⟩ dX0_freeFinders_33
  · have hw := hw.2 c_11
    refine lv_aload_n hx hb dX0_freeFinders_12 rfl (lv_at hl 0 rfl) ?_
    refine lv_iload_n hx hb dX0_freeFinders_13 rfl (lv_at hl 2 rfl) ?_
    refine w_cvr (As := [.int i_2]) (rest := []) hx hb hml hown hts hK hW hS hl.1 (c_X0_finderAt hA HB i_2) (k_X0_90 hts ⟨Nat.le_of_ble_eq_true rfl, Nat.le_of_ble_eq_true rfl⟩) (w_recv hK hW HB.1 (hX 0 (by decide)) rfl rfl) rfl rfl (Nat.le_of_ble_eq_true rfl) dX0_freeFinders_14 ⟨Nat.zero_le _, Nat.zero_le _⟩ (fun q_12 Ez H locs hw2 hW hS => ?_)
    obtain ⟨ez, rfl⟩ := hw2
    rw [ez] at hW
    refine g_X0_154 hx hb hown hts hK hW (HB.2.2.2.2.2 _ (isFi_fix i_2)) (hX (fix i_2) (isFi_lt (isFi_fix i_2))) dX0_freeFinders_17 ?_
    refine lv_if_ne (tgt := 26) hx hb dX0_freeFinders_20 (by decide) (fun c_13 => ?_) (fun c_13 => ?_)
    · have hw := hw.2 c_13
      obtain ⟨v_14, ev_14⟩ : ∃ z : Int32, z = i_2 + 1 := ⟨_, rfl⟩
      have hw := hw v_14 ev_14
      refine lv_iinc (v := v_14) (lv' := [(2, .int v_14), (0, .ref o), (1, .int i_1)]) hx hb dX0_freeFinders_26 hl (k := 2) rfl (by rw [ev_14]; rfl) (by decide) rfl (fun ls hl => ?_)
      refine lv_goto (tgt := 4) hx hb dX0_freeFinders_29 (by decide) ?_
      exact ih_4 (i_1, v_14) _ _ _ hw hW hS (lv_sub hl [1, 2, 0] rfl)
    · have hw := hw.1 c_13
      obtain ⟨v_15, ev_15⟩ : ∃ z : Int32, z = i_1 + 1 := ⟨_, rfl⟩
      have hw := hw v_15 ev_15
      refine lv_iinc (v := v_15) (lv' := [(1, .int v_15), (0, .ref o), (2, .int i_2)]) hx hb dX0_freeFinders_23 hl (k := 1) rfl (by rw [ev_15]; rfl) (by decide) rfl (fun ls hl => ?_)
      obtain ⟨v_16, ev_16⟩ : ∃ z : Int32, z = i_2 + 1 := ⟨_, rfl⟩
      have hw := hw v_16 ev_16
      refine lv_iinc (v := v_16) (lv' := [(2, .int v_16), (1, .int v_15), (0, .ref o)]) hx hb dX0_freeFinders_26 hl (k := 2) rfl (by rw [ev_16]; rfl) (by decide) rfl (fun ls hl => ?_)
      refine lv_goto (tgt := 4) hx hb dX0_freeFinders_29 (by decide) ?_
      exact ih_4 (v_15, v_16) _ _ _ hw hW hS (lv_sub hl [2, 1, 0] rfl)
set_option maxHeartbeats 4000000 in
set_option maxRecDepth 100000 in
theorem c_X0_freeConnectors {l : Launch} {g : GG} {lay : LY} {E0 : ES} {o : Nat} {X : ES} {K : Int32 → Prop} (hA : okL g lay) (HB : XL g lay o) (hX : ∀ k, k < 26 → E0 (o + k) = X k) (hw : wp_X0_freeConnectors X K) : JMi l g lay yX0_freeConnectors wsX0_freeConnectors rmX0_freeConnectors [.ref o] E0 (fun r E1 => E1 = E0 ∧ K r) := by
  refine Met.ofW (cc := cX0_freeConnectors) (maxL := 3) (ret := (some .int)) (by decide) rfl ?_
  intro p e s m args below meth c s₁ B hml hv
  obtain ⟨rfl, hK, hW⟩ := hv
  have hx := B.exec
  have hb := B.bytes
  have hr := B.returns
  have hts := gd_of (atoms_spec (ws := wsX0_freeConnectors) B.pre)
  have hown : s.vm.findClass RX0 = some m.cls := findClass_of_methodNamed B.named
  have hlocks := B.notSynchronized
  have hS : va_S (Ab g) s.heap s.heap [] := va_S.rf
  have hl := lv_entry [.ref o] (n := 3) (Nat.le_of_ble_eq_true rfl)
  rw [lg_entry_eq]
  generalize (lg_sl [.ref o] ++ List.replicate (3 - (lg_sl [.ref o]).length) Slot.unset).toArray = ls at hl ⊢
  have hl : lv_has ls 3 [(0, .ref o)] := hl
  unfold wp_X0_freeConnectors at hw
  refine lv_iconst (v := 4) hx hb dX0_freeConnectors_0 (by decide) ?_
  refine lv_aload_n hx hb dX0_freeConnectors_1 rfl (lv_at hl 0 rfl) ?_
  refine g_X0_49 hx hb hown hts hK hW HB.1 (hX 0 (by decide)) dX0_freeConnectors_2 ?_
  refine lv_imul hx hb dX0_freeConnectors_5 ?_
  refine lv_topi (fun v_1 ev_1 => ?_)
  have hw := hw v_1 ev_1
  refine lv_istore_n (lv' := [(1, .int v_1), (0, .ref o)]) hx hb dX0_freeConnectors_6 rfl hl (by decide) rfl (fun ls hl => ?_)
  refine lv_iconst (v := 0) hx hb dX0_freeConnectors_7 (by decide) ?_
  refine lv_istore_n (lv' := [(2, .int 0), (1, .int v_1), (0, .ref o)]) hx hb dX0_freeConnectors_8 rfl hl (by decide) rfl (fun ls hl => ?_)
  obtain ⟨n_22, hw⟩ := hw
  refine w_loop (KT := Int32 → Int32 → Prop) (σ := Int32 × Int32) (Wl := fun Kx_9 n_9 q => wpl_X0_freeConnectors_9 X K Kx_9 n_9 q.1 q.2) (Pw := fun q => Wd g lay (E0)) (lvf := fun q => [(0, .ref o), (1, .int q.1), (2, .int q.2)]) (nL := 3) n_22 (v_1, 0) hw hW hS (lv_sub hl [2, 1, 0] rfl) (fun _ h => h) (fun Kx_9 eK_9 n_9 q H locs ls hw hW hS hl ih_9 => ?_)
  obtain ⟨i_2, i_3⟩ := q
  try dsimp only at hw
  rw [wpl_X0_freeConnectors_9] at hw
  have hl : lv_has ls 3 [(0, .ref o), (1, .int i_2), (2, .int i_3)] := hl
  have hW : Wd g lay (E0) H := hW
  refine lv_iload_n hx hb dX0_freeConnectors_9 rfl (lv_at hl 2 rfl) ?_
  refine lv_aload_n hx hb dX0_freeConnectors_10 rfl (lv_at hl 0 rfl) ?_
  refine g_X0_45 hx hb hown hts hK hW HB.1 (hX 0 (by decide)) dX0_freeConnectors_11 ?_
  refine lv_icmp_ge (tgt := 37) hx hb dX0_freeConnectors_14 (by decide) (fun c_14 => ?_) (fun c_14 => ?_)
  · have hw := hw.1 c_14
    rw [eK_9] at hw
    refine lv_iload_n hx hb dX0_freeConnectors_37 rfl (lv_at hl 1 rfl) ?_
    exact w_iret hx hb hr hlocks hW hS ⟨rfl, hw⟩ dX0_freeConnectors_38
  · have hw := hw.2 c_14
    refine lv_aload_n hx hb dX0_freeConnectors_17 rfl (lv_at hl 0 rfl) ?_
    refine lv_iload_n hx hb dX0_freeConnectors_18 rfl (lv_at hl 2 rfl) ?_
    refine w_cvr (As := [.int i_3]) (rest := []) hx hb hml hown hts hK hW hS hl.1 (c_X0_finderAt hA HB i_3) (k_X0_90 hts ⟨Nat.le_of_ble_eq_true rfl, Nat.le_of_ble_eq_true rfl⟩) (w_recv hK hW HB.1 (hX 0 (by decide)) rfl rfl) rfl rfl (Nat.le_of_ble_eq_true rfl) dX0_freeConnectors_19 ⟨Nat.zero_le _, Nat.zero_le _⟩ (fun q_15 Ez H locs hw2 hW hS => ?_)
    obtain ⟨ez, rfl⟩ := hw2
    rw [ez] at hW
    refine w_cvi (As := []) (rest := []) hx hb hml hown hts hK hW hS hl.1 (c_X1_holdsConnector hA (HB.2.2.2.2.2 _ (isFi_fix i_3)) (hX (fix i_3) (isFi_lt (isFi_fix i_3))) hw) (k_X0_232 hts ⟨Nat.le_of_ble_eq_true rfl, Nat.le_of_ble_eq_true rfl⟩) (w_recv hK hW (HB.2.2.2.2.2 _ (isFi_fix i_3)) (hX (fix i_3) (isFi_lt (isFi_fix i_3))) rfl rfl) rfl rfl (Nat.le_of_ble_eq_true rfl) dX0_freeConnectors_22 ⟨Nat.zero_le _, Nat.zero_le _⟩ (fun r_16 Ez H locs hw2 hW hS => ?_)
    obtain ⟨ez, z_17, hw⟩ := hw2
    rw [ez] at hW
    refine lv_if_eq (tgt := 31) hx hb dX0_freeConnectors_25 (by decide) (fun c_18 => ?_) (fun c_18 => ?_)
    · have hw := hw.1 c_18
      obtain ⟨v_19, ev_19⟩ : ∃ z : Int32, z = i_3 + 1 := ⟨_, rfl⟩
      have hw := hw v_19 ev_19
      refine lv_iinc (v := v_19) (lv' := [(2, .int v_19), (0, .ref o), (1, .int i_2)]) hx hb dX0_freeConnectors_31 hl (k := 2) rfl (by rw [ev_19]; rfl) (by decide) rfl (fun ls hl => ?_)
      refine lv_goto (tgt := 9) hx hb dX0_freeConnectors_34 (by decide) ?_
      exact ih_9 (i_2, v_19) _ _ _ hw hW hS (lv_sub hl [1, 2, 0] rfl)
    · have hw := hw.2 c_18
      obtain ⟨v_20, ev_20⟩ : ∃ z : Int32, z = i_2 + (-1) := ⟨_, rfl⟩
      have hw := hw v_20 ev_20
      refine lv_iinc (v := v_20) (lv' := [(1, .int v_20), (0, .ref o), (2, .int i_3)]) hx hb dX0_freeConnectors_28 hl (k := 1) rfl (by rw [ev_20]; rfl) (by decide) rfl (fun ls hl => ?_)
      obtain ⟨v_21, ev_21⟩ : ∃ z : Int32, z = i_3 + 1 := ⟨_, rfl⟩
      have hw := hw v_21 ev_21
      refine lv_iinc (v := v_21) (lv' := [(2, .int v_21), (1, .int v_20), (0, .ref o)]) hx hb dX0_freeConnectors_31 hl (k := 2) rfl (by rw [ev_21]; rfl) (by decide) rfl (fun ls hl => ?_)
      refine lv_goto (tgt := 9) hx hb dX0_freeConnectors_34 (by decide) ?_
      exact ih_9 (v_20, v_21) _ _ _ hw hW hS (lv_sub hl [2, 1, 0] rfl)
set_option maxHeartbeats 4000000 in
set_option maxRecDepth 100000 in
theorem c_X0_sumOfMeters {l : Launch} {g : GG} {lay : LY} {E0 : ES} {o : Nat} {X : ES} {K : Int32 → Prop} (hA : okL g lay) (HB : XL g lay o) (hX : ∀ k, k < 26 → E0 (o + k) = X k) (hw : wp_X0_sumOfMeters X K) : JMi l g lay yX0_sumOfMeters wsX0_sumOfMeters rmX0_sumOfMeters [.ref o] E0 (fun r E1 => E1 = E0 ∧ K r) := by
  refine Met.ofW (cc := cX0_sumOfMeters) (maxL := 3) (ret := (some .int)) (by decide) rfl ?_
  intro p e s m args below meth c s₁ B hml hv
  obtain ⟨rfl, hK, hW⟩ := hv
  have hx := B.exec
  have hb := B.bytes
  have hr := B.returns
  have hts := gd_of (atoms_spec (ws := wsX0_sumOfMeters) B.pre)
  have hown : s.vm.findClass RX0 = some m.cls := findClass_of_methodNamed B.named
  have hlocks := B.notSynchronized
  have hS : va_S (Ab g) s.heap s.heap [] := va_S.rf
  have hl := lv_entry [.ref o] (n := 3) (Nat.le_of_ble_eq_true rfl)
  rw [lg_entry_eq]
  generalize (lg_sl [.ref o] ++ List.replicate (3 - (lg_sl [.ref o]).length) Slot.unset).toArray = ls at hl ⊢
  have hl : lv_has ls 3 [(0, .ref o)] := hl
  unfold wp_X0_sumOfMeters at hw
  refine lv_iconst (v := 0) hx hb dX0_sumOfMeters_0 (by decide) ?_
  refine lv_istore_n (lv' := [(1, .int 0), (0, .ref o)]) hx hb dX0_sumOfMeters_1 rfl hl (by decide) rfl (fun ls hl => ?_)
  refine lv_iconst (v := 0) hx hb dX0_sumOfMeters_2 (by decide) ?_
  refine lv_istore_n (lv' := [(2, .int 0), (1, .int 0), (0, .ref o)]) hx hb dX0_sumOfMeters_3 rfl hl (by decide) rfl (fun ls hl => ?_)
  obtain ⟨n_13, hw⟩ := hw
  refine w_loop (KT := Int32 → Int32 → Prop) (σ := Int32 × Int32) (Wl := fun Kx_4 n_4 q => wpl_X0_sumOfMeters_4 X K Kx_4 n_4 q.1 q.2) (Pw := fun q => Wd g lay (E0)) (lvf := fun q => [(0, .ref o), (1, .int q.1), (2, .int q.2)]) (nL := 3) n_13 (0, 0) hw hW hS (lv_sub hl [2, 1, 0] rfl) (fun _ h => h) (fun Kx_4 eK_4 n_4 q H locs ls hw hW hS hl ih_4 => ?_)
  obtain ⟨i_1, i_2⟩ := q
  try dsimp only at hw
  rw [wpl_X0_sumOfMeters_4] at hw
  have hl : lv_has ls 3 [(0, .ref o), (1, .int i_1), (2, .int i_2)] := hl
  have hW : Wd g lay (E0) H := hW
  refine lv_iload_n hx hb dX0_sumOfMeters_4 rfl (lv_at hl 2 rfl) ?_
  refine lv_bipush (v := 16) hx hb dX0_sumOfMeters_5 (by decide) ?_
  refine lv_icmp_ge (tgt := 27) hx hb dX0_sumOfMeters_7 (by decide) (fun c_9 => ?_) (fun c_9 => ?_)
  · have hw := hw.1 c_9
    rw [eK_4] at hw
    refine lv_iload_n hx hb dX0_sumOfMeters_27 rfl (lv_at hl 1 rfl) ?_
    exact w_iret hx hb hr hlocks hW hS ⟨rfl, hw⟩ dX0_sumOfMeters_28
  · have hw := hw.2 c_9
    refine lv_iload_n hx hb dX0_sumOfMeters_10 rfl (lv_at hl 1 rfl) ?_
    refine lv_aload_n hx hb dX0_sumOfMeters_11 rfl (lv_at hl 0 rfl) ?_
    refine lv_iload_n hx hb dX0_sumOfMeters_12 rfl (lv_at hl 2 rfl) ?_
    refine w_cvr (As := [.int i_2]) (rest := [.int i_1]) hx hb hml hown hts hK hW hS hl.1 (c_X0_lineAt hA HB i_2) (k_X0_83 hts ⟨Nat.le_of_ble_eq_true rfl, Nat.le_of_ble_eq_true rfl⟩) (w_recv hK hW HB.1 (hX 0 (by decide)) rfl rfl) rfl rfl (Nat.le_of_ble_eq_true rfl) dX0_sumOfMeters_13 ⟨Nat.zero_le _, Nat.zero_le _⟩ (fun q_10 Ez H locs hw2 hW hS => ?_)
    obtain ⟨ez, rfl⟩ := hw2
    rw [ez] at hW
    refine g_X0_214 hx hb hown hts hK hW (HB.2.2.2.2.1 _ (isLi_lix i_2)) (hX (lix i_2) (isLi_lt (isLi_lix i_2))) dX0_sumOfMeters_16 ?_
    refine lv_iadd hx hb dX0_sumOfMeters_19 ?_
    refine lv_topi (fun v_11 ev_11 => ?_)
    have hw := hw v_11 ev_11
    refine lv_istore_n (lv' := [(1, .int v_11), (0, .ref o), (2, .int i_2)]) hx hb dX0_sumOfMeters_20 rfl hl (by decide) rfl (fun ls hl => ?_)
    obtain ⟨v_12, ev_12⟩ : ∃ z : Int32, z = i_2 + 1 := ⟨_, rfl⟩
    have hw := hw v_12 ev_12
    refine lv_iinc (v := v_12) (lv' := [(2, .int v_12), (1, .int v_11), (0, .ref o)]) hx hb dX0_sumOfMeters_21 hl (k := 2) rfl (by rw [ev_12]; rfl) (by decide) rfl (fun ls hl => ?_)
    refine lv_goto (tgt := 4) hx hb dX0_sumOfMeters_24 (by decide) ?_
    exact ih_4 (v_11, v_12) _ _ _ hw hW hS (lv_sub hl [2, 1, 0] rfl)
set_option maxHeartbeats 4000000 in
set_option maxRecDepth 100000 in
theorem c_X0_liftedLines {l : Launch} {g : GG} {lay : LY} {E0 : ES} {o : Nat} {X : ES} {K : Int32 → Prop} (hA : okL g lay) (HB : XL g lay o) (hX : ∀ k, k < 26 → E0 (o + k) = X k) (hw : wp_X0_liftedLines X K) : JMi l g lay yX0_liftedLines wsX0_liftedLines rmX0_liftedLines [.ref o] E0 (fun r E1 => E1 = E0 ∧ K r) := by
  refine Met.ofW (cc := cX0_liftedLines) (maxL := 3) (ret := (some .int)) (by decide) rfl ?_
  intro p e s m args below meth c s₁ B hml hv
  obtain ⟨rfl, hK, hW⟩ := hv
  have hx := B.exec
  have hb := B.bytes
  have hr := B.returns
  have hts := gd_of (atoms_spec (ws := wsX0_liftedLines) B.pre)
  have hown : s.vm.findClass RX0 = some m.cls := findClass_of_methodNamed B.named
  have hlocks := B.notSynchronized
  have hS : va_S (Ab g) s.heap s.heap [] := va_S.rf
  have hl := lv_entry [.ref o] (n := 3) (Nat.le_of_ble_eq_true rfl)
  rw [lg_entry_eq]
  generalize (lg_sl [.ref o] ++ List.replicate (3 - (lg_sl [.ref o]).length) Slot.unset).toArray = ls at hl ⊢
  have hl : lv_has ls 3 [(0, .ref o)] := hl
  unfold wp_X0_liftedLines at hw
  refine lv_iconst (v := 0) hx hb dX0_liftedLines_0 (by decide) ?_
  refine lv_istore_n (lv' := [(1, .int 0), (0, .ref o)]) hx hb dX0_liftedLines_1 rfl hl (by decide) rfl (fun ls hl => ?_)
  refine lv_iconst (v := 0) hx hb dX0_liftedLines_2 (by decide) ?_
  refine lv_istore_n (lv' := [(2, .int 0), (1, .int 0), (0, .ref o)]) hx hb dX0_liftedLines_3 rfl hl (by decide) rfl (fun ls hl => ?_)
  obtain ⟨n_17, hw⟩ := hw
  refine w_loop (KT := Int32 → Int32 → Prop) (σ := Int32 × Int32) (Wl := fun Kx_4 n_4 q => wpl_X0_liftedLines_4 X K Kx_4 n_4 q.1 q.2) (Pw := fun q => Wd g lay (E0)) (lvf := fun q => [(0, .ref o), (1, .int q.1), (2, .int q.2)]) (nL := 3) n_17 (0, 0) hw hW hS (lv_sub hl [2, 1, 0] rfl) (fun _ h => h) (fun Kx_4 eK_4 n_4 q H locs ls hw hW hS hl ih_4 => ?_)
  obtain ⟨i_1, i_2⟩ := q
  try dsimp only at hw
  rw [wpl_X0_liftedLines_4] at hw
  have hl : lv_has ls 3 [(0, .ref o), (1, .int i_1), (2, .int i_2)] := hl
  have hW : Wd g lay (E0) H := hW
  refine lv_iload_n hx hb dX0_liftedLines_4 rfl (lv_at hl 2 rfl) ?_
  refine lv_bipush (v := 16) hx hb dX0_liftedLines_5 (by decide) ?_
  refine lv_icmp_ge (tgt := 30) hx hb dX0_liftedLines_7 (by decide) (fun c_11 => ?_) (fun c_11 => ?_)
  · have hw := hw.1 c_11
    rw [eK_4] at hw
    refine lv_iload_n hx hb dX0_liftedLines_30 rfl (lv_at hl 1 rfl) ?_
    exact w_iret hx hb hr hlocks hW hS ⟨rfl, hw⟩ dX0_liftedLines_31
  · have hw := hw.2 c_11
    refine lv_aload_n hx hb dX0_liftedLines_10 rfl (lv_at hl 0 rfl) ?_
    refine lv_iload_n hx hb dX0_liftedLines_11 rfl (lv_at hl 2 rfl) ?_
    refine w_cvr (As := [.int i_2]) (rest := []) hx hb hml hown hts hK hW hS hl.1 (c_X0_lineAt hA HB i_2) (k_X0_83 hts ⟨Nat.le_of_ble_eq_true rfl, Nat.le_of_ble_eq_true rfl⟩) (w_recv hK hW HB.1 (hX 0 (by decide)) rfl rfl) rfl rfl (Nat.le_of_ble_eq_true rfl) dX0_liftedLines_12 ⟨Nat.zero_le _, Nat.zero_le _⟩ (fun q_12 Ez H locs hw2 hW hS => ?_)
    obtain ⟨ez, rfl⟩ := hw2
    rw [ez] at hW
    refine g_X0_102 hx hb hown hts hK hW (HB.2.2.2.2.1 _ (isLi_lix i_2)) (hX (lix i_2) (isLi_lt (isLi_lix i_2))) dX0_liftedLines_15 ?_
    refine lv_if_eq (tgt := 24) hx hb dX0_liftedLines_18 (by decide) (fun c_13 => ?_) (fun c_13 => ?_)
    · have hw := hw.1 c_13
      obtain ⟨v_14, ev_14⟩ : ∃ z : Int32, z = i_2 + 1 := ⟨_, rfl⟩
      have hw := hw v_14 ev_14
      refine lv_iinc (v := v_14) (lv' := [(2, .int v_14), (0, .ref o), (1, .int i_1)]) hx hb dX0_liftedLines_24 hl (k := 2) rfl (by rw [ev_14]; rfl) (by decide) rfl (fun ls hl => ?_)
      refine lv_goto (tgt := 4) hx hb dX0_liftedLines_27 (by decide) ?_
      exact ih_4 (i_1, v_14) _ _ _ hw hW hS (lv_sub hl [1, 2, 0] rfl)
    · have hw := hw.2 c_13
      obtain ⟨v_15, ev_15⟩ : ∃ z : Int32, z = i_1 + 1 := ⟨_, rfl⟩
      have hw := hw v_15 ev_15
      refine lv_iinc (v := v_15) (lv' := [(1, .int v_15), (0, .ref o), (2, .int i_2)]) hx hb dX0_liftedLines_21 hl (k := 1) rfl (by rw [ev_15]; rfl) (by decide) rfl (fun ls hl => ?_)
      obtain ⟨v_16, ev_16⟩ : ∃ z : Int32, z = i_2 + 1 := ⟨_, rfl⟩
      have hw := hw v_16 ev_16
      refine lv_iinc (v := v_16) (lv' := [(2, .int v_16), (1, .int v_15), (0, .ref o)]) hx hb dX0_liftedLines_24 hl (k := 2) rfl (by rw [ev_16]; rfl) (by decide) rfl (fun ls hl => ?_)
      refine lv_goto (tgt := 4) hx hb dX0_liftedLines_27 (by decide) ?_
      exact ih_4 (v_15, v_16) _ _ _ hw hW hS (lv_sub hl [2, 1, 0] rfl)
set_option maxHeartbeats 4000000 in
set_option maxRecDepth 100000 in
theorem c_X0_numberFor {l : Launch} {g : GG} {lay : LY} {E0 : ES} {o : Nat} {X : ES} {p1 : Int32} {K : Int32 → Prop} (hA : okL g lay) (HB : XL g lay o) (hX : ∀ k, k < 26 → E0 (o + k) = X k) (hw : wp_X0_numberFor X p1 K) : JMi l g lay yX0_numberFor wsX0_numberFor rmX0_numberFor [.ref o, .int p1] E0 (fun r E1 => E1 = E0 ∧ K r) := by
  refine Met.ofW (cc := cX0_numberFor) (maxL := 2) (ret := (some .int)) (by decide) rfl ?_
  intro p e s m args below meth c s₁ B hml hv
  obtain ⟨rfl, hK, hW⟩ := hv
  have hx := B.exec
  have hb := B.bytes
  have hr := B.returns
  have hts := gd_of (atoms_spec (ws := wsX0_numberFor) B.pre)
  have hown : s.vm.findClass RX0 = some m.cls := findClass_of_methodNamed B.named
  have hlocks := B.notSynchronized
  have hS : va_S (Ab g) s.heap s.heap [] := va_S.rf
  have hl := lv_entry [.ref o, .int p1] (n := 2) (Nat.le_of_ble_eq_true rfl)
  rw [lg_entry_eq]
  generalize (lg_sl [.ref o, .int p1] ++ List.replicate (2 - (lg_sl [.ref o, .int p1]).length) Slot.unset).toArray = ls at hl ⊢
  have hl : lv_has ls 2 [(0, .ref o), (1, .int p1)] := hl
  unfold wp_X0_numberFor at hw
  refine lv_iload_n hx hb dX0_numberFor_0 rfl (lv_at hl 1 rfl) ?_
  by_cases c_1 : p1 = 0
  · have hw := hw.1 c_1
    refine lv_tableIn (tgt := 72) hx hb dX0_numberFor_1 (by rw [c_1]; decide) (by rw [c_1]; decide) (by rw [c_1] <;> rfl) (by decide) ?_
    refine lv_aload_n hx hb dX0_numberFor_72 rfl (lv_at hl 0 rfl) ?_
    refine g_X0_52 hx hb hown hts hK hW HB.1 (hX 0 (by decide)) dX0_numberFor_73 ?_
    exact w_iret hx hb hr hlocks hW hS ⟨rfl, hw⟩ dX0_numberFor_76
  · have hw := hw.2 c_1
    by_cases c_2 : p1 = 1
    · have hw := hw.1 c_2
      refine lv_tableIn (tgt := 77) hx hb dX0_numberFor_1 (by rw [c_2]; decide) (by rw [c_2]; decide) (by rw [c_2] <;> rfl) (by decide) ?_
      refine lv_aload_n hx hb dX0_numberFor_77 rfl (lv_at hl 0 rfl) ?_
      refine g_X0_45 hx hb hown hts hK hW HB.1 (hX 0 (by decide)) dX0_numberFor_78 ?_
      exact w_iret hx hb hr hlocks hW hS ⟨rfl, hw⟩ dX0_numberFor_81
    · have hw := hw.2 c_2
      by_cases c_3 : p1 = 2
      · have hw := hw.1 c_3
        refine lv_tableIn (tgt := 82) hx hb dX0_numberFor_1 (by rw [c_3]; decide) (by rw [c_3]; decide) (by rw [c_3] <;> rfl) (by decide) ?_
        refine lv_aload_n hx hb dX0_numberFor_82 rfl (lv_at hl 0 rfl) ?_
        refine g_X0_49 hx hb hown hts hK hW HB.1 (hX 0 (by decide)) dX0_numberFor_83 ?_
        exact w_iret hx hb hr hlocks hW hS ⟨rfl, hw⟩ dX0_numberFor_86
      · have hw := hw.2 c_3
        by_cases c_4 : p1 = 3
        · have hw := hw.1 c_4
          refine lv_tableIn (tgt := 87) hx hb dX0_numberFor_1 (by rw [c_4]; decide) (by rw [c_4]; decide) (by rw [c_4] <;> rfl) (by decide) ?_
          refine lv_aload_n hx hb dX0_numberFor_87 rfl (lv_at hl 0 rfl) ?_
          refine w_cvi (As := []) (rest := []) hx hb hml hown hts hK hW hS hl.1 (c_X0_freeFinders hA HB hX  hw) (k_X0_261 hts ⟨Nat.le_of_ble_eq_true rfl, Nat.le_of_ble_eq_true rfl⟩) (w_recv hK hW HB.1 (hX 0 (by decide)) rfl rfl) rfl rfl (Nat.le_of_ble_eq_true rfl) dX0_numberFor_88 ⟨Nat.zero_le _, Nat.zero_le _⟩ (fun r_5 Ez H locs hw2 hW hS => ?_)
          obtain ⟨ez, hw⟩ := hw2
          rw [ez] at hW
          exact w_iret hx hb hr hlocks hW hS ⟨rfl, hw⟩ dX0_numberFor_91
        · have hw := hw.2 c_4
          by_cases c_6 : p1 = 4
          · have hw := hw.1 c_6
            refine lv_tableIn (tgt := 92) hx hb dX0_numberFor_1 (by rw [c_6]; decide) (by rw [c_6]; decide) (by rw [c_6] <;> rfl) (by decide) ?_
            refine lv_aload_n hx hb dX0_numberFor_92 rfl (lv_at hl 0 rfl) ?_
            refine w_cvi (As := []) (rest := []) hx hb hml hown hts hK hW hS hl.1 (c_X0_freeConnectors hA HB hX  hw) (k_X0_264 hts ⟨Nat.le_of_ble_eq_true rfl, Nat.le_of_ble_eq_true rfl⟩) (w_recv hK hW HB.1 (hX 0 (by decide)) rfl rfl) rfl rfl (Nat.le_of_ble_eq_true rfl) dX0_numberFor_93 ⟨Nat.zero_le _, Nat.zero_le _⟩ (fun r_7 Ez H locs hw2 hW hS => ?_)
            obtain ⟨ez, hw⟩ := hw2
            rw [ez] at hW
            exact w_iret hx hb hr hlocks hW hS ⟨rfl, hw⟩ dX0_numberFor_96
          · have hw := hw.2 c_6
            by_cases c_8 : p1 = 5
            · have hw := hw.1 c_8
              refine lv_tableIn (tgt := 97) hx hb dX0_numberFor_1 (by rw [c_8]; decide) (by rw [c_8]; decide) (by rw [c_8] <;> rfl) (by decide) ?_
              refine lv_aload_n hx hb dX0_numberFor_97 rfl (lv_at hl 0 rfl) ?_
              refine w_cvi (As := []) (rest := []) hx hb hml hown hts hK hW hS hl.1 (c_X0_sumOfMeters hA HB hX  hw) (k_X0_267 hts ⟨Nat.le_of_ble_eq_true rfl, Nat.le_of_ble_eq_true rfl⟩) (w_recv hK hW HB.1 (hX 0 (by decide)) rfl rfl) rfl rfl (Nat.le_of_ble_eq_true rfl) dX0_numberFor_98 ⟨Nat.zero_le _, Nat.zero_le _⟩ (fun r_9 Ez H locs hw2 hW hS => ?_)
              obtain ⟨ez, hw⟩ := hw2
              rw [ez] at hW
              exact w_iret hx hb hr hlocks hW hS ⟨rfl, hw⟩ dX0_numberFor_101
            · have hw := hw.2 c_8
              by_cases c_10 : p1 = 6
              · have hw := hw.1 c_10
                refine lv_tableIn (tgt := 102) hx hb dX0_numberFor_1 (by rw [c_10]; decide) (by rw [c_10]; decide) (by rw [c_10] <;> rfl) (by decide) ?_
                refine lv_aload_n hx hb dX0_numberFor_102 rfl (lv_at hl 0 rfl) ?_
                refine g_X0_58 hx hb hown hts hK hW HB.1 (hX 0 (by decide)) dX0_numberFor_103 ?_
                exact w_iret hx hb hr hlocks hW hS ⟨rfl, hw⟩ dX0_numberFor_106
              · have hw := hw.2 c_10
                by_cases c_11 : p1 = 7
                · have hw := hw.1 c_11
                  refine lv_tableIn (tgt := 107) hx hb dX0_numberFor_1 (by rw [c_11]; decide) (by rw [c_11]; decide) (by rw [c_11] <;> rfl) (by decide) ?_
                  refine lv_aload_n hx hb dX0_numberFor_107 rfl (lv_at hl 0 rfl) ?_
                  refine g_X0_61 hx hb hown hts hK hW HB.1 (hX 0 (by decide)) dX0_numberFor_108 ?_
                  exact w_iret hx hb hr hlocks hW hS ⟨rfl, hw⟩ dX0_numberFor_111
                · have hw := hw.2 c_11
                  by_cases c_12 : p1 = 8
                  · have hw := hw.1 c_12
                    refine lv_tableIn (tgt := 112) hx hb dX0_numberFor_1 (by rw [c_12]; decide) (by rw [c_12]; decide) (by rw [c_12] <;> rfl) (by decide) ?_
                    refine lv_aload_n hx hb dX0_numberFor_112 rfl (lv_at hl 0 rfl) ?_
                    refine g_X0_64 hx hb hown hts hK hW HB.1 (hX 0 (by decide)) dX0_numberFor_113 ?_
                    exact w_iret hx hb hr hlocks hW hS ⟨rfl, hw⟩ dX0_numberFor_116
                  · have hw := hw.2 c_12
                    by_cases c_13 : p1 = 9
                    · have hw := hw.1 c_13
                      refine lv_tableIn (tgt := 117) hx hb dX0_numberFor_1 (by rw [c_13]; decide) (by rw [c_13]; decide) (by rw [c_13] <;> rfl) (by decide) ?_
                      refine lv_aload_n hx hb dX0_numberFor_117 rfl (lv_at hl 0 rfl) ?_
                      refine g_X0_67 hx hb hown hts hK hW HB.1 (hX 0 (by decide)) dX0_numberFor_118 ?_
                      exact w_iret hx hb hr hlocks hW hS ⟨rfl, hw⟩ dX0_numberFor_121
                    · have hw := hw.2 c_13
                      by_cases c_14 : p1 = 10
                      · have hw := hw.1 c_14
                        refine lv_tableIn (tgt := 122) hx hb dX0_numberFor_1 (by rw [c_14]; decide) (by rw [c_14]; decide) (by rw [c_14] <;> rfl) (by decide) ?_
                        refine lv_aload_n hx hb dX0_numberFor_122 rfl (lv_at hl 0 rfl) ?_
                        refine g_X0_70 hx hb hown hts hK hW HB.1 (hX 0 (by decide)) dX0_numberFor_123 ?_
                        exact w_iret hx hb hr hlocks hW hS ⟨rfl, hw⟩ dX0_numberFor_126
                      · have hw := hw.2 c_14
                        by_cases c_15 : p1 = 11
                        · have hw := hw.1 c_15
                          refine lv_tableIn (tgt := 127) hx hb dX0_numberFor_1 (by rw [c_15]; decide) (by rw [c_15]; decide) (by rw [c_15] <;> rfl) (by decide) ?_
                          refine lv_aload_n hx hb dX0_numberFor_127 rfl (lv_at hl 0 rfl) ?_
                          refine g_X0_73 hx hb hown hts hK hW HB.1 (hX 0 (by decide)) dX0_numberFor_128 ?_
                          exact w_iret hx hb hr hlocks hW hS ⟨rfl, hw⟩ dX0_numberFor_131
                        · have hw := hw.2 c_15
                          by_cases c_16 : p1 = 12
                          · have hw := hw.1 c_16
                            refine lv_tableIn (tgt := 132) hx hb dX0_numberFor_1 (by rw [c_16]; decide) (by rw [c_16]; decide) (by rw [c_16] <;> rfl) (by decide) ?_
                            refine lv_aload_n hx hb dX0_numberFor_132 rfl (lv_at hl 0 rfl) ?_
                            refine g_X0_76 hx hb hown hts hK hW HB.1 (hX 0 (by decide)) dX0_numberFor_133 ?_
                            exact w_iret hx hb hr hlocks hW hS ⟨rfl, hw⟩ dX0_numberFor_136
                          · have hw := hw.2 c_16
                            by_cases c_17 : p1 = 13
                            · have hw := hw.1 c_17
                              refine lv_tableIn (tgt := 137) hx hb dX0_numberFor_1 (by rw [c_17]; decide) (by rw [c_17]; decide) (by rw [c_17] <;> rfl) (by decide) ?_
                              refine lv_aload_n hx hb dX0_numberFor_137 rfl (lv_at hl 0 rfl) ?_
                              refine w_cvi (As := []) (rest := []) hx hb hml hown hts hK hW hS hl.1 (c_X0_liftedLines hA HB hX  hw) (k_X0_270 hts ⟨Nat.le_of_ble_eq_true rfl, Nat.le_of_ble_eq_true rfl⟩) (w_recv hK hW HB.1 (hX 0 (by decide)) rfl rfl) rfl rfl (Nat.le_of_ble_eq_true rfl) dX0_numberFor_138 ⟨Nat.zero_le _, Nat.zero_le _⟩ (fun r_18 Ez H locs hw2 hW hS => ?_)
                              obtain ⟨ez, hw⟩ := hw2
                              rw [ez] at hW
                              exact w_iret hx hb hr hlocks hW hS ⟨rfl, hw⟩ dX0_numberFor_141
                            · have hw := hw.2 c_17
                              refine lv_tableOut (tgt := 142) hx hb dX0_numberFor_1 (by have zc_1 := lv_neT (a := 0) c_1 rfl; have zc_2 := lv_neT (a := 1) c_2 rfl; have zc_3 := lv_neT (a := 2) c_3 rfl; have zc_4 := lv_neT (a := 3) c_4 rfl; have zc_6 := lv_neT (a := 4) c_6 rfl; have zc_8 := lv_neT (a := 5) c_8 rfl; have zc_10 := lv_neT (a := 6) c_10 rfl; have zc_11 := lv_neT (a := 7) c_11 rfl; have zc_12 := lv_neT (a := 8) c_12 rfl; have zc_13 := lv_neT (a := 9) c_13 rfl; have zc_14 := lv_neT (a := 10) c_14 rfl; have zc_15 := lv_neT (a := 11) c_15 rfl; have zc_16 := lv_neT (a := 12) c_16 rfl; have zc_17 := lv_neT (a := 13) c_17 rfl; omega) (by decide) ?_
                              refine lv_aload_n hx hb dX0_numberFor_142 rfl (lv_at hl 0 rfl) ?_
                              refine lv_iload_n hx hb dX0_numberFor_143 rfl (lv_at hl 1 rfl) ?_
                              refine lv_bipush (v := 15) hx hb dX0_numberFor_144 (by decide) ?_
                              refine lv_isub hx hb dX0_numberFor_146 ?_
                              refine w_cvi (As := [.int (p1 - 15)]) (rest := []) hx hb hml hown hts hK hW hS hl.1 (c_X0_settingAt hA HB hX  hw) (k_X0_79 hts ⟨Nat.le_of_ble_eq_true rfl, Nat.le_of_ble_eq_true rfl⟩) (w_recv hK hW HB.1 (hX 0 (by decide)) rfl rfl) rfl rfl (Nat.le_of_ble_eq_true rfl) dX0_numberFor_147 ⟨Nat.zero_le _, Nat.zero_le _⟩ (fun r_19 Ez H locs hw2 hW hS => ?_)
                              obtain ⟨ez, hw⟩ := hw2
                              rw [ez] at hW
                              exact w_iret hx hb hr hlocks hW hS ⟨rfl, hw⟩ dX0_numberFor_150
