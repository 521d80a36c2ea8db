set_option maxHeartbeats 4000000 in
set_option maxRecDepth 100000 in
theorem c_X5_in {l : Launch} {g : GG} {lay : LY} {E0 : ES} {p1 : Int32} {p2 : Int32} {p3 : Int32} {K : Int32 → Prop} (hw : wp_X5_in p1 p2 p3 K) : JMi l g lay yX5_in wsX5_in rmX5_in [.int p1, .int p2, .int p3] E0 (fun r E1 => E1 = E0 ∧ (r = 0 ∨ r = 1) ∧ K r) := by
  refine Met.ofW (cc := cX5_in) (maxL := 3) (ret := (some .boolean)) (by decide) rfl ?_
  intro p e s m args below meth c s₁ B hml hv
  obtain ⟨rfl, hK, hW⟩ := hv
  have hx := B.exec
  have hb := B.bytes
  have hr := B.returns
  have hts := gd_of (atoms_spec (ws := wsX5_in) B.pre)
  have hown : s.vm.findClass RX5 = some m.cls := findClass_of_methodNamed B.named
  have hlocks := B.notSynchronized
  have hS : va_S (Ab g) s.heap s.heap [] := va_S.rf
  have hl := lv_entry [.int p1, .int p2, .int p3] (n := 3) (Nat.le_of_ble_eq_true rfl)
  rw [lg_entry_eq]
  generalize (lg_sl [.int p1, .int p2, .int p3] ++ List.replicate (3 - (lg_sl [.int p1, .int p2, .int p3]).length) Slot.unset).toArray = ls at hl ⊢
  have hl : lv_has ls 3 [(0, .int p1), (1, .int p2), (2, .int p3)] := hl
  unfold wp_X5_in at hw
  refine lv_iload_n hx hb dX5_in_0 rfl (lv_at hl 0 rfl) ?_
  refine lv_iload_n hx hb dX5_in_1 rfl (lv_at hl 1 rfl) ?_
  refine lv_icmp_lt (tgt := 14) hx hb dX5_in_2 (by decide) (fun c_1 => ?_) (fun c_1 => ?_)
  · have hw := hw.1 c_1
    refine lv_iconst (v := 0) hx hb dX5_in_14 (by decide) ?_
    exact w_zret hx hb hr hlocks hW hS (Or.inl rfl) ⟨rfl, (Or.inl rfl), hw⟩ dX5_in_15
  · have hw := hw.2 c_1
    refine lv_iload_n hx hb dX5_in_5 rfl (lv_at hl 0 rfl) ?_
    refine lv_iload_n hx hb dX5_in_6 rfl (lv_at hl 2 rfl) ?_
    refine lv_icmp_gt (tgt := 14) hx hb dX5_in_7 (by decide) (fun c_2 => ?_) (fun c_2 => ?_)
    · have hw := hw.1 c_2
      refine lv_iconst (v := 0) hx hb dX5_in_14 (by decide) ?_
      exact w_zret hx hb hr hlocks hW hS (Or.inl rfl) ⟨rfl, (Or.inl rfl), hw⟩ dX5_in_15
    · have hw := hw.2 c_2
      refine lv_iconst (v := 1) hx hb dX5_in_10 (by decide) ?_
      refine lv_goto (tgt := 15) hx hb dX5_in_11 (by decide) ?_
      exact w_zret hx hb hr hlocks hW hS (Or.inr rfl) ⟨rfl, (Or.inr rfl), hw⟩ dX5_in_15
set_option maxHeartbeats 4000000 in
set_option maxRecDepth 100000 in
theorem c_X5_ofFinder {l : Launch} {g : GG} {lay : LY} {E0 : ES} {o : Nat} {X : ES} {p1 : Int32} {p2 : Int32} {K : Int32 → Prop} (hA : okL g lay) (HB : ML g lay o) (hX : ∀ k, k < 7 → E0 (o + k) = X k) (hw : wp_X5_ofFinder X p1 p2 K) : JMi l g lay yX5_ofFinder wsX5_ofFinder rmX5_ofFinder [.ref o, .int p1, .int p2] E0 (fun r E1 => E1 = E0 ∧ K r) := by
  refine Met.ofW (cc := cX5_ofFinder) (maxL := 3) (ret := (some .int)) (by decide) rfl ?_
  intro p e s m args below meth c s₁ B hml hv
  obtain ⟨rfl, hK, hW⟩ := hv
  have hx := B.exec
  have hb := B.bytes
  have hr := B.returns
  have hts := gd_of (atoms_spec (ws := wsX5_ofFinder) B.pre)
  have hown : s.vm.findClass RX5 = some m.cls := findClass_of_methodNamed B.named
  have hlocks := B.notSynchronized
  have hS : va_S (Ab g) s.heap s.heap [] := va_S.rf
  have hl := lv_entry [.ref o, .int p1, .int p2] (n := 3) (Nat.le_of_ble_eq_true rfl)
  rw [lg_entry_eq]
  generalize (lg_sl [.ref o, .int p1, .int p2] ++ List.replicate (3 - (lg_sl [.ref o, .int p1, .int p2]).length) Slot.unset).toArray = ls at hl ⊢
  have hl : lv_has ls 3 [(0, .ref o), (1, .int p1), (2, .int p2)] := hl
  unfold wp_X5_ofFinder at hw
  refine lv_aload_n hx hb dX5_ofFinder_0 rfl (lv_at hl 0 rfl) ?_
  refine g_X5_7 hx hb hown hts hK hW HB.1 (hX 0 (by decide)) dX5_ofFinder_1 ?_
  refine lv_sipush (v := 193) hx hb dX5_ofFinder_4 (by decide) ?_
  refine lv_bipush (v := 10) hx hb dX5_ofFinder_7 (by decide) ?_
  refine lv_iload_n hx hb dX5_ofFinder_9 rfl (lv_at hl 1 rfl) ?_
  refine lv_imul hx hb dX5_ofFinder_10 ?_
  refine lv_iadd hx hb dX5_ofFinder_11 ?_
  refine lv_iload_n hx hb dX5_ofFinder_12 rfl (lv_at hl 2 rfl) ?_
  refine lv_iadd hx hb dX5_ofFinder_13 ?_
  obtain ⟨hin, hw⟩ := hw
  refine w_iald hx hb hK hW HB.2.1 (hX 1 (by decide)) hin dX5_ofFinder_14 ?_
  exact w_iret hx hb hr hlocks hW hS ⟨rfl, hw⟩ dX5_ofFinder_15
set_option maxHeartbeats 4000000 in
set_option maxRecDepth 100000 in
theorem c_X5_layFinder {l : Launch} {g : GG} {lay : LY} {E0 : ES} {o : Nat} {X : ES} {p1 : Int32} {p2 : Int32} {p3 : Int32} {K : ES → Prop} (hA : okL g lay) (HB : ML g lay o) (hX : ∀ k, k < 7 → E0 (o + k) = X k) (hw : wp_X5_layFinder X p1 p2 p3 K) : JMv l g lay yX5_layFinder wsX5_layFinder rmX5_layFinder [.ref o, .int p1, .int p2, .int p3] E0 (fun E1 => ∃ X1 : ES, E1 = put 7 o X1 E0 ∧ K X1) := by
  refine Met.ofW (cc := cX5_layFinder) (maxL := 4) (ret := none) (by decide) rfl ?_
  intro p e s m args below meth c s₁ B hml hv
  obtain ⟨rfl, hK, hW⟩ := hv
  have hx := B.exec
  have hb := B.bytes
  have hr := B.returns
  have hts := gd_of (atoms_spec (ws := wsX5_layFinder) B.pre)
  have hown : s.vm.findClass RX5 = some m.cls := findClass_of_methodNamed B.named
  have hlocks := B.notSynchronized
  have hS : va_S (Ab g) s.heap s.heap [] := va_S.rf
  have hW : Wd g lay (put 7 o X E0) s.heap := by rw [putSelf hX]; exact hW
  have hl := lv_entry [.ref o, .int p1, .int p2, .int p3] (n := 4) (Nat.le_of_ble_eq_true rfl)
  rw [lg_entry_eq]
  generalize (lg_sl [.ref o, .int p1, .int p2, .int p3] ++ List.replicate (4 - (lg_sl [.ref o, .int p1, .int p2, .int p3]).length) Slot.unset).toArray = ls at hl ⊢
  have hl : lv_has ls 4 [(0, .ref o), (1, .int p1), (2, .int p2), (3, .int p3)] := hl
  unfold wp_X5_layFinder at hw
  refine lv_aload_n hx hb dX5_layFinder_0 rfl (lv_at hl 0 rfl) ?_
  refine g_X5_7 hx hb hown hts hK hW HB.1 (putAt (k := 0) (by decide)) dX5_layFinder_1 ?_
  refine lv_sipush (v := 193) hx hb dX5_layFinder_4 (by decide) ?_
  refine lv_bipush (v := 10) hx hb dX5_layFinder_7 (by decide) ?_
  refine lv_iload_n hx hb dX5_layFinder_9 rfl (lv_at hl 1 rfl) ?_
  refine lv_imul hx hb dX5_layFinder_10 ?_
  refine lv_iadd hx hb dX5_layFinder_11 ?_
  refine lv_iload_n hx hb dX5_layFinder_12 rfl (lv_at hl 2 rfl) ?_
  refine lv_iadd hx hb dX5_layFinder_13 ?_
  refine lv_iload_n hx hb dX5_layFinder_14 rfl (lv_at hl 3 rfl) ?_
  obtain ⟨hin, hw⟩ := hw
  obtain ⟨X_1, eX_1⟩ : ∃ z : ES, z = va_up X 1 (upd (X 1) ((193 + (10 * p1)) + p2).toNatClampNeg p3) := ⟨_, rfl⟩
  have hw := hw X_1 eX_1
  refine w_iast (E1 := put 7 o X_1 E0) hx hb hK hA hW hS HB.2.1 (putAt (k := 1) (by decide)) hin dX5_layFinder_15 (puE (k := 1) (by decide) eX_1) (fun H locs hW hS => ?_)
  exact w_vret hx hb hr hlocks hW hS ⟨X_1, rfl, hw⟩ dX5_layFinder_16
set_option maxHeartbeats 4000000 in
set_option maxRecDepth 100000 in
theorem c_X5_free {l : Launch} {g : GG} {lay : LY} {E0 : ES} {o : Nat} {X : ES} {p1 : Int32} {K : ES → Prop} (hA : okL g lay) (HB : ML g lay o) (hX : ∀ k, k < 7 → E0 (o + k) = X k) (hw : wp_X5_free X p1 K) : JMv l g lay yX5_free wsX5_free rmX5_free [.ref o, .int p1] E0 (fun E1 => ∃ X1 : ES, E1 = put 7 o X1 E0 ∧ K X1) := by
  refine Met.ofW (cc := cX5_free) (maxL := 4) (ret := none) (by decide) rfl ?_
  intro p e s m args below meth c s₁ B hml hv
  obtain ⟨rfl, hK, hW⟩ := hv
  have hx := B.exec
  have hb := B.bytes
  have hr := B.returns
  have hts := gd_of (atoms_spec (ws := wsX5_free) B.pre)
  have hown : s.vm.findClass RX5 = some m.cls := findClass_of_methodNamed B.named
  have hlocks := B.notSynchronized
  have hS : va_S (Ab g) s.heap s.heap [] := va_S.rf
  have hW : Wd g lay (put 7 o X E0) s.heap := by rw [putSelf hX]; exact hW
  have hl := lv_entry [.ref o, .int p1] (n := 4) (Nat.le_of_ble_eq_true rfl)
  rw [lg_entry_eq]
  generalize (lg_sl [.ref o, .int p1] ++ List.replicate (4 - (lg_sl [.ref o, .int p1]).length) Slot.unset).toArray = ls at hl ⊢
  have hl : lv_has ls 4 [(0, .ref o), (1, .int p1)] := hl
  unfold wp_X5_free at hw
  refine lv_iconst (v := 0) hx hb dX5_free_0 (by decide) ?_
  refine lv_istore_n (lv' := [(2, .int 0), (0, .ref o), (1, .int p1)]) hx hb dX5_free_1 rfl hl (by decide) rfl (fun ls hl => ?_)
  obtain ⟨n_62, hw⟩ := hw
  refine w_loop (KT := Int32 → ES → Prop) (σ := Int32 × ES) (Wl := fun Kx_2 n_2 q => wpl_X5_free_2 p1 K Kx_2 n_2 q.1 q.2) (Pw := fun q => Wd g lay (put 7 o q.2 E0)) (lvf := fun q => [(0, .ref o), (1, .int p1), (2, .int q.1)]) (nL := 4) n_62 (0, X) hw hW hS (lv_sub hl [1, 2, 0] rfl) (fun _ h => h) (fun Kx_2 eK_2 n_2 q H locs ls hw hW hS hl ih_2 => ?_)
  obtain ⟨i_1, X_2⟩ := q
  try dsimp only at hw
  rw [wpl_X5_free_2] at hw
  have hl : lv_has ls 4 [(0, .ref o), (1, .int p1), (2, .int i_1)] := hl
  have hW : Wd g lay (put 7 o X_2 E0) H := hW
  refine lv_iload_n hx hb dX5_free_2 rfl (lv_at hl 2 rfl) ?_
  refine lv_bipush (v := 10) hx hb dX5_free_3 (by decide) ?_
  refine lv_icmp_ge (tgt := 66) hx hb dX5_free_5 (by decide) (fun c_34 => ?_) (fun c_34 => ?_)
  · have hw := hw.1 c_34
    rw [eK_2] at hw
    exact w_vret hx hb hr hlocks hW hS ⟨X_2, rfl, hw⟩ dX5_free_66
  · have hw := hw.2 c_34
    refine lv_iload_n hx hb dX5_free_8 rfl (lv_at hl 2 rfl) ?_
    refine lv_iconst (v := 2) hx hb dX5_free_9 (by decide) ?_
    refine lv_icmp_eq (tgt := 24) hx hb dX5_free_10 (by decide) (fun c_35 => ?_) (fun c_35 => ?_)
    · have hw := hw.1 c_35
      refine lv_iconst (v := 1) hx hb dX5_free_24 (by decide) ?_
      refine lv_goto (tgt := 29) hx hb dX5_free_25 (by decide) ?_
      refine lv_istore_n (lv' := [(3, .int 1), (0, .ref o), (1, .int p1), (2, .int i_1)]) hx hb dX5_free_29 rfl hl (by decide) rfl (fun ls hl => ?_)
      refine lv_aload_n hx hb dX5_free_30 rfl (lv_at hl 1 rfl) ?_
      refine lv_iload_n hx hb dX5_free_31 rfl (lv_at hl 2 rfl) ?_
      refine lv_iload_n hx hb dX5_free_32 rfl (lv_at hl 3 rfl) ?_
      refine lv_iload_n hx hb dX5_free_33 rfl (lv_at hl 3 rfl) ?_
      refine lv_iconst (v := 1) hx hb dX5_free_34 (by decide) ?_
      refine lv_icmp_ne (tgt := 47) hx hb dX5_free_35 (by decide) (fun c_36 => ?_) (fun c_36 => ?_)
      · have hw := hw.2 c_36
        refine lv_iload_n hx hb dX5_free_47 rfl (lv_at hl 0 rfl) ?_
        refine lv_if_eq (tgt := 56) hx hb dX5_free_48 (by decide) (fun cz => absurd cz (by decide)) (fun _ => ?_)
        refine lv_bipush (v := (-6)) hx hb dX5_free_51 (by decide) ?_
        refine lv_goto (tgt := 57) hx hb dX5_free_53 (by decide) ?_
        refine w_cvv (As := [.int p1, .int i_1, .int ((-6))]) (rest := []) hx hb hml hown hts hK hW hS hl.1 (c_X5_layFinder hA HB (fun k hk => putAt hk)  hw) (k_X5_45 hts ⟨Nat.le_of_ble_eq_true rfl, Nat.le_of_ble_eq_true rfl⟩) (w_recv hK hW HB.1 (putAt (k := 0) (by decide)) rfl rfl) rfl rfl (Nat.le_of_ble_eq_true rfl) dX5_free_57 ⟨Nat.zero_le _, Nat.zero_le _⟩ (fun Ez H locs hw2 hW hS => ?_)
        obtain ⟨X_37, ez, hw⟩ := hw2
        rw [ez, putPut] at hW
        obtain ⟨v_38, ev_38⟩ : ∃ z : Int32, z = i_1 + 1 := ⟨_, rfl⟩
        have hw := hw v_38 ev_38
        refine lv_iinc (v := v_38) (lv' := [(2, .int v_38), (3, .int 1), (0, .ref o), (1, .int p1)]) hx hb dX5_free_60 hl (k := 3) rfl (by rw [ev_38]; rfl) (by decide) rfl (fun ls hl => ?_)
        refine lv_goto (tgt := 2) hx hb dX5_free_63 (by decide) ?_
        exact ih_2 (v_38, X_37) _ _ _ hw hW hS (lv_sub hl [2, 3, 0] rfl)
      · have hw := hw.1 c_36
        refine lv_aload_n hx hb dX5_free_38 rfl (lv_at hl 1 rfl) ?_
        refine lv_iload_n hx hb dX5_free_39 rfl (lv_at hl 2 rfl) ?_
        refine lv_iload_n hx hb dX5_free_40 rfl (lv_at hl 3 rfl) ?_
        refine w_cvi (As := [.int p1, .int i_1]) (rest := [.int i_1, .int p1, .ref o]) hx hb hml hown hts hK hW hS hl.1 (c_X5_ofFinder hA HB (fun k hk => putAt hk)  hw) (k_X5_41 hts ⟨Nat.le_of_ble_eq_true rfl, Nat.le_of_ble_eq_true rfl⟩) (w_recv hK hW HB.1 (putAt (k := 0) (by decide)) rfl rfl) rfl rfl (Nat.le_of_ble_eq_true rfl) dX5_free_41 ⟨Nat.zero_le _, Nat.zero_le _⟩ (fun r_39 Ez H locs hw2 hW hS => ?_)
        obtain ⟨ez, hw⟩ := hw2
        rw [ez] at hW
        refine lv_goto (tgt := 57) hx hb dX5_free_44 (by decide) ?_
        refine w_cvv (As := [.int p1, .int i_1, .int r_39]) (rest := []) hx hb hml hown hts hK hW hS hl.1 (c_X5_layFinder hA HB (fun k hk => putAt hk)  hw) (k_X5_45 hts ⟨Nat.le_of_ble_eq_true rfl, Nat.le_of_ble_eq_true rfl⟩) (w_recv hK hW HB.1 (putAt (k := 0) (by decide)) rfl rfl) rfl rfl (Nat.le_of_ble_eq_true rfl) dX5_free_57 ⟨Nat.zero_le _, Nat.zero_le _⟩ (fun Ez H locs hw2 hW hS => ?_)
        obtain ⟨X_40, ez, hw⟩ := hw2
        rw [ez, putPut] at hW
        obtain ⟨v_41, ev_41⟩ : ∃ z : Int32, z = i_1 + 1 := ⟨_, rfl⟩
        have hw := hw v_41 ev_41
        refine lv_iinc (v := v_41) (lv' := [(2, .int v_41), (3, .int 1), (0, .ref o), (1, .int p1)]) hx hb dX5_free_60 hl (k := 3) rfl (by rw [ev_41]; rfl) (by decide) rfl (fun ls hl => ?_)
        refine lv_goto (tgt := 2) hx hb dX5_free_63 (by decide) ?_
        exact ih_2 (v_41, X_40) _ _ _ hw hW hS (lv_sub hl [2, 3, 0] rfl)
    · have hw := hw.2 c_35
      refine lv_iload_n hx hb dX5_free_13 rfl (lv_at hl 2 rfl) ?_
      refine lv_iconst (v := 4) hx hb dX5_free_14 (by decide) ?_
      refine lv_icmp_eq (tgt := 24) hx hb dX5_free_15 (by decide) (fun c_42 => ?_) (fun c_42 => ?_)
      · have hw := hw.1 c_42
        refine lv_iconst (v := 1) hx hb dX5_free_24 (by decide) ?_
        refine lv_goto (tgt := 29) hx hb dX5_free_25 (by decide) ?_
        refine lv_istore_n (lv' := [(3, .int 1), (0, .ref o), (1, .int p1), (2, .int i_1)]) hx hb dX5_free_29 rfl hl (by decide) rfl (fun ls hl => ?_)
        refine lv_aload_n hx hb dX5_free_30 rfl (lv_at hl 1 rfl) ?_
        refine lv_iload_n hx hb dX5_free_31 rfl (lv_at hl 2 rfl) ?_
        refine lv_iload_n hx hb dX5_free_32 rfl (lv_at hl 3 rfl) ?_
        refine lv_iload_n hx hb dX5_free_33 rfl (lv_at hl 3 rfl) ?_
        refine lv_iconst (v := 1) hx hb dX5_free_34 (by decide) ?_
        refine lv_icmp_ne (tgt := 47) hx hb dX5_free_35 (by decide) (fun c_43 => ?_) (fun c_43 => ?_)
        · have hw := hw.2 c_43
          refine lv_iload_n hx hb dX5_free_47 rfl (lv_at hl 0 rfl) ?_
          refine lv_if_eq (tgt := 56) hx hb dX5_free_48 (by decide) (fun cz => absurd cz (by decide)) (fun _ => ?_)
          refine lv_bipush (v := (-6)) hx hb dX5_free_51 (by decide) ?_
          refine lv_goto (tgt := 57) hx hb dX5_free_53 (by decide) ?_
          refine w_cvv (As := [.int p1, .int i_1, .int ((-6))]) (rest := []) hx hb hml hown hts hK hW hS hl.1 (c_X5_layFinder hA HB (fun k hk => putAt hk)  hw) (k_X5_45 hts ⟨Nat.le_of_ble_eq_true rfl, Nat.le_of_ble_eq_true rfl⟩) (w_recv hK hW HB.1 (putAt (k := 0) (by decide)) rfl rfl) rfl rfl (Nat.le_of_ble_eq_true rfl) dX5_free_57 ⟨Nat.zero_le _, Nat.zero_le _⟩ (fun Ez H locs hw2 hW hS => ?_)
          obtain ⟨X_44, ez, hw⟩ := hw2
          rw [ez, putPut] at hW
          obtain ⟨v_45, ev_45⟩ : ∃ z : Int32, z = i_1 + 1 := ⟨_, rfl⟩
          have hw := hw v_45 ev_45
          refine lv_iinc (v := v_45) (lv' := [(2, .int v_45), (3, .int 1), (0, .ref o), (1, .int p1)]) hx hb dX5_free_60 hl (k := 3) rfl (by rw [ev_45]; rfl) (by decide) rfl (fun ls hl => ?_)
          refine lv_goto (tgt := 2) hx hb dX5_free_63 (by decide) ?_
          exact ih_2 (v_45, X_44) _ _ _ hw hW hS (lv_sub hl [2, 3, 0] rfl)
        · have hw := hw.1 c_43
          refine lv_aload_n hx hb dX5_free_38 rfl (lv_at hl 1 rfl) ?_
          refine lv_iload_n hx hb dX5_free_39 rfl (lv_at hl 2 rfl) ?_
          refine lv_iload_n hx hb dX5_free_40 rfl (lv_at hl 3 rfl) ?_
          refine w_cvi (As := [.int p1, .int i_1]) (rest := [.int i_1, .int p1, .ref o]) hx hb hml hown hts hK hW hS hl.1 (c_X5_ofFinder hA HB (fun k hk => putAt hk)  hw) (k_X5_41 hts ⟨Nat.le_of_ble_eq_true rfl, Nat.le_of_ble_eq_true rfl⟩) (w_recv hK hW HB.1 (putAt (k := 0) (by decide)) rfl rfl) rfl rfl (Nat.le_of_ble_eq_true rfl) dX5_free_41 ⟨Nat.zero_le _, Nat.zero_le _⟩ (fun r_46 Ez H locs hw2 hW hS => ?_)
          obtain ⟨ez, hw⟩ := hw2
          rw [ez] at hW
          refine lv_goto (tgt := 57) hx hb dX5_free_44 (by decide) ?_
          refine w_cvv (As := [.int p1, .int i_1, .int r_46]) (rest := []) hx hb hml hown hts hK hW hS hl.1 (c_X5_layFinder hA HB (fun k hk => putAt hk)  hw) (k_X5_45 hts ⟨Nat.le_of_ble_eq_true rfl, Nat.le_of_ble_eq_true rfl⟩) (w_recv hK hW HB.1 (putAt (k := 0) (by decide)) rfl rfl) rfl rfl (Nat.le_of_ble_eq_true rfl) dX5_free_57 ⟨Nat.zero_le _, Nat.zero_le _⟩ (fun Ez H locs hw2 hW hS => ?_)
          obtain ⟨X_47, ez, hw⟩ := hw2
          rw [ez, putPut] at hW
          obtain ⟨v_48, ev_48⟩ : ∃ z : Int32, z = i_1 + 1 := ⟨_, rfl⟩
          have hw := hw v_48 ev_48
          refine lv_iinc (v := v_48) (lv' := [(2, .int v_48), (3, .int 1), (0, .ref o), (1, .int p1)]) hx hb dX5_free_60 hl (k := 3) rfl (by rw [ev_48]; rfl) (by decide) rfl (fun ls hl => ?_)
          refine lv_goto (tgt := 2) hx hb dX5_free_63 (by decide) ?_
          exact ih_2 (v_48, X_47) _ _ _ hw hW hS (lv_sub hl [2, 3, 0] rfl)
      · have hw := hw.2 c_42
        refine lv_iload_n hx hb dX5_free_18 rfl (lv_at hl 2 rfl) ?_
        refine lv_bipush (v := 9) hx hb dX5_free_19 (by decide) ?_
        refine lv_icmp_ne (tgt := 28) hx hb dX5_free_21 (by decide) (fun c_49 => ?_) (fun c_49 => ?_)
        · have hw := hw.2 c_49
          refine lv_iconst (v := 0) hx hb dX5_free_28 (by decide) ?_
          refine lv_istore_n (lv' := [(3, .int 0), (0, .ref o), (1, .int p1), (2, .int i_1)]) hx hb dX5_free_29 rfl hl (by decide) rfl (fun ls hl => ?_)
          refine lv_aload_n hx hb dX5_free_30 rfl (lv_at hl 1 rfl) ?_
          refine lv_iload_n hx hb dX5_free_31 rfl (lv_at hl 2 rfl) ?_
          refine lv_iload_n hx hb dX5_free_32 rfl (lv_at hl 3 rfl) ?_
          refine lv_iload_n hx hb dX5_free_33 rfl (lv_at hl 3 rfl) ?_
          refine lv_iconst (v := 1) hx hb dX5_free_34 (by decide) ?_
          refine lv_icmp_ne (tgt := 47) hx hb dX5_free_35 (by decide) (fun c_50 => ?_) (fun c_50 => ?_)
          · have hw := hw.2 c_50
            refine lv_iload_n hx hb dX5_free_47 rfl (lv_at hl 0 rfl) ?_
            refine lv_if_eq (tgt := 56) hx hb dX5_free_48 (by decide) (fun _ => ?_) (fun cz => absurd cz (by decide))
            refine lv_iconst (v := 0) hx hb dX5_free_56 (by decide) ?_
            refine w_cvv (As := [.int p1, .int i_1, .int 0]) (rest := []) hx hb hml hown hts hK hW hS hl.1 (c_X5_layFinder hA HB (fun k hk => putAt hk)  hw) (k_X5_45 hts ⟨Nat.le_of_ble_eq_true rfl, Nat.le_of_ble_eq_true rfl⟩) (w_recv hK hW HB.1 (putAt (k := 0) (by decide)) rfl rfl) rfl rfl (Nat.le_of_ble_eq_true rfl) dX5_free_57 ⟨Nat.zero_le _, Nat.zero_le _⟩ (fun Ez H locs hw2 hW hS => ?_)
            obtain ⟨X_51, ez, hw⟩ := hw2
            rw [ez, putPut] at hW
            obtain ⟨v_52, ev_52⟩ : ∃ z : Int32, z = i_1 + 1 := ⟨_, rfl⟩
            have hw := hw v_52 ev_52
            refine lv_iinc (v := v_52) (lv' := [(2, .int v_52), (3, .int 0), (0, .ref o), (1, .int p1)]) hx hb dX5_free_60 hl (k := 3) rfl (by rw [ev_52]; rfl) (by decide) rfl (fun ls hl => ?_)
            refine lv_goto (tgt := 2) hx hb dX5_free_63 (by decide) ?_
            exact ih_2 (v_52, X_51) _ _ _ hw hW hS (lv_sub hl [2, 3, 0] rfl)
          · have hw := hw.1 c_50
            refine lv_aload_n hx hb dX5_free_38 rfl (lv_at hl 1 rfl) ?_
            refine lv_iload_n hx hb dX5_free_39 rfl (lv_at hl 2 rfl) ?_
            refine lv_iload_n hx hb dX5_free_40 rfl (lv_at hl 3 rfl) ?_
            refine w_cvi (As := [.int p1, .int i_1]) (rest := [.int i_1, .int p1, .ref o]) hx hb hml hown hts hK hW hS hl.1 (c_X5_ofFinder hA HB (fun k hk => putAt hk)  hw) (k_X5_41 hts ⟨Nat.le_of_ble_eq_true rfl, Nat.le_of_ble_eq_true rfl⟩) (w_recv hK hW HB.1 (putAt (k := 0) (by decide)) rfl rfl) rfl rfl (Nat.le_of_ble_eq_true rfl) dX5_free_41 ⟨Nat.zero_le _, Nat.zero_le _⟩ (fun r_53 Ez H locs hw2 hW hS => ?_)
            obtain ⟨ez, hw⟩ := hw2
            rw [ez] at hW
            refine lv_goto (tgt := 57) hx hb dX5_free_44 (by decide) ?_
            refine w_cvv (As := [.int p1, .int i_1, .int r_53]) (rest := []) hx hb hml hown hts hK hW hS hl.1 (c_X5_layFinder hA HB (fun k hk => putAt hk)  hw) (k_X5_45 hts ⟨Nat.le_of_ble_eq_true rfl, Nat.le_of_ble_eq_true rfl⟩) (w_recv hK hW HB.1 (putAt (k := 0) (by decide)) rfl rfl) rfl rfl (Nat.le_of_ble_eq_true rfl) dX5_free_57 ⟨Nat.zero_le _, Nat.zero_le _⟩ (fun Ez H locs hw2 hW hS => ?_)
            obtain ⟨X_54, ez, hw⟩ := hw2
            rw [ez, putPut] at hW
            obtain ⟨v_55, ev_55⟩ : ∃ z : Int32, z = i_1 + 1 := ⟨_, rfl⟩
            have hw := hw v_55 ev_55
            refine lv_iinc (v := v_55) (lv' := [(2, .int v_55), (3, .int 0), (0, .ref o), (1, .int p1)]) hx hb dX5_free_60 hl (k := 3) rfl (by rw [ev_55]; rfl) (by decide) rfl (fun ls hl => ?_)
            refine lv_goto (tgt := 2) hx hb dX5_free_63 (by decide) ?_
            exact ih_2 (v_55, X_54) _ _ _ hw hW hS (lv_sub hl [2, 3, 0] rfl)
        · have hw := hw.1 c_49
          refine lv_iconst (v := 1) hx hb dX5_free_24 (by decide) ?_
          refine lv_goto (tgt := 29) hx hb dX5_free_25 (by decide) ?_
          refine lv_istore_n (lv' := [(3, .int 1), (0, .ref o), (1, .int p1), (2, .int i_1)]) hx hb dX5_free_29 rfl hl (by decide) rfl (fun ls hl => ?_)
          refine lv_aload_n hx hb dX5_free_30 rfl (lv_at hl 1 rfl) ?_
          refine lv_iload_n hx hb dX5_free_31 rfl (lv_at hl 2 rfl) ?_
          refine lv_iload_n hx hb dX5_free_32 rfl (lv_at hl 3 rfl) ?_
          refine lv_iload_n hx hb dX5_free_33 rfl (lv_at hl 3 rfl) ?_
          refine lv_iconst (v := 1) hx hb dX5_free_34 (by decide) ?_
          refine lv_icmp_ne (tgt := 47) hx hb dX5_free_35 (by decide) (fun c_56 => ?_) (fun c_56 => ?_)
          · have hw := hw.2 c_56
            refine lv_iload_n hx hb dX5_free_47 rfl (lv_at hl 0 rfl) ?_
            refine lv_if_eq (tgt := 56) hx hb dX5_free_48 (by decide) (fun cz => absurd cz (by decide)) (fun _ => ?_)
            refine lv_bipush (v := (-6)) hx hb dX5_free_51 (by decide) ?_
            refine lv_goto (tgt := 57) hx hb dX5_free_53 (by decide) ?_
            refine w_cvv (As := [.int p1, .int i_1, .int ((-6))]) (rest := []) hx hb hml hown hts hK hW hS hl.1 (c_X5_layFinder hA HB (fun k hk => putAt hk)  hw) (k_X5_45 hts ⟨Nat.le_of_ble_eq_true rfl, Nat.le_of_ble_eq_true rfl⟩) (w_recv hK hW HB.1 (putAt (k := 0) (by decide)) rfl rfl) rfl rfl (Nat.le_of_ble_eq_true rfl) dX5_free_57 ⟨Nat.zero_le _, Nat.zero_le _⟩ (fun Ez H locs hw2 hW hS => ?_)
            obtain ⟨X_57, ez, hw⟩ := hw2
            rw [ez, putPut] at hW
            obtain ⟨v_58, ev_58⟩ : ∃ z : Int32, z = i_1 + 1 := ⟨_, rfl⟩
            have hw := hw v_58 ev_58
            refine lv_iinc (v := v_58) (lv' := [(2, .int v_58), (3, .int 1), (0, .ref o), (1, .int p1)]) hx hb dX5_free_60 hl (k := 3) rfl (by rw [ev_58]; rfl) (by decide) rfl (fun ls hl => ?_)
            refine lv_goto (tgt := 2) hx hb dX5_free_63 (by decide) ?_
            exact ih_2 (v_58, X_57) _ _ _ hw hW hS (lv_sub hl [2, 3, 0] rfl)
          · have hw := hw.1 c_56
            refine lv_aload_n hx hb dX5_free_38 rfl (lv_at hl 1 rfl) ?_
            refine lv_iload_n hx hb dX5_free_39 rfl (lv_at hl 2 rfl) ?_
            refine lv_iload_n hx hb dX5_free_40 rfl (lv_at hl 3 rfl) ?_
            refine w_cvi (As := [.int p1, .int i_1]) (rest := [.int i_1, .int p1, .ref o]) hx hb hml hown hts hK hW hS hl.1 (c_X5_ofFinder hA HB (fun k hk => putAt hk)  hw) (k_X5_41 hts ⟨Nat.le_of_ble_eq_true rfl, Nat.le_of_ble_eq_true rfl⟩) (w_recv hK hW HB.1 (putAt (k := 0) (by decide)) rfl rfl) rfl rfl (Nat.le_of_ble_eq_true rfl) dX5_free_41 ⟨Nat.zero_le _, Nat.zero_le _⟩ (fun r_59 Ez H locs hw2 hW hS => ?_)
            obtain ⟨ez, hw⟩ := hw2
            rw [ez] at hW
            refine lv_goto (tgt := 57) hx hb dX5_free_44 (by decide) ?_
            refine w_cvv (As := [.int p1, .int i_1, .int r_59]) (rest := []) hx hb hml hown hts hK hW hS hl.1 (c_X5_layFinder hA HB (fun k hk => putAt hk)  hw) (k_X5_45 hts ⟨Nat.le_of_ble_eq_true rfl, Nat.le_of_ble_eq_true rfl⟩) (w_recv hK hW HB.1 (putAt (k := 0) (by decide)) rfl rfl) rfl rfl (Nat.le_of_ble_eq_true rfl) dX5_free_57 ⟨Nat.zero_le _, Nat.zero_le _⟩ (fun Ez H locs hw2 hW hS => ?_)
            obtain ⟨X_60, ez, hw⟩ := hw2
            rw [ez, putPut] at hW
            obtain ⟨v_61, ev_61⟩ : ∃ z : Int32, z = i_1 + 1 := ⟨_, rfl⟩
            have hw := hw v_61 ev_61
            refine lv_iinc (v := v_61) (lv' := [(2, .int v_61), (3, .int 1), (0, .ref o), (1, .int p1)]) hx hb dX5_free_60 hl (k := 3) rfl (by rw [ev_61]; rfl) (by decide) rfl (fun ls hl => ?_)
            refine lv_goto (tgt := 2) hx hb dX5_free_63 (by decide) ?_
            exact ih_2 (v_61, X_60) _ _ _ hw hW hS (lv_sub hl [2, 3, 0] rfl)
set_option maxHeartbeats 4000000 in
set_option maxRecDepth 100000 in
theorem c_X5_begin {l : Launch} {g : GG} {lay : LY} {E0 : ES} {o : Nat} {X : ES} {p1 : Int32} {p2 : Int32} {K : ES → Prop} (hA : okL g lay) (HB : ML g lay o) (hX : ∀ k, k < 7 → E0 (o + k) = X k) (hw : wp_X5_begin X p1 p2 K) : JMv l g lay yX5_begin wsX5_begin rmX5_begin [.ref o, .int p1, .int p2] E0 (fun E1 => ∃ X1 : ES, E1 = put 7 o X1 E0 ∧ K X1) := by
  refine Met.ofW (cc := cX5_begin) (maxL := 4) (ret := none) (by decide) rfl ?_
  intro p e s m args below meth c s₁ B hml hv
  obtain ⟨rfl, hK, hW⟩ := hv
  have hx := B.exec
  have hb := B.bytes
  have hr := B.returns
  have hts := gd_of (atoms_spec (ws := wsX5_begin) B.pre)
  have hown : s.vm.findClass RX5 = some m.cls := findClass_of_methodNamed B.named
  have hlocks := B.notSynchronized
  have hS : va_S (Ab g) s.heap s.heap [] := va_S.rf
  have hW : Wd g lay (put 7 o X E0) s.heap := by rw [putSelf hX]; exact hW
  have hl := lv_entry [.ref o, .int p1, .int p2] (n := 4) (Nat.le_of_ble_eq_true rfl)
  rw [lg_entry_eq]
  generalize (lg_sl [.ref o, .int p1, .int p2] ++ List.replicate (4 - (lg_sl [.ref o, .int p1, .int p2]).length) Slot.unset).toArray = ls at hl ⊢
  have hl : lv_has ls 4 [(0, .ref o), (1, .int p1), (2, .int p2)] := hl
  unfold wp_X5_begin at hw
  refine lv_iconst (v := 0) hx hb dX5_begin_0 (by decide) ?_
  refine lv_istore_n (lv' := [(3, .int 0), (0, .ref o), (1, .int p1), (2, .int p2)]) hx hb dX5_begin_1 rfl hl (by decide) rfl (fun ls hl => ?_)
  obtain ⟨n_71, hw⟩ := hw
  refine w_loop (KT := Int32 → ES → Prop) (σ := Int32 × ES) (Wl := fun Kx_2 n_2 q => wpl_X5_begin_2 K Kx_2 n_2 q.1 q.2) (Pw := fun q => Wd g lay (put 7 o q.2 E0)) (lvf := fun q => [(0, .ref o), (1, .int p1), (2, .int p2), (3, .int q.1)]) (nL := 4) n_71 (0, X) hw hW hS (lv_sub hl [1, 2, 3, 0] rfl) (fun _ h => h) (fun Kx_2 eK_2 n_2 q H locs ls hw hW hS hl ih_2 => ?_)
  obtain ⟨i_1, X_2⟩ := q
  try dsimp only at hw
  rw [wpl_X5_begin_2] at hw
  have hl : lv_has ls 4 [(0, .ref o), (1, .int p1), (2, .int p2), (3, .int i_1)] := hl
  have hW : Wd g lay (put 7 o X_2 E0) H := hW
  refine lv_iload_n hx hb dX5_begin_2 rfl (lv_at hl 3 rfl) ?_
  refine lv_sipush (v := 233) hx hb dX5_begin_3 (by decide) ?_
  refine lv_icmp_ge (tgt := 41) hx hb dX5_begin_6 (by decide) (fun c_47 => ?_) (fun c_47 => ?_)
  · have hw := hw.1 c_47
    rw [eK_2] at hw
    refine lv_aload_n hx hb dX5_begin_41 rfl (lv_at hl 0 rfl) ?_
    refine g_X5_7 hx hb hown hts hK hW HB.1 (putAt (k := 0) (by decide)) dX5_begin_42 ?_
    refine lv_iconst (v := 1) hx hb dX5_begin_45 (by decide) ?_
    refine lv_iload_n hx hb dX5_begin_46 rfl (lv_at hl 1 rfl) ?_
    obtain ⟨hin, hw⟩ := hw
    obtain ⟨X_48, eX_48⟩ : ∃ z : ES, z = va_up X_2 1 (upd (X_2 1) (1 : Int32).toNatClampNeg p1) := ⟨_, rfl⟩
    have hw := hw X_48 eX_48
    refine w_iast (E1 := put 7 o X_48 E0) hx hb hK hA hW hS HB.2.1 (putAt (k := 1) (by decide)) hin dX5_begin_47 (puE (k := 1) (by decide) eX_48) (fun H locs hW hS => ?_)
    refine lv_aload_n hx hb dX5_begin_48 rfl (lv_at hl 0 rfl) ?_
    refine g_X5_7 hx hb hown hts hK hW HB.1 (putAt (k := 0) (by decide)) dX5_begin_49 ?_
    refine lv_iconst (v := 2) hx hb dX5_begin_52 (by decide) ?_
    refine lv_iload_n hx hb dX5_begin_53 rfl (lv_at hl 2 rfl) ?_
    obtain ⟨hin, hw⟩ := hw
    obtain ⟨X_49, eX_49⟩ : ∃ z : ES, z = va_up X_48 1 (upd (X_48 1) (2 : Int32).toNatClampNeg p2) := ⟨_, rfl⟩
    have hw := hw X_49 eX_49
    refine w_iast (E1 := put 7 o X_49 E0) hx hb hK hA hW hS HB.2.1 (putAt (k := 1) (by decide)) hin dX5_begin_54 (puE (k := 1) (by decide) eX_49) (fun H locs hW hS => ?_)
    refine lv_aload_n hx hb dX5_begin_55 rfl (lv_at hl 0 rfl) ?_
    refine g_X5_7 hx hb hown hts hK hW HB.1 (putAt (k := 0) (by decide)) dX5_begin_56 ?_
    refine lv_iconst (v := 3) hx hb dX5_begin_59 (by decide) ?_
    refine lv_bipush (v := (-6)) hx hb dX5_begin_60 (by decide) ?_
    obtain ⟨hin, hw⟩ := hw
    obtain ⟨X_50, eX_50⟩ : ∃ z : ES, z = va_up X_49 1 (upd (X_49 1) (3 : Int32).toNatClampNeg (-6)) := ⟨_, rfl⟩
    have hw := hw X_50 eX_50
    refine w_iast (E1 := put 7 o X_50 E0) hx hb hK hA hW hS HB.2.1 (putAt (k := 1) (by decide)) hin dX5_begin_62 (puE (k := 1) (by decide) eX_50) (fun H locs hW hS => ?_)
    refine lv_iconst (v := 0) hx hb dX5_begin_63 (by decide) ?_
    refine lv_istore_n (lv' := [(3, .int 0), (0, .ref o), (1, .int p1), (2, .int p2)]) hx hb dX5_begin_64 rfl hl (by decide) rfl (fun ls hl => ?_)
    obtain ⟨n_63, hw⟩ := hw
    refine w_loop (KT := Int32 → ES → Prop) (σ := Int32 × ES) (Wl := fun Kx_65 n_65 q => wpl_X5_begin_65 K Kx_65 n_65 q.1 q.2) (Pw := fun q => Wd g lay (put 7 o q.2 E0)) (lvf := fun q => [(0, .ref o), (1, .int p1), (2, .int p2), (3, .int q.1)]) (nL := 4) n_63 (0, X_50) hw hW hS (lv_sub hl [1, 2, 3, 0] rfl) (fun _ h => h) (fun Kx_65 eK_65 n_65 q H locs ls hw hW hS hl ih_65 => ?_)
    obtain ⟨i_51, X_52⟩ := q
    try dsimp only at hw
    rw [wpl_X5_begin_65] at hw
    have hl : lv_has ls 4 [(0, .ref o), (1, .int p1), (2, .int p2), (3, .int i_51)] := hl
    have hW : Wd g lay (put 7 o X_52 E0) H := hW
    refine lv_iload_n hx hb dX5_begin_65 rfl (lv_at hl 3 rfl) ?_
    refine lv_iconst (v := 4) hx hb dX5_begin_66 (by decide) ?_
    refine lv_icmp_ge (tgt := 81) hx hb dX5_begin_67 (by decide) (fun c_60 => ?_) (fun c_60 => ?_)
    · have hw := hw.1 c_60
      rw [eK_65] at hw
      exact w_vret hx hb hr hlocks hW hS ⟨X_52, rfl, hw⟩ dX5_begin_81
    · have hw := hw.2 c_60
      refine lv_aload_n hx hb dX5_begin_70 rfl (lv_at hl 0 rfl) ?_
      refine lv_iload_n hx hb dX5_begin_71 rfl (lv_at hl 3 rfl) ?_
      refine w_cvv (As := [.int i_51]) (rest := []) hx hb hml hown hts hK hW hS hl.1 (c_X5_free hA HB (fun k hk => putAt hk)  hw) (k_X5_37 hts ⟨Nat.le_of_ble_eq_true rfl, Nat.le_of_ble_eq_true rfl⟩) (w_recv hK hW HB.1 (putAt (k := 0) (by decide)) rfl rfl) rfl rfl (Nat.le_of_ble_eq_true rfl) dX5_begin_72 ⟨Nat.zero_le _, Nat.zero_le _⟩ (fun Ez H locs hw2 hW hS => ?_)
      obtain ⟨X_61, ez, hw⟩ := hw2
      rw [ez, putPut] at hW
      obtain ⟨v_62, ev_62⟩ : ∃ z : Int32, z = i_51 + 1 := ⟨_, rfl⟩
      have hw := hw v_62 ev_62
      refine lv_iinc (v := v_62) (lv' := [(3, .int v_62), (0, .ref o), (1, .int p1), (2, .int p2)]) hx hb dX5_begin_75 hl (k := 3) rfl (by rw [ev_62]; rfl) (by decide) rfl (fun ls hl => ?_)
      refine lv_goto (tgt := 65) hx hb dX5_begin_78 (by decide) ?_
      exact ih_65 (v_62, X_61) _ _ _ hw hW hS (lv_sub hl [1, 2, 3, 0] rfl)
  · have hw := hw.2 c_47
    refine lv_aload_n hx hb dX5_begin_9 rfl (lv_at hl 0 rfl) ?_
    refine g_X5_7 hx hb hown hts hK hW HB.1 (putAt (k := 0) (by decide)) dX5_begin_10 ?_
    refine lv_iload_n hx hb dX5_begin_13 rfl (lv_at hl 3 rfl) ?_
    refine lv_iload_n hx hb dX5_begin_14 rfl (lv_at hl 3 rfl) ?_
    refine lv_iconst (v := 5) hx hb dX5_begin_15 (by decide) ?_
    refine lv_bipush (v := 9) hx hb dX5_begin_16 (by decide) ?_
    refine w_csi (As := [.int i_1, .int 5, .int 9]) (rest := [.int i_1, .ref (o + 1)]) hx hb hml hown hts hK hW hS hl.1 (c_X5_in hw) (k_X5_33 hts ⟨Nat.le_of_ble_eq_true rfl, Nat.le_of_ble_eq_true rfl⟩) rfl rfl (Nat.le_of_ble_eq_true rfl) dX5_begin_18 ⟨Nat.zero_le _, Nat.zero_le _⟩ (fun r_64 Ez H locs hw2 hW hS => ?_)
    obtain ⟨ez, z_65, hw⟩ := hw2
    rw [ez] at hW
    refine lv_if_eq (tgt := 33) hx hb dX5_begin_21 (by decide) (fun c_66 => ?_) (fun c_66 => ?_)
    · have hw := hw.1 c_66
      refine lv_iconst (v := 0) hx hb dX5_begin_33 (by decide) ?_
      obtain ⟨hin, hw⟩ := hw
      obtain ⟨X_67, eX_67⟩ : ∃ z : ES, z = va_up X_2 1 (upd (X_2 1) i_1.toNatClampNeg 0) := ⟨_, rfl⟩
      have hw := hw X_67 eX_67
      refine w_iast (E1 := put 7 o X_67 E0) hx hb hK hA hW hS HB.2.1 (putAt (k := 1) (by decide)) hin dX5_begin_34 (puE (k := 1) (by decide) eX_67) (fun H locs hW hS => ?_)
      obtain ⟨v_68, ev_68⟩ : ∃ z : Int32, z = i_1 + 1 := ⟨_, rfl⟩
      have hw := hw v_68 ev_68
      refine lv_iinc (v := v_68) (lv' := [(3, .int v_68), (0, .ref o), (1, .int p1), (2, .int p2)]) hx hb dX5_begin_35 hl (k := 3) rfl (by rw [ev_68]; rfl) (by decide) rfl (fun ls hl => ?_)
      refine lv_goto (tgt := 2) hx hb dX5_begin_38 (by decide) ?_
      exact ih_2 (v_68, X_67) _ _ _ hw hW hS (lv_sub hl [1, 2, 3, 0] rfl)
    · have hw := hw.2 c_66
      refine lv_aload_n hx hb dX5_begin_24 rfl (lv_at hl 0 rfl) ?_
      refine g_X5_7 hx hb hown hts hK hW HB.1 (putAt (k := 0) (by decide)) dX5_begin_25 ?_
      refine lv_iload_n hx hb dX5_begin_28 rfl (lv_at hl 3 rfl) ?_
      obtain ⟨hin, hw⟩ := hw
      refine w_iald hx hb hK hW HB.2.1 (putAt (k := 1) (by decide)) hin dX5_begin_29 ?_
      refine lv_goto (tgt := 34) hx hb dX5_begin_30 (by decide) ?_
      obtain ⟨hin, hw⟩ := hw
      obtain ⟨X_69, eX_69⟩ : ∃ z : ES, z = va_up X_2 1 (upd (X_2 1) i_1.toNatClampNeg ((X_2 1) i_1.toNatClampNeg)) := ⟨_, rfl⟩
      have hw := hw X_69 eX_69
      refine w_iast (E1 := put 7 o X_69 E0) hx hb hK hA hW hS HB.2.1 (putAt (k := 1) (by decide)) hin dX5_begin_34 (puE (k := 1) (by decide) eX_69) (fun H locs hW hS => ?_)
      obtain ⟨v_70, ev_70⟩ : ∃ z : Int32, z = i_1 + 1 := ⟨_, rfl⟩
      have hw := hw v_70 ev_70
      refine lv_iinc (v := v_70) (lv' := [(3, .int v_70), (0, .ref o), (1, .int p1), (2, .int p2)]) hx hb dX5_begin_35 hl (k := 3) rfl (by rw [ev_70]; rfl) (by decide) rfl (fun ls hl => ?_)
      refine lv_goto (tgt := 2) hx hb dX5_begin_38 (by decide) ?_
      exact ih_2 (v_70, X_69) _ _ _ hw hW hS (lv_sub hl [1, 2, 3, 0] rfl)
set_option maxHeartbeats 4000000 in
set_option maxRecDepth 100000 in
theorem c_X5_of {l : Launch} {g : GG} {lay : LY} {E0 : ES} {o : Nat} {X : ES} {p1 : Int32} {p2 : Int32} {K : Int32 → Prop} (hA : okL g lay) (HB : ML g lay o) (hX : ∀ k, k < 7 → E0 (o + k) = X k) (hw : wp_X5_of X p1 p2 K) : JMi l g lay yX5_of wsX5_of rmX5_of [.ref o, .int p1, .int p2] E0 (fun r E1 => E1 = E0 ∧ K r) := by
  refine Met.ofW (cc := cX5_of) (maxL := 3) (ret := (some .int)) (by decide) rfl ?_
  intro p e s m args below meth c s₁ B hml hv
  obtain ⟨rfl, hK, hW⟩ := hv
  have hx := B.exec
  have hb := B.bytes
  have hr := B.returns
  have hts := gd_of (atoms_spec (ws := wsX5_of) B.pre)
  have hown : s.vm.findClass RX5 = some m.cls := findClass_of_methodNamed B.named
  have hlocks := B.notSynchronized
  have hS : va_S (Ab g) s.heap s.heap [] := va_S.rf
  have hl := lv_entry [.ref o, .int p1, .int p2] (n := 3) (Nat.le_of_ble_eq_true rfl)
  rw [lg_entry_eq]
  generalize (lg_sl [.ref o, .int p1, .int p2] ++ List.replicate (3 - (lg_sl [.ref o, .int p1, .int p2]).length) Slot.unset).toArray = ls at hl ⊢
  have hl : lv_has ls 3 [(0, .ref o), (1, .int p1), (2, .int p2)] := hl
  unfold wp_X5_of at hw
  refine lv_aload_n hx hb dX5_of_0 rfl (lv_at hl 0 rfl) ?_
  refine g_X5_7 hx hb hown hts hK hW HB.1 (hX 0 (by decide)) dX5_of_1 ?_
  refine lv_bipush (v := 17) hx hb dX5_of_4 (by decide) ?_
  refine lv_bipush (v := 11) hx hb dX5_of_6 (by decide) ?_
  refine lv_iload_n hx hb dX5_of_8 rfl (lv_at hl 1 rfl) ?_
  refine lv_imul hx hb dX5_of_9 ?_
  refine lv_iadd hx hb dX5_of_10 ?_
  refine lv_iload_n hx hb dX5_of_11 rfl (lv_at hl 2 rfl) ?_
  refine lv_iadd hx hb dX5_of_12 ?_
  obtain ⟨hin, hw⟩ := hw
  refine w_iald hx hb hK hW HB.2.1 (hX 1 (by decide)) hin dX5_of_13 ?_
  exact w_iret hx hb hr hlocks hW hS ⟨rfl, hw⟩ dX5_of_14
set_option maxHeartbeats 4000000 in
set_option maxRecDepth 100000 in
theorem c_X5_lay {l : Launch} {g : GG} {lay : LY} {E0 : ES} {o : Nat} {X : ES} {p1 : Int32} {p2 : Int32} {p3 : Int32} {K : ES → Prop} (hA : okL g lay) (HB : ML g lay o) (hX : ∀ k, k < 7 → E0 (o + k) = X k) (hw : wp_X5_lay X p1 p2 p3 K) : JMv l g lay yX5_lay wsX5_lay rmX5_lay [.ref o, .int p1, .int p2, .int p3] E0 (fun E1 => ∃ X1 : ES, E1 = put 7 o X1 E0 ∧ K X1) := by
  refine Met.ofW (cc := cX5_lay) (maxL := 4) (ret := none) (by decide) rfl ?_
  intro p e s m args below meth c s₁ B hml hv
  obtain ⟨rfl, hK, hW⟩ := hv
  have hx := B.exec
  have hb := B.bytes
  have hr := B.returns
  have hts := gd_of (atoms_spec (ws := wsX5_lay) B.pre)
  have hown : s.vm.findClass RX5 = some m.cls := findClass_of_methodNamed B.named
  have hlocks := B.notSynchronized
  have hS : va_S (Ab g) s.heap s.heap [] := va_S.rf
  have hW : Wd g lay (put 7 o X E0) s.heap := by rw [putSelf hX]; exact hW
  have hl := lv_entry [.ref o, .int p1, .int p2, .int p3] (n := 4) (Nat.le_of_ble_eq_true rfl)
  rw [lg_entry_eq]
  generalize (lg_sl [.ref o, .int p1, .int p2, .int p3] ++ List.replicate (4 - (lg_sl [.ref o, .int p1, .int p2, .int p3]).length) Slot.unset).toArray = ls at hl ⊢
  have hl : lv_has ls 4 [(0, .ref o), (1, .int p1), (2, .int p2), (3, .int p3)] := hl
  unfold wp_X5_lay at hw
  refine lv_aload_n hx hb dX5_lay_0 rfl (lv_at hl 0 rfl) ?_
  refine g_X5_7 hx hb hown hts hK hW HB.1 (putAt (k := 0) (by decide)) dX5_lay_1 ?_
  refine lv_bipush (v := 17) hx hb dX5_lay_4 (by decide) ?_
  refine lv_bipush (v := 11) hx hb dX5_lay_6 (by decide) ?_
  refine lv_iload_n hx hb dX5_lay_8 rfl (lv_at hl 1 rfl) ?_
  refine lv_imul hx hb dX5_lay_9 ?_
  refine lv_iadd hx hb dX5_lay_10 ?_
  refine lv_iload_n hx hb dX5_lay_11 rfl (lv_at hl 2 rfl) ?_
  refine lv_iadd hx hb dX5_lay_12 ?_
  refine lv_iload_n hx hb dX5_lay_13 rfl (lv_at hl 3 rfl) ?_
  obtain ⟨hin, hw⟩ := hw
  obtain ⟨X_1, eX_1⟩ : ∃ z : ES, z = va_up X 1 (upd (X 1) ((17 + (11 * p1)) + p2).toNatClampNeg p3) := ⟨_, rfl⟩
  have hw := hw X_1 eX_1
  refine w_iast (E1 := put 7 o X_1 E0) hx hb hK hA hW hS HB.2.1 (putAt (k := 1) (by decide)) hin dX5_lay_14 (puE (k := 1) (by decide) eX_1) (fun H locs hW hS => ?_)
  exact w_vret hx hb hr hlocks hW hS ⟨X_1, rfl, hw⟩ dX5_lay_15
set_option maxHeartbeats 4000000 in
set_option maxRecDepth 100000 in
theorem c_X5_setting {l : Launch} {g : GG} {lay : LY} {E0 : ES} {o : Nat} {X : ES} {p1 : Int32} {K : Int32 → Prop} (hA : okL g lay) (HB : ML g lay o) (hX : ∀ k, k < 7 → E0 (o + k) = X k) (hw : wp_X5_setting X p1 K) : JMi l g lay yX5_setting wsX5_setting rmX5_setting [.ref o, .int p1] E0 (fun r E1 => E1 = E0 ∧ K r) := by
  refine Met.ofW (cc := cX5_setting) (maxL := 2) (ret := (some .int)) (by decide) rfl ?_
  intro p e s m args below meth c s₁ B hml hv
  obtain ⟨rfl, hK, hW⟩ := hv
  have hx := B.exec
  have hb := B.bytes
  have hr := B.returns
  have hts := gd_of (atoms_spec (ws := wsX5_setting) B.pre)
  have hown : s.vm.findClass RX5 = some m.cls := findClass_of_methodNamed B.named
  have hlocks := B.notSynchronized
  have hS : va_S (Ab g) s.heap s.heap [] := va_S.rf
  have hl := lv_entry [.ref o, .int p1] (n := 2) (Nat.le_of_ble_eq_true rfl)
  rw [lg_entry_eq]
  generalize (lg_sl [.ref o, .int p1] ++ List.replicate (2 - (lg_sl [.ref o, .int p1]).length) Slot.unset).toArray = ls at hl ⊢
  have hl : lv_has ls 2 [(0, .ref o), (1, .int p1)] := hl
  unfold wp_X5_setting at hw
  refine lv_aload_n hx hb dX5_setting_0 rfl (lv_at hl 0 rfl) ?_
  refine g_X5_7 hx hb hown hts hK hW HB.1 (hX 0 (by decide)) dX5_setting_1 ?_
  refine lv_iconst (v := 5) hx hb dX5_setting_4 (by decide) ?_
  refine lv_iload_n hx hb dX5_setting_5 rfl (lv_at hl 1 rfl) ?_
  refine lv_iadd hx hb dX5_setting_6 ?_
  obtain ⟨hin, hw⟩ := hw
  refine w_iald hx hb hK hW HB.2.1 (hX 1 (by decide)) hin dX5_setting_7 ?_
  exact w_iret hx hb hr hlocks hW hS ⟨rfl, hw⟩ dX5_setting_8
set_option maxHeartbeats 4000000 in
set_option maxRecDepth 100000 in
theorem c_X5_countOne {l : Launch} {g : GG} {lay : LY} {E0 : ES} {o : Nat} {X : ES} {p1 : Int32} {K : ES → Prop} (hA : okL g lay) (HB : ML g lay o) (hX : ∀ k, k < 7 → E0 (o + k) = X k) (hw : wp_X5_countOne X p1 K) : JMv l g lay yX5_countOne wsX5_countOne rmX5_countOne [.ref o, .int p1] E0 (fun E1 => ∃ X1 : ES, E1 = put 7 o X1 E0 ∧ K X1) := by
  refine Met.ofW (cc := cX5_countOne) (maxL := 2) (ret := none) (by decide) rfl ?_
  intro p e s m args below meth c s₁ B hml hv
  obtain ⟨rfl, hK, hW⟩ := hv
  have hx := B.exec
  have hb := B.bytes
  have hr := B.returns
  have hts := gd_of (atoms_spec (ws := wsX5_countOne) B.pre)
  have hown : s.vm.findClass RX5 = some m.cls := findClass_of_methodNamed B.named
  have hlocks := B.notSynchronized
  have hS : va_S (Ab g) s.heap s.heap [] := va_S.rf
  have hW : Wd g lay (put 7 o X E0) s.heap := by rw [putSelf hX]; exact hW
  have hl := lv_entry [.ref o, .int p1] (n := 2) (Nat.le_of_ble_eq_true rfl)
  rw [lg_entry_eq]
  generalize (lg_sl [.ref o, .int p1] ++ List.replicate (2 - (lg_sl [.ref o, .int p1]).length) Slot.unset).toArray = ls at hl ⊢
  have hl : lv_has ls 2 [(0, .ref o), (1, .int p1)] := hl
  unfold wp_X5_countOne at hw
  refine lv_aload_n hx hb dX5_countOne_0 rfl (lv_at hl 0 rfl) ?_
  refine g_X5_7 hx hb hown hts hK hW HB.1 (putAt (k := 0) (by decide)) dX5_countOne_1 ?_
  refine lv_bipush (v := 10) hx hb dX5_countOne_4 (by decide) ?_
  refine lv_iload_n hx hb dX5_countOne_6 rfl (lv_at hl 1 rfl) ?_
  refine lv_iadd hx hb dX5_countOne_7 ?_
  refine lv_dup2_11 hx hb dX5_countOne_8 rfl rfl ?_
  obtain ⟨hin, hw⟩ := hw
  refine w_iald hx hb hK hW HB.2.1 (putAt (k := 1) (by decide)) hin dX5_countOne_9 ?_
  refine lv_iconst (v := 1) hx hb dX5_countOne_10 (by decide) ?_
  refine lv_iadd hx hb dX5_countOne_11 ?_
  obtain ⟨hin, hw⟩ := hw
  obtain ⟨X_1, eX_1⟩ : ∃ z : ES, z = va_up X 1 (upd (X 1) (10 + p1).toNatClampNeg (((X 1) (10 + p1).toNatClampNeg) + 1)) := ⟨_, rfl⟩
  have hw := hw X_1 eX_1
  refine w_iast (E1 := put 7 o X_1 E0) hx hb hK hA hW hS HB.2.1 (putAt (k := 1) (by decide)) hin dX5_countOne_12 (puE (k := 1) (by decide) eX_1) (fun H locs hW hS => ?_)
  exact w_vret hx hb hr hlocks hW hS ⟨X_1, rfl, hw⟩ dX5_countOne_13
set_option maxHeartbeats 4000000 in
set_option maxRecDepth 100000 in
theorem c_X5_setUp {l : Launch} {g : GG} {lay : LY} {E0 : ES} {o : Nat} {X : ES} {p1 : Int32} {p2 : Int32} {K : Int32 → ES → Prop} (hA : okL g lay) (HB : ML g lay o) (hX : ∀ k, k < 7 → E0 (o + k) = X k) (hw : wp_X5_setUp X p1 p2 K) : JMi l g lay yX5_setUp wsX5_setUp rmX5_setUp [.ref o, .int p1, .int p2] E0 (fun r E1 => ∃ X1 : ES, E1 = put 7 o X1 E0 ∧ K r X1) := by
  refine Met.ofW (cc := cX5_setUp) (maxL := 4) (ret := (some .int)) (by decide) rfl ?_
  intro p e s m args below meth c s₁ B hml hv
  obtain ⟨rfl, hK, hW⟩ := hv
  have hx := B.exec
  have hb := B.bytes
  have hr := B.returns
  have hts := gd_of (atoms_spec (ws := wsX5_setUp) B.pre)
  have hown : s.vm.findClass RX5 = some m.cls := findClass_of_methodNamed B.named
  have hlocks := B.notSynchronized
  have hS : va_S (Ab g) s.heap s.heap [] := va_S.rf
  have hW : Wd g lay (put 7 o X E0) s.heap := by rw [putSelf hX]; exact hW
  have hl := lv_entry [.ref o, .int p1, .int p2] (n := 4) (Nat.le_of_ble_eq_true rfl)
  rw [lg_entry_eq]
  generalize (lg_sl [.ref o, .int p1, .int p2] ++ List.replicate (4 - (lg_sl [.ref o, .int p1, .int p2]).length) Slot.unset).toArray = ls at hl ⊢
  have hl : lv_has ls 4 [(0, .ref o), (1, .int p1), (2, .int p2)] := hl
  unfold wp_X5_setUp at hw
  refine lv_iload_n hx hb dX5_setUp_0 rfl (lv_at hl 1 rfl) ?_
  refine lv_iconst (v := 1) hx hb dX5_setUp_1 (by decide) ?_
  refine lv_iconst (v := 4) hx hb dX5_setUp_2 (by decide) ?_
  refine w_csi (As := [.int p1, .int 1, .int 4]) (rest := []) hx hb hml hown hts hK hW hS hl.1 (c_X5_in hw) (k_X5_33 hts ⟨Nat.le_of_ble_eq_true rfl, Nat.le_of_ble_eq_true rfl⟩) rfl rfl (Nat.le_of_ble_eq_true rfl) dX5_setUp_3 ⟨Nat.zero_le _, Nat.zero_le _⟩ (fun r_1 Ez H locs hw2 hW hS => ?_)
  obtain ⟨ez, z_2, hw⟩ := hw2
  rw [ez] at hW
  refine lv_if_eq (tgt := 18) hx hb dX5_setUp_6 (by decide) (fun c_3 => ?_) (fun c_3 => ?_)
  · have hw := hw.1 c_3
    refine lv_bipush (v := (-2)) hx hb dX5_setUp_18 (by decide) ?_
    exact w_iret hx hb hr hlocks hW hS ⟨X, rfl, hw⟩ dX5_setUp_20
  · have hw := hw.2 c_3
    refine lv_iload_n hx hb dX5_setUp_9 rfl (lv_at hl 2 rfl) ?_
    refine lv_iconst (v := 1) hx hb dX5_setUp_10 (by decide) ?_
    refine lv_iconst (v := 3) hx hb dX5_setUp_11 (by decide) ?_
    refine w_csi (As := [.int p2, .int 1, .int 3]) (rest := []) hx hb hml hown hts hK hW hS hl.1 (c_X5_in hw) (k_X5_33 hts ⟨Nat.le_of_ble_eq_true rfl, Nat.le_of_ble_eq_true rfl⟩) rfl rfl (Nat.le_of_ble_eq_true rfl) dX5_setUp_12 ⟨Nat.zero_le _, Nat.zero_le _⟩ (fun r_4 Ez H locs hw2 hW hS => ?_)
    obtain ⟨ez, z_5, hw⟩ := hw2
    rw [ez] at hW
    refine lv_if_ne (tgt := 21) hx hb dX5_setUp_15 (by decide) (fun c_6 => ?_) (fun c_6 => ?_)
    · have hw := hw.2 c_6
      refine lv_aload_n hx hb dX5_setUp_21 rfl (lv_at hl 0 rfl) ?_
      refine g_X5_7 hx hb hown hts hK hW HB.1 (putAt (k := 0) (by decide)) dX5_setUp_22 ?_
      refine lv_iconst (v := 1) hx hb dX5_setUp_25 (by decide) ?_
      obtain ⟨hin, hw⟩ := hw
      refine w_iald hx hb hK hW HB.2.1 (putAt (k := 1) (by decide)) hin dX5_setUp_26 ?_
      refine lv_topi (fun v_7 ev_7 => ?_)
      have hw := hw v_7 ev_7
      refine lv_istore_n (lv' := [(3, .int v_7), (0, .ref o), (1, .int p1), (2, .int p2)]) hx hb dX5_setUp_27 rfl hl (by decide) rfl (fun ls hl => ?_)
      refine lv_aload_n hx hb dX5_setUp_28 rfl (lv_at hl 1 rfl) ?_
      refine lv_iload_n hx hb dX5_setUp_29 rfl (lv_at hl 2 rfl) ?_
      refine lv_iload_n hx hb dX5_setUp_30 rfl (lv_at hl 3 rfl) ?_
      refine w_cvv (As := [.int p1, .int p2]) (rest := []) hx hb hml hown hts hK hW hS hl.1 (c_X5_begin hA HB (fun k hk => putAt hk)  hw) (k_X5_29 hts ⟨Nat.le_of_ble_eq_true rfl, Nat.le_of_ble_eq_true rfl⟩) (w_recv hK hW HB.1 (putAt (k := 0) (by decide)) rfl rfl) rfl rfl (Nat.le_of_ble_eq_true rfl) dX5_setUp_31 ⟨Nat.zero_le _, Nat.zero_le _⟩ (fun Ez H locs hw2 hW hS => ?_)
      obtain ⟨X_8, ez, hw⟩ := hw2
      rw [ez, putPut] at hW
      refine lv_iload_n hx hb dX5_setUp_34 rfl (lv_at hl 0 rfl) ?_
      exact w_iret hx hb hr hlocks hW hS ⟨X_8, rfl, hw⟩ dX5_setUp_35
    · have hw := hw.1 c_6
      refine lv_bipush (v := (-2)) hx hb dX5_setUp_18 (by decide) ?_
      exact w_iret hx hb hr hlocks hW hS ⟨X, rfl, hw⟩ dX5_setUp_20
set_option maxHeartbeats 4000000 in
set_option maxRecDepth 100000 in
theorem c_X5_takes {l : Launch} {g : GG} {lay : LY} {E0 : ES} {p1 : Int32} {p2 : Int32} {K : Int32 → Prop} (hw : wp_X5_takes p1 p2 K) : JMi l g lay yX5_takes wsX5_takes rmX5_takes [.int p1, .int p2] E0 (fun r E1 => E1 = E0 ∧ (r = 0 ∨ r = 1) ∧ K r) := by
  refine Met.ofW (cc := cX5_takes) (maxL := 2) (ret := (some .boolean)) (by decide) rfl ?_
  intro p e s m args below meth c s₁ B hml hv
  obtain ⟨rfl, hK, hW⟩ := hv
  have hx := B.exec
  have hb := B.bytes
  have hr := B.returns
  have hts := gd_of (atoms_spec (ws := wsX5_takes) B.pre)
  have hown : s.vm.findClass RX5 = some m.cls := findClass_of_methodNamed B.named
  have hlocks := B.notSynchronized
  have hS : va_S (Ab g) s.heap s.heap [] := va_S.rf
  have hl := lv_entry [.int p1, .int p2] (n := 2) (Nat.le_of_ble_eq_true rfl)
  rw [lg_entry_eq]
  generalize (lg_sl [.int p1, .int p2] ++ List.replicate (2 - (lg_sl [.int p1, .int p2]).length) Slot.unset).toArray = ls at hl ⊢
  have hl : lv_has ls 2 [(0, .int p1), (1, .int p2)] := hl
  unfold wp_X5_takes at hw
  refine lv_iload_n hx hb dX5_takes_0 rfl (lv_at hl 0 rfl) ?_
  by_cases c_1 : p1 = 0
  · have hw := hw.1 c_1
    refine lv_tableIn (tgt := 36) hx hb dX5_takes_1 (by rw [c_1]; decide) (by rw [c_1]; decide) (by rw [c_1] <;> rfl) (by decide) ?_
    refine lv_iload_n hx hb dX5_takes_36 rfl (lv_at hl 1 rfl) ?_
    refine lv_iconst (v := 1) hx hb dX5_takes_37 (by decide) ?_
    refine lv_sipush (v := 200) hx hb dX5_takes_38 (by decide) ?_
    refine w_csi (As := [.int p2, .int 1, .int 200]) (rest := []) hx hb hml hown hts hK hW hS hl.1 (c_X5_in hw) (k_X5_33 hts ⟨Nat.le_of_ble_eq_true rfl, Nat.le_of_ble_eq_true rfl⟩) rfl rfl (Nat.le_of_ble_eq_true rfl) dX5_takes_41 ⟨Nat.zero_le _, Nat.zero_le _⟩ (fun r_2 Ez H locs hw2 hW hS => ?_)
    obtain ⟨ez, z_3, hw⟩ := hw2
    rw [ez] at hW
    exact w_zret hx hb hr hlocks hW hS z_3 ⟨rfl, z_3, hw⟩ dX5_takes_44
  · have hw := hw.2 c_1
    by_cases c_4 : p1 = 1
    · have hw := hw.1 c_4
      refine lv_tableIn (tgt := 36) hx hb dX5_takes_1 (by rw [c_4]; decide) (by rw [c_4]; decide) (by rw [c_4] <;> rfl) (by decide) ?_
      refine lv_iload_n hx hb dX5_takes_36 rfl (lv_at hl 1 rfl) ?_
      refine lv_iconst (v := 1) hx hb dX5_takes_37 (by decide) ?_
      refine lv_sipush (v := 200) hx hb dX5_takes_38 (by decide) ?_
      refine w_csi (As := [.int p2, .int 1, .int 200]) (rest := []) hx hb hml hown hts hK hW hS hl.1 (c_X5_in hw) (k_X5_33 hts ⟨Nat.le_of_ble_eq_true rfl, Nat.le_of_ble_eq_true rfl⟩) rfl rfl (Nat.le_of_ble_eq_true rfl) dX5_takes_41 ⟨Nat.zero_le _, Nat.zero_le _⟩ (fun r_5 Ez H locs hw2 hW hS => ?_)
      obtain ⟨ez, z_6, hw⟩ := hw2
      rw [ez] at hW
      exact w_zret hx hb hr hlocks hW hS z_6 ⟨rfl, z_6, hw⟩ dX5_takes_44
    · have hw := hw.2 c_4
      by_cases c_7 : p1 = 2
      · have hw := hw.1 c_7
        refine lv_tableIn (tgt := 45) hx hb dX5_takes_1 (by rw [c_7]; decide) (by rw [c_7]; decide) (by rw [c_7] <;> rfl) (by decide) ?_
        refine lv_iload_n hx hb dX5_takes_45 rfl (lv_at hl 1 rfl) ?_
        refine lv_iconst (v := 1) hx hb dX5_takes_46 (by decide) ?_
        refine lv_bipush (v := 100) hx hb dX5_takes_47 (by decide) ?_
        refine w_csi (As := [.int p2, .int 1, .int 100]) (rest := []) hx hb hml hown hts hK hW hS hl.1 (c_X5_in hw) (k_X5_33 hts ⟨Nat.le_of_ble_eq_true rfl, Nat.le_of_ble_eq_true rfl⟩) rfl rfl (Nat.le_of_ble_eq_true rfl) dX5_takes_49 ⟨Nat.zero_le _, Nat.zero_le _⟩ (fun r_8 Ez H locs hw2 hW hS => ?_)
        obtain ⟨ez, z_9, hw⟩ := hw2
        rw [ez] at hW
        exact w_zret hx hb hr hlocks hW hS z_9 ⟨rfl, z_9, hw⟩ dX5_takes_52
      · have hw := hw.2 c_7
        by_cases c_10 : p1 = 3
        · have hw := hw.1 c_10
          refine lv_tableIn (tgt := 45) hx hb dX5_takes_1 (by rw [c_10]; decide) (by rw [c_10]; decide) (by rw [c_10] <;> rfl) (by decide) ?_
          refine lv_iload_n hx hb dX5_takes_45 rfl (lv_at hl 1 rfl) ?_
          refine lv_iconst (v := 1) hx hb dX5_takes_46 (by decide) ?_
          refine lv_bipush (v := 100) hx hb dX5_takes_47 (by decide) ?_
          refine w_csi (As := [.int p2, .int 1, .int 100]) (rest := []) hx hb hml hown hts hK hW hS hl.1 (c_X5_in hw) (k_X5_33 hts ⟨Nat.le_of_ble_eq_true rfl, Nat.le_of_ble_eq_true rfl⟩) rfl rfl (Nat.le_of_ble_eq_true rfl) dX5_takes_49 ⟨Nat.zero_le _, Nat.zero_le _⟩ (fun r_11 Ez H locs hw2 hW hS => ?_)
          obtain ⟨ez, z_12, hw⟩ := hw2
          rw [ez] at hW
          exact w_zret hx hb hr hlocks hW hS z_12 ⟨rfl, z_12, hw⟩ dX5_takes_52
        · have hw := hw.2 c_10
          by_cases c_13 : p1 = 4
          · have hw := hw.1 c_13
            refine lv_tableIn (tgt := 36) hx hb dX5_takes_1 (by rw [c_13]; decide) (by rw [c_13]; decide) (by rw [c_13] <;> rfl) (by decide) ?_
            refine lv_iload_n hx hb dX5_takes_36 rfl (lv_at hl 1 rfl) ?_
            refine lv_iconst (v := 1) hx hb dX5_takes_37 (by decide) ?_
            refine lv_sipush (v := 200) hx hb dX5_takes_38 (by decide) ?_
            refine w_csi (As := [.int p2, .int 1, .int 200]) (rest := []) hx hb hml hown hts hK hW hS hl.1 (c_X5_in hw) (k_X5_33 hts ⟨Nat.le_of_ble_eq_true rfl, Nat.le_of_ble_eq_true rfl⟩) rfl rfl (Nat.le_of_ble_eq_true rfl) dX5_takes_41 ⟨Nat.zero_le _, Nat.zero_le _⟩ (fun r_14 Ez H locs hw2 hW hS => ?_)
            obtain ⟨ez, z_15, hw⟩ := hw2
            rw [ez] at hW
            exact w_zret hx hb hr hlocks hW hS z_15 ⟨rfl, z_15, hw⟩ dX5_takes_44
          · have hw := hw.2 c_13
            refine lv_tableOut (tgt := 53) hx hb dX5_takes_1 (by have zc_1 := lv_neT (a := 0) c_1 rfl; have zc_4 := lv_neT (a := 1) c_4 rfl; have zc_7 := lv_neT (a := 2) c_7 rfl; have zc_10 := lv_neT (a := 3) c_10 rfl; have zc_13 := lv_neT (a := 4) c_13 rfl; omega) (by decide) ?_
            refine lv_iconst (v := 0) hx hb dX5_takes_53 (by decide) ?_
            exact w_zret hx hb hr hlocks hW hS (Or.inl rfl) ⟨rfl, (Or.inl rfl), hw⟩ dX5_takes_54
set_option maxHeartbeats 4000000 in
set_option maxRecDepth 100000 in
theorem c_X5_set {l : Launch} {g : GG} {lay : LY} {E0 : ES} {o : Nat} {X : ES} {p1 : Int32} {p2 : Int32} {K : Int32 → ES → Prop} (hA : okL g lay) (HB : ML g lay o) (hX : ∀ k, k < 7 → E0 (o + k) = X k) (hw : wp_X5_set X p1 p2 K) : JMi l g lay yX5_set wsX5_set rmX5_set [.ref o, .int p1, .int p2] E0 (fun r E1 => ∃ X1 : ES, E1 = put 7 o X1 E0 ∧ K r X1) := by
  refine Met.ofW (cc := cX5_set) (maxL := 4) (ret := (some .int)) (by decide) rfl ?_
  intro p e s m args below meth c s₁ B hml hv
  obtain ⟨rfl, hK, hW⟩ := hv
  have hx := B.exec
  have hb := B.bytes
  have hr := B.returns
  have hts := gd_of (atoms_spec (ws := wsX5_set) B.pre)
  have hown : s.vm.findClass RX5 = some m.cls := findClass_of_methodNamed B.named
  have hlocks := B.notSynchronized
  have hS : va_S (Ab g) s.heap s.heap [] := va_S.rf
  have hW : Wd g lay (put 7 o X E0) s.heap := by rw [putSelf hX]; exact hW
  have hl := lv_entry [.ref o, .int p1, .int p2] (n := 4) (Nat.le_of_ble_eq_true rfl)
  rw [lg_entry_eq]
  generalize (lg_sl [.ref o, .int p1, .int p2] ++ List.replicate (4 - (lg_sl [.ref o, .int p1, .int p2]).length) Slot.unset).toArray = ls at hl ⊢
  have hl : lv_has ls 4 [(0, .ref o), (1, .int p1), (2, .int p2)] := hl
  unfold wp_X5_set at hw
  refine lv_iload_n hx hb dX5_set_0 rfl (lv_at hl 1 rfl) ?_
  refine lv_iload_n hx hb dX5_set_1 rfl (lv_at hl 2 rfl) ?_
  refine w_csi (As := [.int p1, .int p2]) (rest := []) hx hb hml hown hts hK hW hS hl.1 (c_X5_takes hw) (k_X5_49 hts ⟨Nat.le_of_ble_eq_true rfl, Nat.le_of_ble_eq_true rfl⟩) rfl rfl (Nat.le_of_ble_eq_true rfl) dX5_set_2 ⟨Nat.zero_le _, Nat.zero_le _⟩ (fun r_1 Ez H locs hw2 hW hS => ?_)
  obtain ⟨ez, z_2, hw⟩ := hw2
  rw [ez] at hW
  refine lv_if_ne (tgt := 11) hx hb dX5_set_5 (by decide) (fun c_3 => ?_) (fun c_3 => ?_)
  · have hw := hw.2 c_3
    refine lv_aload_n hx hb dX5_set_11 rfl (lv_at hl 0 rfl) ?_
    refine lv_iload_n hx hb dX5_set_12 rfl (lv_at hl 1 rfl) ?_
    refine w_cvi (As := [.int p1]) (rest := []) hx hb hml hown hts hK hW hS hl.1 (c_X5_setting hA HB (fun k hk => putAt hk)  hw) (k_X5_53 hts ⟨Nat.le_of_ble_eq_true rfl, Nat.le_of_ble_eq_true rfl⟩) (w_recv hK hW HB.1 (putAt (k := 0) (by decide)) rfl rfl) rfl rfl (Nat.le_of_ble_eq_true rfl) dX5_set_13 ⟨Nat.zero_le _, Nat.zero_le _⟩ (fun r_4 Ez H locs hw2 hW hS => ?_)
    obtain ⟨ez, hw⟩ := hw2
    rw [ez] at hW
    refine lv_istore_n (lv' := [(3, .int r_4), (0, .ref o), (1, .int p1), (2, .int p2)]) hx hb dX5_set_16 rfl hl (by decide) rfl (fun ls hl => ?_)
    refine lv_aload_n hx hb dX5_set_17 rfl (lv_at hl 1 rfl) ?_
    refine g_X5_7 hx hb hown hts hK hW HB.1 (putAt (k := 0) (by decide)) dX5_set_18 ?_
    refine lv_iconst (v := 5) hx hb dX5_set_21 (by decide) ?_
    refine lv_iload_n hx hb dX5_set_22 rfl (lv_at hl 2 rfl) ?_
    refine lv_iadd hx hb dX5_set_23 ?_
    refine lv_iload_n hx hb dX5_set_24 rfl (lv_at hl 3 rfl) ?_
    obtain ⟨hin, hw⟩ := hw
    obtain ⟨X_5, eX_5⟩ : ∃ z : ES, z = va_up X 1 (upd (X 1) (5 + p1).toNatClampNeg p2) := ⟨_, rfl⟩
    have hw := hw X_5 eX_5
    refine w_iast (E1 := put 7 o X_5 E0) hx hb hK hA hW hS HB.2.1 (putAt (k := 1) (by decide)) hin dX5_set_25 (puE (k := 1) (by decide) eX_5) (fun H locs hW hS => ?_)
    refine lv_iload_n hx hb dX5_set_26 rfl (lv_at hl 0 rfl) ?_
    exact w_iret hx hb hr hlocks hW hS ⟨X_5, rfl, hw⟩ dX5_set_27
  · have hw := hw.1 c_3
    refine lv_bipush (v := (-2)) hx hb dX5_set_8 (by decide) ?_
    exact w_iret hx hb hr hlocks hW hS ⟨X, rfl, hw⟩ dX5_set_10
set_option maxHeartbeats 4000000 in
set_option maxRecDepth 100000 in
theorem c_X5_isLine {l : Launch} {g : GG} {lay : LY} {E0 : ES} {p1 : Int32} {K : Int32 → Prop} (hw : wp_X5_isLine p1 K) : JMi l g lay yX5_isLine wsX5_isLine rmX5_isLine [.int p1] E0 (fun r E1 => E1 = E0 ∧ (r = 0 ∨ r = 1) ∧ K r) := by
  refine Met.ofW (cc := cX5_isLine) (maxL := 1) (ret := (some .boolean)) (by decide) rfl ?_
  intro p e s m args below meth c s₁ B hml hv
  obtain ⟨rfl, hK, hW⟩ := hv
  have hx := B.exec
  have hb := B.bytes
  have hr := B.returns
  have hts := gd_of (atoms_spec (ws := wsX5_isLine) B.pre)
  have hown : s.vm.findClass RX5 = some m.cls := findClass_of_methodNamed B.named
  have hlocks := B.notSynchronized
  have hS : va_S (Ab g) s.heap s.heap [] := va_S.rf
  have hl := lv_entry [.int p1] (n := 1) (Nat.le_of_ble_eq_true rfl)
  rw [lg_entry_eq]
  generalize (lg_sl [.int p1] ++ List.replicate (1 - (lg_sl [.int p1]).length) Slot.unset).toArray = ls at hl ⊢
  have hl : lv_has ls 1 [(0, .int p1)] := hl
  unfold wp_X5_isLine at hw
  refine lv_iload_n hx hb dX5_isLine_0 rfl (lv_at hl 0 rfl) ?_
  refine lv_iconst (v := 0) hx hb dX5_isLine_1 (by decide) ?_
  refine lv_bipush (v := 15) hx hb dX5_isLine_2 (by decide) ?_
  refine w_csi (As := [.int p1, .int 0, .int 15]) (rest := []) hx hb hml hown hts hK hW hS hl.1 (c_X5_in hw) (k_X5_33 hts ⟨Nat.le_of_ble_eq_true rfl, Nat.le_of_ble_eq_true rfl⟩) rfl rfl (Nat.le_of_ble_eq_true rfl) dX5_isLine_4 ⟨Nat.zero_le _, Nat.zero_le _⟩ (fun r_1 Ez H locs hw2 hW hS => ?_)
  obtain ⟨ez, z_2, hw⟩ := hw2
  rw [ez] at hW
  exact w_zret hx hb hr hlocks hW hS z_2 ⟨rfl, z_2, hw⟩ dX5_isLine_7
set_option maxHeartbeats 4000000 in
set_option maxRecDepth 100000 in
theorem c_X5_isFinder {l : Launch} {g : GG} {lay : LY} {E0 : ES} {o : Nat} {X : ES} {p1 : Int32} {K : Int32 → Prop} (hA : okL g lay) (HB : ML g lay o) (hX : ∀ k, k < 7 → E0 (o + k) = X k) (hw : wp_X5_isFinder X p1 K) : JMi l g lay yX5_isFinder wsX5_isFinder rmX5_isFinder [.ref o, .int p1] E0 (fun r E1 => E1 = E0 ∧ (r = 0 ∨ r = 1) ∧ K r) := by
  refine Met.ofW (cc := cX5_isFinder) (maxL := 2) (ret := (some .boolean)) (by decide) rfl ?_
  intro p e s m args below meth c s₁ B hml hv
  obtain ⟨rfl, hK, hW⟩ := hv
  have hx := B.exec
  have hb := B.bytes
  have hr := B.returns
  have hts := gd_of (atoms_spec (ws := wsX5_isFinder) B.pre)
  have hown : s.vm.findClass RX5 = some m.cls := findClass_of_methodNamed B.named
  have hlocks := B.notSynchronized
  have hS : va_S (Ab g) s.heap s.heap [] := va_S.rf
  have hl := lv_entry [.ref o, .int p1] (n := 2) (Nat.le_of_ble_eq_true rfl)
  rw [lg_entry_eq]
  generalize (lg_sl [.ref o, .int p1] ++ List.replicate (2 - (lg_sl [.ref o, .int p1]).length) Slot.unset).toArray = ls at hl ⊢
  have hl : lv_has ls 2 [(0, .ref o), (1, .int p1)] := hl
  unfold wp_X5_isFinder at hw
  refine lv_iload_n hx hb dX5_isFinder_0 rfl (lv_at hl 1 rfl) ?_
  refine lv_iconst (v := 0) hx hb dX5_isFinder_1 (by decide) ?_
  refine lv_aload_n hx hb dX5_isFinder_2 rfl (lv_at hl 0 rfl) ?_
  refine g_X5_7 hx hb hown hts hK hW HB.1 (hX 0 (by decide)) dX5_isFinder_3 ?_
  refine lv_iconst (v := 1) hx hb dX5_isFinder_6 (by decide) ?_
  obtain ⟨hin, hw⟩ := hw
  refine w_iald hx hb hK hW HB.2.1 (hX 1 (by decide)) hin dX5_isFinder_7 ?_
  refine lv_iconst (v := 1) hx hb dX5_isFinder_8 (by decide) ?_
  refine lv_isub hx hb dX5_isFinder_9 ?_
  refine w_csi (As := [.int p1, .int 0, .int (((X 1) (1 : Int32).toNatClampNeg) - 1)]) (rest := []) hx hb hml hown hts hK hW hS hl.1 (c_X5_in hw) (k_X5_33 hts ⟨Nat.le_of_ble_eq_true rfl, Nat.le_of_ble_eq_true rfl⟩) rfl rfl (Nat.le_of_ble_eq_true rfl) dX5_isFinder_10 ⟨Nat.zero_le _, Nat.zero_le _⟩ (fun r_1 Ez H locs hw2 hW hS => ?_)
  obtain ⟨ez, z_2, hw⟩ := hw2
  rw [ez] at hW
  exact w_zret hx hb hr hlocks hW hS z_2 ⟨rfl, z_2, hw⟩ dX5_isFinder_13
set_option maxHeartbeats 4000000 in
set_option maxRecDepth 100000 in
theorem c_X5_finderOf {l : Launch} {g : GG} {lay : LY} {E0 : ES} {o : Nat} {X : ES} {p1 : Int32} {K : Int32 → Prop} (hA : okL g lay) (HB : ML g lay o) (hX : ∀ k, k < 7 → E0 (o + k) = X k) (hw : wp_X5_finderOf X p1 K) : JMi l g lay yX5_finderOf wsX5_finderOf rmX5_finderOf [.ref o, .int p1] E0 (fun r E1 => E1 = E0 ∧ K r) := by
  refine Met.ofW (cc := cX5_finderOf) (maxL := 3) (ret := (some .int)) (by decide) rfl ?_
  intro p e s m args below meth c s₁ B hml hv
  obtain ⟨rfl, hK, hW⟩ := hv
  have hx := B.exec
  have hb := B.bytes
  have hr := B.returns
  have hts := gd_of (atoms_spec (ws := wsX5_finderOf) B.pre)
  have hown : s.vm.findClass RX5 = some m.cls := findClass_of_methodNamed B.named
  have hlocks := B.notSynchronized
  have hS : va_S (Ab g) s.heap s.heap [] := va_S.rf
  have hl := lv_entry [.ref o, .int p1] (n := 3) (Nat.le_of_ble_eq_true rfl)
  rw [lg_entry_eq]
  generalize (lg_sl [.ref o, .int p1] ++ List.replicate (3 - (lg_sl [.ref o, .int p1]).length) Slot.unset).toArray = ls at hl ⊢
  have hl : lv_has ls 3 [(0, .ref o), (1, .int p1)] := hl
  unfold wp_X5_finderOf at hw
  refine lv_iconst (v := 0) hx hb dX5_finderOf_0 (by decide) ?_
  refine lv_istore_n (lv' := [(2, .int 0), (0, .ref o), (1, .int p1)]) hx hb dX5_finderOf_1 rfl hl (by decide) rfl (fun ls hl => ?_)
  obtain ⟨n_18, hw⟩ := hw
  refine w_loop (KT := Int32 → Prop) (σ := Int32) (Wl := fun Kx_2 n_2 q => wpl_X5_finderOf_2 X p1 K Kx_2 n_2 q) (Pw := fun q => Wd g lay (E0)) (lvf := fun q => [(0, .ref o), (1, .int p1), (2, .int q)]) (nL := 3) n_18 (0) hw hW hS (lv_sub hl [1, 2, 0] rfl) (fun _ h => h) (fun Kx_2 eK_2 n_2 q H locs ls hw hW hS hl ih_2 => ?_)
  obtain ⟨i_1, rfl⟩ : ∃ z, z = q := ⟨_, rfl⟩
  try dsimp only at hw
  rw [wpl_X5_finderOf_2] at hw
  have hl : lv_has ls 3 [(0, .ref o), (1, .int p1), (2, .int i_1)] := hl
  have hW : Wd g lay (E0) H := hW
  refine lv_iload_n hx hb dX5_finderOf_2 rfl (lv_at hl 2 rfl) ?_
  refine lv_aload_n hx hb dX5_finderOf_3 rfl (lv_at hl 0 rfl) ?_
  refine g_X5_7 hx hb hown hts hK hW HB.1 (hX 0 (by decide)) dX5_finderOf_4 ?_
  refine lv_iconst (v := 1) hx hb dX5_finderOf_7 (by decide) ?_
  obtain ⟨hin, hw⟩ := hw
  refine w_iald hx hb hK hW HB.2.1 (hX 1 (by decide)) hin dX5_finderOf_8 ?_
  refine lv_icmp_ge (tgt := 39) hx hb dX5_finderOf_9 (by decide) (fun c_11 => ?_) (fun c_11 => ?_)
  · have hw := hw.1 c_11
    rw [eK_2] at hw
    refine lv_bipush (v := (-6)) hx hb dX5_finderOf_39 (by decide) ?_
    exact w_iret hx hb hr hlocks hW hS ⟨rfl, hw⟩ dX5_finderOf_41
  · have hw := hw.2 c_11
    refine lv_aload_n hx hb dX5_finderOf_12 rfl (lv_at hl 0 rfl) ?_
    refine lv_iload_n hx hb dX5_finderOf_13 rfl (lv_at hl 2 rfl) ?_
    refine lv_iconst (v := 0) hx hb dX5_finderOf_14 (by decide) ?_
    refine w_cvi (As := [.int i_1, .int 0]) (rest := []) hx hb hml hown hts hK hW hS hl.1 (c_X5_ofFinder hA HB hX  hw) (k_X5_41 hts ⟨Nat.le_of_ble_eq_true rfl, Nat.le_of_ble_eq_true rfl⟩) (w_recv hK hW HB.1 (hX 0 (by decide)) rfl rfl) rfl rfl (Nat.le_of_ble_eq_true rfl) dX5_finderOf_15 ⟨Nat.zero_le _, Nat.zero_le _⟩ (fun r_12 Ez H locs hw2 hW hS => ?_)
    obtain ⟨ez, hw⟩ := hw2
    rw [ez] at hW
    refine lv_if_eq (tgt := 33) hx hb dX5_finderOf_18 (by decide) (fun c_13 => ?_) (fun c_13 => ?_)
    · have hw := hw.1 c_13
      obtain ⟨v_14, ev_14⟩ : ∃ z : Int32, z = i_1 + 1 := ⟨_, rfl⟩
      have hw := hw v_14 ev_14
      refine lv_iinc (v := v_14) (lv' := [(2, .int v_14), (0, .ref o), (1, .int p1)]) hx hb dX5_finderOf_33 hl (k := 2) rfl (by rw [ev_14]; rfl) (by decide) rfl (fun ls hl => ?_)
      refine lv_goto (tgt := 2) hx hb dX5_finderOf_36 (by decide) ?_
      exact ih_2 (v_14) _ _ _ hw hW hS (lv_sub hl [1, 2, 0] rfl)
    · have hw := hw.2 c_13
      refine lv_aload_n hx hb dX5_finderOf_21 rfl (lv_at hl 0 rfl) ?_
      refine lv_iload_n hx hb dX5_finderOf_22 rfl (lv_at hl 2 rfl) ?_
      refine lv_iconst (v := 2) hx hb dX5_finderOf_23 (by decide) ?_
      refine w_cvi (As := [.int i_1, .int 2]) (rest := []) hx hb hml hown hts hK hW hS hl.1 (c_X5_ofFinder hA HB hX  hw) (k_X5_41 hts ⟨Nat.le_of_ble_eq_true rfl, Nat.le_of_ble_eq_true rfl⟩) (w_recv hK hW HB.1 (hX 0 (by decide)) rfl rfl) rfl rfl (Nat.le_of_ble_eq_true rfl) dX5_finderOf_24 ⟨Nat.zero_le _, Nat.zero_le _⟩ (fun r_15 Ez H locs hw2 hW hS => ?_)
      obtain ⟨ez, hw⟩ := hw2
      rw [ez] at hW
      refine lv_iload_n hx hb dX5_finderOf_27 rfl (lv_at hl 1 rfl) ?_
      refine lv_icmp_ne (tgt := 33) hx hb dX5_finderOf_28 (by decide) (fun c_16 => ?_) (fun c_16 => ?_)
      · have hw := hw.2 c_16
        obtain ⟨v_17, ev_17⟩ : ∃ z : Int32, z = i_1 + 1 := ⟨_, rfl⟩
        have hw := hw v_17 ev_17
        refine lv_iinc (v := v_17) (lv' := [(2, .int v_17), (0, .ref o), (1, .int p1)]) hx hb dX5_finderOf_33 hl (k := 2) rfl (by rw [ev_17]; rfl) (by decide) rfl (fun ls hl => ?_)
        refine lv_goto (tgt := 2) hx hb dX5_finderOf_36 (by decide) ?_
        exact ih_2 (v_17) _ _ _ hw hW hS (lv_sub hl [1, 2, 0] rfl)
      · have hw := hw.1 c_16
        refine lv_iload_n hx hb dX5_finderOf_31 rfl (lv_at hl 2 rfl) ?_
        exact w_iret hx hb hr hlocks hW hS ⟨rfl, hw⟩ dX5_finderOf_32
set_option maxHeartbeats 4000000 in
set_option maxRecDepth 100000 in
theorem c_X5_isHolding {l : Launch} {g : GG} {lay : LY} {E0 : ES} {o : Nat} {X : ES} {p1 : Int32} {K : Int32 → Prop} (hA : okL g lay) (HB : ML g lay o) (hX : ∀ k, k < 7 → E0 (o + k) = X k) (hw : wp_X5_isHolding X p1 K) : JMi l g lay yX5_isHolding wsX5_isHolding rmX5_isHolding [.ref o, .int p1] E0 (fun r E1 => E1 = E0 ∧ (r = 0 ∨ r = 1) ∧ K r) := by
  refine Met.ofW (cc := cX5_isHolding) (maxL := 2) (ret := (some .boolean)) (by decide) rfl ?_
  intro p e s m args below meth c s₁ B hml hv
  obtain ⟨rfl, hK, hW⟩ := hv
  have hx := B.exec
  have hb := B.bytes
  have hr := B.returns
  have hts := gd_of (atoms_spec (ws := wsX5_isHolding) B.pre)
  have hown : s.vm.findClass RX5 = some m.cls := findClass_of_methodNamed B.named
  have hlocks := B.notSynchronized
  have hS : va_S (Ab g) s.heap s.heap [] := va_S.rf
  have hl := lv_entry [.ref o, .int p1] (n := 2) (Nat.le_of_ble_eq_true rfl)
  rw [lg_entry_eq]
  generalize (lg_sl [.ref o, .int p1] ++ List.replicate (2 - (lg_sl [.ref o, .int p1]).length) Slot.unset).toArray = ls at hl ⊢
  have hl : lv_has ls 2 [(0, .ref o), (1, .int p1)] := hl
  unfold wp_X5_isHolding at hw
  refine lv_aload_n hx hb dX5_isHolding_0 rfl (lv_at hl 0 rfl) ?_
  refine lv_iload_n hx hb dX5_isHolding_1 rfl (lv_at hl 1 rfl) ?_
  refine lv_iconst (v := 0) hx hb dX5_isHolding_2 (by decide) ?_
  refine w_cvi (As := [.int p1, .int 0]) (rest := []) hx hb hml hown hts hK hW hS hl.1 (c_X5_ofFinder hA HB hX  hw) (k_X5_41 hts ⟨Nat.le_of_ble_eq_true rfl, Nat.le_of_ble_eq_true rfl⟩) (w_recv hK hW HB.1 (hX 0 (by decide)) rfl rfl) rfl rfl (Nat.le_of_ble_eq_true rfl) dX5_isHolding_3 ⟨Nat.zero_le _, Nat.zero_le _⟩ (fun r_1 Ez H locs hw2 hW hS => ?_)
  obtain ⟨ez, hw⟩ := hw2
  rw [ez] at hW
  refine lv_iconst (v := 5) hx hb dX5_isHolding_6 (by decide) ?_
  refine lv_bipush (v := 8) hx hb dX5_isHolding_7 (by decide) ?_
  refine w_csi (As := [.int r_1, .int 5, .int 8]) (rest := []) hx hb hml hown hts hK hW hS hl.1 (c_X5_in hw) (k_X5_33 hts ⟨Nat.le_of_ble_eq_true rfl, Nat.le_of_ble_eq_true rfl⟩) rfl rfl (Nat.le_of_ble_eq_true rfl) dX5_isHolding_9 ⟨Nat.zero_le _, Nat.zero_le _⟩ (fun r_2 Ez H locs hw2 hW hS => ?_)
  obtain ⟨ez, z_3, hw⟩ := hw2
  rw [ez] at hW
  exact w_zret hx hb hr hlocks hW hS z_3 ⟨rfl, z_3, hw⟩ dX5_isHolding_12
set_option maxHeartbeats 4000000 in
set_option maxRecDepth 100000 in
theorem c_X5_holder {l : Launch} {g : GG} {lay : LY} {E0 : ES} {o : Nat} {X : ES} {p1 : Int32} {p2 : Int32} {K : Int32 → Prop} (hA : okL g lay) (HB : ML g lay o) (hX : ∀ k, k < 7 → E0 (o + k) = X k) (hw : wp_X5_holder X p1 p2 K) : JMi l g lay yX5_holder wsX5_holder rmX5_holder [.ref o, .int p1, .int p2] E0 (fun r E1 => E1 = E0 ∧ K r) := by
  refine Met.ofW (cc := cX5_holder) (maxL := 4) (ret := (some .int)) (by decide) rfl ?_
  intro p e s m args below meth c s₁ B hml hv
  obtain ⟨rfl, hK, hW⟩ := hv
  have hx := B.exec
  have hb := B.bytes
  have hr := B.returns
  have hts := gd_of (atoms_spec (ws := wsX5_holder) B.pre)
  have hown : s.vm.findClass RX5 = some m.cls := findClass_of_methodNamed B.named
  have hlocks := B.notSynchronized
  have hS : va_S (Ab g) s.heap s.heap [] := va_S.rf
  have hl := lv_entry [.ref o, .int p1, .int p2] (n := 4) (Nat.le_of_ble_eq_true rfl)
  rw [lg_entry_eq]
  generalize (lg_sl [.ref o, .int p1, .int p2] ++ List.replicate (4 - (lg_sl [.ref o, .int p1, .int p2]).length) Slot.unset).toArray = ls at hl ⊢
  have hl : lv_has ls 4 [(0, .ref o), (1, .int p1), (2, .int p2)] := hl
  unfold wp_X5_holder at hw
  refine lv_iconst (v := 0) hx hb dX5_holder_0 (by decide) ?_
  refine lv_istore_n (lv' := [(3, .int 0), (0, .ref o), (1, .int p1), (2, .int p2)]) hx hb dX5_holder_1 rfl hl (by decide) rfl (fun ls hl => ?_)
  obtain ⟨n_27, hw⟩ := hw
  refine w_loop (KT := Int32 → Prop) (σ := Int32) (Wl := fun Kx_2 n_2 q => wpl_X5_holder_2 X p1 p2 K Kx_2 n_2 q) (Pw := fun q => Wd g lay (E0)) (lvf := fun q => [(0, .ref o), (1, .int p1), (2, .int p2), (3, .int q)]) (nL := 4) n_27 (0) hw hW hS (lv_sub hl [1, 2, 3, 0] rfl) (fun _ h => h) (fun Kx_2 eK_2 n_2 q H locs ls hw hW hS hl ih_2 => ?_)
  obtain ⟨i_1, rfl⟩ : ∃ z, z = q := ⟨_, rfl⟩
  try dsimp only at hw
  rw [wpl_X5_holder_2] at hw
  have hl : lv_has ls 4 [(0, .ref o), (1, .int p1), (2, .int p2), (3, .int i_1)] := hl
  have hW : Wd g lay (E0) H := hW
  refine lv_iload_n hx hb dX5_holder_2 rfl (lv_at hl 3 rfl) ?_
  refine lv_aload_n hx hb dX5_holder_3 rfl (lv_at hl 0 rfl) ?_
  refine g_X5_7 hx hb hown hts hK hW HB.1 (hX 0 (by decide)) dX5_holder_4 ?_
  refine lv_iconst (v := 1) hx hb dX5_holder_7 (by decide) ?_
  obtain ⟨hin, hw⟩ := hw
  refine w_iald hx hb hK hW HB.2.1 (hX 1 (by decide)) hin dX5_holder_8 ?_
  refine lv_icmp_ge (tgt := 48) hx hb dX5_holder_9 (by decide) (fun c_16 => ?_) (fun c_16 => ?_)
  · have hw := hw.1 c_16
    rw [eK_2] at hw
    refine lv_bipush (v := (-6)) hx hb dX5_holder_48 (by decide) ?_
    exact w_iret hx hb hr hlocks hW hS ⟨rfl, hw⟩ dX5_holder_50
  · have hw := hw.2 c_16
    refine lv_aload_n hx hb dX5_holder_12 rfl (lv_at hl 0 rfl) ?_
    refine lv_iload_n hx hb dX5_holder_13 rfl (lv_at hl 3 rfl) ?_
    refine w_cvi (As := [.int i_1]) (rest := []) hx hb hml hown hts hK hW hS hl.1 (c_X5_isHolding hA HB hX  hw) (k_X5_57 hts ⟨Nat.le_of_ble_eq_true rfl, Nat.le_of_ble_eq_true rfl⟩) (w_recv hK hW HB.1 (hX 0 (by decide)) rfl rfl) rfl rfl (Nat.le_of_ble_eq_true rfl) dX5_holder_14 ⟨Nat.zero_le _, Nat.zero_le _⟩ (fun r_17 Ez H locs hw2 hW hS => ?_)
    obtain ⟨ez, z_18, hw⟩ := hw2
    rw [ez] at hW
    refine lv_if_eq (tgt := 42) hx hb dX5_holder_17 (by decide) (fun c_19 => ?_) (fun c_19 => ?_)
    · have hw := hw.1 c_19
      obtain ⟨v_20, ev_20⟩ : ∃ z : Int32, z = i_1 + 1 := ⟨_, rfl⟩
      have hw := hw v_20 ev_20
      refine lv_iinc (v := v_20) (lv' := [(3, .int v_20), (0, .ref o), (1, .int p1), (2, .int p2)]) hx hb dX5_holder_42 hl (k := 3) rfl (by rw [ev_20]; rfl) (by decide) rfl (fun ls hl => ?_)
      refine lv_goto (tgt := 2) hx hb dX5_holder_45 (by decide) ?_
      exact ih_2 (v_20) _ _ _ hw hW hS (lv_sub hl [1, 2, 3, 0] rfl)
    · have hw := hw.2 c_19
      refine lv_aload_n hx hb dX5_holder_20 rfl (lv_at hl 0 rfl) ?_
      refine lv_iload_n hx hb dX5_holder_21 rfl (lv_at hl 3 rfl) ?_
      refine lv_iconst (v := 3) hx hb dX5_holder_22 (by decide) ?_
      refine w_cvi (As := [.int i_1, .int 3]) (rest := []) hx hb hml hown hts hK hW hS hl.1 (c_X5_ofFinder hA HB hX  hw) (k_X5_41 hts ⟨Nat.le_of_ble_eq_true rfl, Nat.le_of_ble_eq_true rfl⟩) (w_recv hK hW HB.1 (hX 0 (by decide)) rfl rfl) rfl rfl (Nat.le_of_ble_eq_true rfl) dX5_holder_23 ⟨Nat.zero_le _, Nat.zero_le _⟩ (fun r_21 Ez H locs hw2 hW hS => ?_)
      obtain ⟨ez, hw⟩ := hw2
      rw [ez] at hW
      refine lv_iload_n hx hb dX5_holder_26 rfl (lv_at hl 1 rfl) ?_
      refine lv_icmp_ne (tgt := 42) hx hb dX5_holder_27 (by decide) (fun c_22 => ?_) (fun c_22 => ?_)
      · have hw := hw.2 c_22
        obtain ⟨v_23, ev_23⟩ : ∃ z : Int32, z = i_1 + 1 := ⟨_, rfl⟩
        have hw := hw v_23 ev_23
        refine lv_iinc (v := v_23) (lv' := [(3, .int v_23), (0, .ref o), (1, .int p1), (2, .int p2)]) hx hb dX5_holder_42 hl (k := 3) rfl (by rw [ev_23]; rfl) (by decide) rfl (fun ls hl => ?_)
        refine lv_goto (tgt := 2) hx hb dX5_holder_45 (by decide) ?_
        exact ih_2 (v_23) _ _ _ hw hW hS (lv_sub hl [1, 2, 3, 0] rfl)
      · have hw := hw.1 c_22
        refine lv_aload_n hx hb dX5_holder_30 rfl (lv_at hl 0 rfl) ?_
        refine lv_iload_n hx hb dX5_holder_31 rfl (lv_at hl 3 rfl) ?_
        refine lv_iconst (v := 4) hx hb dX5_holder_32 (by decide) ?_
        refine w_cvi (As := [.int i_1, .int 4]) (rest := []) hx hb hml hown hts hK hW hS hl.1 (c_X5_ofFinder hA HB hX  hw) (k_X5_41 hts ⟨Nat.le_of_ble_eq_true rfl, Nat.le_of_ble_eq_true rfl⟩) (w_recv hK hW HB.1 (hX 0 (by decide)) rfl rfl) rfl rfl (Nat.le_of_ble_eq_true rfl) dX5_holder_33 ⟨Nat.zero_le _, Nat.zero_le _⟩ (fun r_24 Ez H locs hw2 hW hS => ?_)
        obtain ⟨ez, hw⟩ := hw2
        rw [ez] at hW
        refine lv_iload_n hx hb dX5_holder_36 rfl (lv_at hl 2 rfl) ?_
        refine lv_icmp_ne (tgt := 42) hx hb dX5_holder_37 (by decide) (fun c_25 => ?_) (fun c_25 => ?_)
        · have hw := hw.2 c_25
          obtain ⟨v_26, ev_26⟩ : ∃ z : Int32, z = i_1 + 1 := ⟨_, rfl⟩
          have hw := hw v_26 ev_26
          refine lv_iinc (v := v_26) (lv' := [(3, .int v_26), (0, .ref o), (1, .int p1), (2, .int p2)]) hx hb dX5_holder_42 hl (k := 3) rfl (by rw [ev_26]; rfl) (by decide) rfl (fun ls hl => ?_)
          refine lv_goto (tgt := 2) hx hb dX5_holder_45 (by decide) ?_
          exact ih_2 (v_26) _ _ _ hw hW hS (lv_sub hl [1, 2, 3, 0] rfl)
        · have hw := hw.1 c_25
          refine lv_iload_n hx hb dX5_holder_40 rfl (lv_at hl 3 rfl) ?_
          exact w_iret hx hb hr hlocks hW hS ⟨rfl, hw⟩ dX5_holder_41
set_option maxHeartbeats 4000000 in
set_option maxRecDepth 100000 in
theorem c_X5_finderTo {l : Launch} {g : GG} {lay : LY} {E0 : ES} {o : Nat} {X : ES} {p1 : Int32} {K : Int32 → Prop} (hA : okL g lay) (HB : ML g lay o) (hX : ∀ k, k < 7 → E0 (o + k) = X k) (hw : wp_X5_finderTo X p1 K) : JMi l g lay yX5_finderTo wsX5_finderTo rmX5_finderTo [.ref o, .int p1] E0 (fun r E1 => E1 = E0 ∧ K r) := by
  refine Met.ofW (cc := cX5_finderTo) (maxL := 3) (ret := (some .int)) (by decide) rfl ?_
  intro p e s m args below meth c s₁ B hml hv
  obtain ⟨rfl, hK, hW⟩ := hv
  have hx := B.exec
  have hb := B.bytes
  have hr := B.returns
  have hts := gd_of (atoms_spec (ws := wsX5_finderTo) B.pre)
  have hown : s.vm.findClass RX5 = some m.cls := findClass_of_methodNamed B.named
  have hlocks := B.notSynchronized
  have hS : va_S (Ab g) s.heap s.heap [] := va_S.rf
  have hl := lv_entry [.ref o, .int p1] (n := 3) (Nat.le_of_ble_eq_true rfl)
  rw [lg_entry_eq]
  generalize (lg_sl [.ref o, .int p1] ++ List.replicate (3 - (lg_sl [.ref o, .int p1]).length) Slot.unset).toArray = ls at hl ⊢
  have hl : lv_has ls 3 [(0, .ref o), (1, .int p1)] := hl
  unfold wp_X5_finderTo at hw
  refine lv_iconst (v := 0) hx hb dX5_finderTo_0 (by decide) ?_
  refine lv_istore_n (lv' := [(2, .int 0), (0, .ref o), (1, .int p1)]) hx hb dX5_finderTo_1 rfl hl (by decide) rfl (fun ls hl => ?_)
  obtain ⟨n_22, hw⟩ := hw
  refine w_loop (KT := Int32 → Prop) (σ := Int32) (Wl := fun Kx_2 n_2 q => wpl_X5_finderTo_2 X p1 K Kx_2 n_2 q) (Pw := fun q => Wd g lay (E0)) (lvf := fun q => [(0, .ref o), (1, .int p1), (2, .int q)]) (nL := 3) n_22 (0) hw hW hS (lv_sub hl [1, 2, 0] rfl) (fun _ h => h) (fun Kx_2 eK_2 n_2 q H locs ls hw hW hS hl ih_2 => ?_)
  obtain ⟨i_1, rfl⟩ : ∃ z, z = q := ⟨_, rfl⟩
  try dsimp only at hw
  rw [wpl_X5_finderTo_2] at hw
  have hl : lv_has ls 3 [(0, .ref o), (1, .int p1), (2, .int i_1)] := hl
  have hW : Wd g lay (E0) H := hW
  refine lv_iload_n hx hb dX5_finderTo_2 rfl (lv_at hl 2 rfl) ?_
  refine lv_aload_n hx hb dX5_finderTo_3 rfl (lv_at hl 0 rfl) ?_
  refine g_X5_7 hx hb hown hts hK hW HB.1 (hX 0 (by decide)) dX5_finderTo_4 ?_
  refine lv_iconst (v := 1) hx hb dX5_finderTo_7 (by decide) ?_
  obtain ⟨hin, hw⟩ := hw
  refine w_iald hx hb hK hW HB.2.1 (hX 1 (by decide)) hin dX5_finderTo_8 ?_
  refine lv_icmp_ge (tgt := 47) hx hb dX5_finderTo_9 (by decide) (fun c_13 => ?_) (fun c_13 => ?_)
  · have hw := hw.1 c_13
    rw [eK_2] at hw
    refine lv_bipush (v := (-6)) hx hb dX5_finderTo_47 (by decide) ?_
    exact w_iret hx hb hr hlocks hW hS ⟨rfl, hw⟩ dX5_finderTo_49
  · have hw := hw.2 c_13
    refine lv_aload_n hx hb dX5_finderTo_12 rfl (lv_at hl 0 rfl) ?_
    refine lv_iload_n hx hb dX5_finderTo_13 rfl (lv_at hl 2 rfl) ?_
    refine lv_iconst (v := 0) hx hb dX5_finderTo_14 (by decide) ?_
    refine w_cvi (As := [.int i_1, .int 0]) (rest := []) hx hb hml hown hts hK hW hS hl.1 (c_X5_ofFinder hA HB hX  hw) (k_X5_41 hts ⟨Nat.le_of_ble_eq_true rfl, Nat.le_of_ble_eq_true rfl⟩) (w_recv hK hW HB.1 (hX 0 (by decide)) rfl rfl) rfl rfl (Nat.le_of_ble_eq_true rfl) dX5_finderTo_15 ⟨Nat.zero_le _, Nat.zero_le _⟩ (fun r_14 Ez H locs hw2 hW hS => ?_)
    obtain ⟨ez, hw⟩ := hw2
    rw [ez] at hW
    refine lv_bipush (v := 7) hx hb dX5_finderTo_18 (by decide) ?_
    refine lv_bipush (v := 8) hx hb dX5_finderTo_20 (by decide) ?_
    refine w_csi (As := [.int r_14, .int 7, .int 8]) (rest := []) hx hb hml hown hts hK hW hS hl.1 (c_X5_in hw) (k_X5_33 hts ⟨Nat.le_of_ble_eq_true rfl, Nat.le_of_ble_eq_true rfl⟩) rfl rfl (Nat.le_of_ble_eq_true rfl) dX5_finderTo_22 ⟨Nat.zero_le _, Nat.zero_le _⟩ (fun r_15 Ez H locs hw2 hW hS => ?_)
    obtain ⟨ez, z_16, hw⟩ := hw2
    rw [ez] at hW
    refine lv_if_eq (tgt := 41) hx hb dX5_finderTo_25 (by decide) (fun c_17 => ?_) (fun c_17 => ?_)
    · have hw := hw.1 c_17
      obtain ⟨v_18, ev_18⟩ : ∃ z : Int32, z = i_1 + 1 := ⟨_, rfl⟩
      have hw := hw v_18 ev_18
      refine lv_iinc (v := v_18) (lv' := [(2, .int v_18), (0, .ref o), (1, .int p1)]) hx hb dX5_finderTo_41 hl (k := 2) rfl (by rw [ev_18]; rfl) (by decide) rfl (fun ls hl => ?_)
      refine lv_goto (tgt := 2) hx hb dX5_finderTo_44 (by decide) ?_
      exact ih_2 (v_18) _ _ _ hw hW hS (lv_sub hl [1, 2, 0] rfl)
    · have hw := hw.2 c_17
      refine lv_aload_n hx hb dX5_finderTo_28 rfl (lv_at hl 0 rfl) ?_
      refine lv_iload_n hx hb dX5_finderTo_29 rfl (lv_at hl 2 rfl) ?_
      refine lv_bipush (v := 9) hx hb dX5_finderTo_30 (by decide) ?_
      refine w_cvi (As := [.int i_1, .int 9]) (rest := []) hx hb hml hown hts hK hW hS hl.1 (c_X5_ofFinder hA HB hX  hw) (k_X5_41 hts ⟨Nat.le_of_ble_eq_true rfl, Nat.le_of_ble_eq_true rfl⟩) (w_recv hK hW HB.1 (hX 0 (by decide)) rfl rfl) rfl rfl (Nat.le_of_ble_eq_true rfl) dX5_finderTo_32 ⟨Nat.zero_le _, Nat.zero_le _⟩ (fun r_19 Ez H locs hw2 hW hS => ?_)
      obtain ⟨ez, hw⟩ := hw2
      rw [ez] at hW
      refine lv_iload_n hx hb dX5_finderTo_35 rfl (lv_at hl 1 rfl) ?_
      refine lv_icmp_ne (tgt := 41) hx hb dX5_finderTo_36 (by decide) (fun c_20 => ?_) (fun c_20 => ?_)
      · have hw := hw.2 c_20
        obtain ⟨v_21, ev_21⟩ : ∃ z : Int32, z = i_1 + 1 := ⟨_, rfl⟩
        have hw := hw v_21 ev_21
        refine lv_iinc (v := v_21) (lv' := [(2, .int v_21), (0, .ref o), (1, .int p1)]) hx hb dX5_finderTo_41 hl (k := 2) rfl (by rw [ev_21]; rfl) (by decide) rfl (fun ls hl => ?_)
        refine lv_goto (tgt := 2) hx hb dX5_finderTo_44 (by decide) ?_
        exact ih_2 (v_21) _ _ _ hw hW hS (lv_sub hl [1, 2, 0] rfl)
      · have hw := hw.1 c_20
        refine lv_iload_n hx hb dX5_finderTo_39 rfl (lv_at hl 2 rfl) ?_
        exact w_iret hx hb hr hlocks hW hS ⟨rfl, hw⟩ dX5_finderTo_40
set_option maxHeartbeats 4000000 in
set_option maxRecDepth 100000 in
theorem c_X5_park {l : Launch} {g : GG} {lay : LY} {E0 : ES} {o : Nat} {X : ES} {p1 : Int32} {K : ES → Prop} (hA : okL g lay) (HB : ML g lay o) (hX : ∀ k, k < 7 → E0 (o + k) = X k) (hw : wp_X5_park X p1 K) : JMv l g lay yX5_park wsX5_park rmX5_park [.ref o, .int p1] E0 (fun E1 => ∃ X1 : ES, E1 = put 7 o X1 E0 ∧ K X1) := by
  refine Met.ofW (cc := cX5_park) (maxL := 2) (ret := none) (by decide) rfl ?_
  intro p e s m args below meth c s₁ B hml hv
  obtain ⟨rfl, hK, hW⟩ := hv
  have hx := B.exec
  have hb := B.bytes
  have hr := B.returns
  have hts := gd_of (atoms_spec (ws := wsX5_park) B.pre)
  have hown : s.vm.findClass RX5 = some m.cls := findClass_of_methodNamed B.named
  have hlocks := B.notSynchronized
  have hS : va_S (Ab g) s.heap s.heap [] := va_S.rf
  have hW : Wd g lay (put 7 o X E0) s.heap := by rw [putSelf hX]; exact hW
  have hl := lv_entry [.ref o, .int p1] (n := 2) (Nat.le_of_ble_eq_true rfl)
  rw [lg_entry_eq]
  generalize (lg_sl [.ref o, .int p1] ++ List.replicate (2 - (lg_sl [.ref o, .int p1]).length) Slot.unset).toArray = ls at hl ⊢
  have hl : lv_has ls 2 [(0, .ref o), (1, .int p1)] := hl
  unfold wp_X5_park at hw
  refine lv_aload_n hx hb dX5_park_0 rfl (lv_at hl 0 rfl) ?_
  refine lv_iload_n hx hb dX5_park_1 rfl (lv_at hl 1 rfl) ?_
  refine lv_iconst (v := 0) hx hb dX5_park_2 (by decide) ?_
  refine lv_bipush (v := 10) hx hb dX5_park_3 (by decide) ?_
  refine w_cvv (As := [.int p1, .int 0, .int 10]) (rest := []) hx hb hml hown hts hK hW hS hl.1 (c_X5_lay hA HB (fun k hk => putAt hk)  hw) (k_X5_61 hts ⟨Nat.le_of_ble_eq_true rfl, Nat.le_of_ble_eq_true rfl⟩) (w_recv hK hW HB.1 (putAt (k := 0) (by decide)) rfl rfl) rfl rfl (Nat.le_of_ble_eq_true rfl) dX5_park_5 ⟨Nat.zero_le _, Nat.zero_le _⟩ (fun Ez H locs hw2 hW hS => ?_)
  obtain ⟨X_1, ez, hw⟩ := hw2
  rw [ez, putPut] at hW
  refine lv_aload_n hx hb dX5_park_8 rfl (lv_at hl 0 rfl) ?_
  refine lv_iload_n hx hb dX5_park_9 rfl (lv_at hl 1 rfl) ?_
  refine lv_iconst (v := 5) hx hb dX5_park_10 (by decide) ?_
  refine lv_iconst (v := 0) hx hb dX5_park_11 (by decide) ?_
  refine w_cvv (As := [.int p1, .int 5, .int 0]) (rest := []) hx hb hml hown hts hK hW hS hl.1 (c_X5_lay hA HB (fun k hk => putAt hk)  hw) (k_X5_61 hts ⟨Nat.le_of_ble_eq_true rfl, Nat.le_of_ble_eq_true rfl⟩) (w_recv hK hW HB.1 (putAt (k := 0) (by decide)) rfl rfl) rfl rfl (Nat.le_of_ble_eq_true rfl) dX5_park_12 ⟨Nat.zero_le _, Nat.zero_le _⟩ (fun Ez H locs hw2 hW hS => ?_)
  obtain ⟨X_2, ez, hw⟩ := hw2
  rw [ez, putPut] at hW
  refine lv_aload_n hx hb dX5_park_15 rfl (lv_at hl 0 rfl) ?_
  refine lv_iload_n hx hb dX5_park_16 rfl (lv_at hl 1 rfl) ?_
  refine lv_bipush (v := 10) hx hb dX5_park_17 (by decide) ?_
  refine lv_iconst (v := 0) hx hb dX5_park_19 (by decide) ?_
  refine w_cvv (As := [.int p1, .int 10, .int 0]) (rest := []) hx hb hml hown hts hK hW hS hl.1 (c_X5_lay hA HB (fun k hk => putAt hk)  hw) (k_X5_61 hts ⟨Nat.le_of_ble_eq_true rfl, Nat.le_of_ble_eq_true rfl⟩) (w_recv hK hW HB.1 (putAt (k := 0) (by decide)) rfl rfl) rfl rfl (Nat.le_of_ble_eq_true rfl) dX5_park_20 ⟨Nat.zero_le _, Nat.zero_le _⟩ (fun Ez H locs hw2 hW hS => ?_)
  obtain ⟨X_3, ez, hw⟩ := hw2
  rw [ez, putPut] at hW
  exact w_vret hx hb hr hlocks hW hS ⟨X_3, rfl, hw⟩ dX5_park_23
set_option maxHeartbeats 4000000 in
set_option maxRecDepth 100000 in
theorem c_X5_lift {l : Launch} {g : GG} {lay : LY} {E0 : ES} {o : Nat} {X : ES} {p1 : Int32} {K : Int32 → ES → Prop} (hA : okL g lay) (HB : ML g lay o) (hX : ∀ k, k < 7 → E0 (o + k) = X k) (hw : wp_X5_lift X p1 K) : JMi l g lay yX5_lift wsX5_lift rmX5_lift [.ref o, .int p1] E0 (fun r E1 => ∃ X1 : ES, E1 = put 7 o X1 E0 ∧ K r X1) := by
  refine Met.ofW (cc := cX5_lift) (maxL := 2) (ret := (some .int)) (by decide) rfl ?_
  intro p e s m args below meth c s₁ B hml hv
  obtain ⟨rfl, hK, hW⟩ := hv
  have hx := B.exec
  have hb := B.bytes
  have hr := B.returns
  have hts := gd_of (atoms_spec (ws := wsX5_lift) B.pre)
  have hown : s.vm.findClass RX5 = some m.cls := findClass_of_methodNamed B.named
  have hlocks := B.notSynchronized
  have hS : va_S (Ab g) s.heap s.heap [] := va_S.rf
  have hW : Wd g lay (put 7 o X E0) s.heap := by rw [putSelf hX]; exact hW
  have hl := lv_entry [.ref o, .int p1] (n := 2) (Nat.le_of_ble_eq_true rfl)
  rw [lg_entry_eq]
  generalize (lg_sl [.ref o, .int p1] ++ List.replicate (2 - (lg_sl [.ref o, .int p1]).length) Slot.unset).toArray = ls at hl ⊢
  have hl : lv_has ls 2 [(0, .ref o), (1, .int p1)] := hl
  unfold wp_X5_lift at hw
  refine lv_iload_n hx hb dX5_lift_0 rfl (lv_at hl 1 rfl) ?_
  refine w_csi (As := [.int p1]) (rest := []) hx hb hml hown hts hK hW hS hl.1 (c_X5_isLine hw) (k_X5_64 hts ⟨Nat.le_of_ble_eq_true rfl, Nat.le_of_ble_eq_true rfl⟩) rfl rfl (Nat.le_of_ble_eq_true rfl) dX5_lift_1 ⟨Nat.zero_le _, Nat.zero_le _⟩ (fun r_1 Ez H locs hw2 hW hS => ?_)
  obtain ⟨ez, z_2, hw⟩ := hw2
  rw [ez] at hW
  refine lv_if_ne (tgt := 9) hx hb dX5_lift_4 (by decide) (fun c_3 => ?_) (fun c_3 => ?_)
  · have hw := hw.2 c_3
    refine lv_aload_n hx hb dX5_lift_9 rfl (lv_at hl 0 rfl) ?_
    refine lv_iload_n hx hb dX5_lift_10 rfl (lv_at hl 1 rfl) ?_
    refine lv_iconst (v := 1) hx hb dX5_lift_11 (by decide) ?_
    refine w_cvi (As := [.int p1, .int 1]) (rest := []) hx hb hml hown hts hK hW hS hl.1 (c_X5_of hA HB (fun k hk => putAt hk)  hw) (k_X5_67 hts ⟨Nat.le_of_ble_eq_true rfl, Nat.le_of_ble_eq_true rfl⟩) (w_recv hK hW HB.1 (putAt (k := 0) (by decide)) rfl rfl) rfl rfl (Nat.le_of_ble_eq_true rfl) dX5_lift_12 ⟨Nat.zero_le _, Nat.zero_le _⟩ (fun r_4 Ez H locs hw2 hW hS => ?_)
    obtain ⟨ez, hw⟩ := hw2
    rw [ez] at hW
    refine lv_iconst (v := 1) hx hb dX5_lift_15 (by decide) ?_
    refine lv_icmp_ne (tgt := 22) hx hb dX5_lift_16 (by decide) (fun c_5 => ?_) (fun c_5 => ?_)
    · have hw := hw.2 c_5
      refine lv_aload_n hx hb dX5_lift_22 rfl (lv_at hl 0 rfl) ?_
      refine lv_iload_n hx hb dX5_lift_23 rfl (lv_at hl 1 rfl) ?_
      refine lv_iconst (v := 1) hx hb dX5_lift_24 (by decide) ?_
      refine lv_iconst (v := 1) hx hb dX5_lift_25 (by decide) ?_
      refine w_cvv (As := [.int p1, .int 1, .int 1]) (rest := []) hx hb hml hown hts hK hW hS hl.1 (c_X5_lay hA HB (fun k hk => putAt hk)  hw) (k_X5_61 hts ⟨Nat.le_of_ble_eq_true rfl, Nat.le_of_ble_eq_true rfl⟩) (w_recv hK hW HB.1 (putAt (k := 0) (by decide)) rfl rfl) rfl rfl (Nat.le_of_ble_eq_true rfl) dX5_lift_26 ⟨Nat.zero_le _, Nat.zero_le _⟩ (fun Ez H locs hw2 hW hS => ?_)
      obtain ⟨X_6, ez, hw⟩ := hw2
      rw [ez, putPut] at hW
      refine lv_aload_n hx hb dX5_lift_29 rfl (lv_at hl 0 rfl) ?_
      refine lv_iload_n hx hb dX5_lift_30 rfl (lv_at hl 1 rfl) ?_
      refine lv_iconst (v := 0) hx hb dX5_lift_31 (by decide) ?_
      refine w_cvi (As := [.int p1, .int 0]) (rest := []) hx hb hml hown hts hK hW hS hl.1 (c_X5_of hA HB (fun k hk => putAt hk)  hw) (k_X5_67 hts ⟨Nat.le_of_ble_eq_true rfl, Nat.le_of_ble_eq_true rfl⟩) (w_recv hK hW HB.1 (putAt (k := 0) (by decide)) rfl rfl) rfl rfl (Nat.le_of_ble_eq_true rfl) dX5_lift_32 ⟨Nat.zero_le _, Nat.zero_le _⟩ (fun r_7 Ez H locs hw2 hW hS => ?_)
      obtain ⟨ez, hw⟩ := hw2
      rw [ez] at hW
      refine lv_if_ne (tgt := 79) hx hb dX5_lift_35 (by decide) (fun c_8 => ?_) (fun c_8 => ?_)
      · have hw := hw.2 c_8
        refine lv_aload_n hx hb dX5_lift_79 rfl (lv_at hl 0 rfl) ?_
        refine lv_iload_n hx hb dX5_lift_80 rfl (lv_at hl 1 rfl) ?_
        refine lv_iconst (v := 0) hx hb dX5_lift_81 (by decide) ?_
        refine w_cvi (As := [.int p1, .int 0]) (rest := []) hx hb hml hown hts hK hW hS hl.1 (c_X5_of hA HB (fun k hk => putAt hk)  hw) (k_X5_67 hts ⟨Nat.le_of_ble_eq_true rfl, Nat.le_of_ble_eq_true rfl⟩) (w_recv hK hW HB.1 (putAt (k := 0) (by decide)) rfl rfl) rfl rfl (Nat.le_of_ble_eq_true rfl) dX5_lift_82 ⟨Nat.zero_le _, Nat.zero_le _⟩ (fun r_9 Ez H locs hw2 hW hS => ?_)
        obtain ⟨ez, hw⟩ := hw2
        rw [ez] at hW
        exact w_iret hx hb hr hlocks hW hS ⟨X_6, rfl, hw⟩ dX5_lift_85
      · have hw := hw.1 c_8
        refine lv_aload_n hx hb dX5_lift_38 rfl (lv_at hl 0 rfl) ?_
        refine lv_iload_n hx hb dX5_lift_39 rfl (lv_at hl 1 rfl) ?_
        refine lv_iconst (v := 0) hx hb dX5_lift_40 (by decide) ?_
        refine lv_iconst (v := 1) hx hb dX5_lift_41 (by decide) ?_
        refine w_cvv (As := [.int p1, .int 0, .int 1]) (rest := []) hx hb hml hown hts hK hW hS hl.1 (c_X5_lay hA HB (fun k hk => putAt hk)  hw) (k_X5_61 hts ⟨Nat.le_of_ble_eq_true rfl, Nat.le_of_ble_eq_true rfl⟩) (w_recv hK hW HB.1 (putAt (k := 0) (by decide)) rfl rfl) rfl rfl (Nat.le_of_ble_eq_true rfl) dX5_lift_42 ⟨Nat.zero_le _, Nat.zero_le _⟩ (fun Ez H locs hw2 hW hS => ?_)
        obtain ⟨X_10, ez, hw⟩ := hw2
        rw [ez, putPut] at hW
        refine lv_aload_n hx hb dX5_lift_45 rfl (lv_at hl 0 rfl) ?_
        refine lv_iload_n hx hb dX5_lift_46 rfl (lv_at hl 1 rfl) ?_
        refine lv_iconst (v := 3) hx hb dX5_lift_47 (by decide) ?_
        refine lv_iconst (v := 0) hx hb dX5_lift_48 (by decide) ?_
        refine w_cvv (As := [.int p1, .int 3, .int 0]) (rest := []) hx hb hml hown hts hK hW hS hl.1 (c_X5_lay hA HB (fun k hk => putAt hk)  hw) (k_X5_61 hts ⟨Nat.le_of_ble_eq_true rfl, Nat.le_of_ble_eq_true rfl⟩) (w_recv hK hW HB.1 (putAt (k := 0) (by decide)) rfl rfl) rfl rfl (Nat.le_of_ble_eq_true rfl) dX5_lift_49 ⟨Nat.zero_le _, Nat.zero_le _⟩ (fun Ez H locs hw2 hW hS => ?_)
        obtain ⟨X_11, ez, hw⟩ := hw2
        rw [ez, putPut] at hW
        refine lv_aload_n hx hb dX5_lift_52 rfl (lv_at hl 0 rfl) ?_
        refine lv_iload_n hx hb dX5_lift_53 rfl (lv_at hl 1 rfl) ?_
        refine lv_iconst (v := 4) hx hb dX5_lift_54 (by decide) ?_
        refine lv_aload_n hx hb dX5_lift_55 rfl (lv_at hl 0 rfl) ?_
        refine g_X5_7 hx hb hown hts hK hW HB.1 (putAt (k := 0) (by decide)) dX5_lift_56 ?_
        refine lv_iconst (v := 4) hx hb dX5_lift_59 (by decide) ?_
        obtain ⟨hin, hw⟩ := hw
        refine w_iald hx hb hK hW HB.2.1 (putAt (k := 1) (by decide)) hin dX5_lift_60 ?_
        refine w_cvv (As := [.int p1, .int 4, .int ((X_11 1) (4 : Int32).toNatClampNeg)]) (rest := []) hx hb hml hown hts hK hW hS hl.1 (c_X5_lay hA HB (fun k hk => putAt hk)  hw) (k_X5_61 hts ⟨Nat.le_of_ble_eq_true rfl, Nat.le_of_ble_eq_true rfl⟩) (w_recv hK hW HB.1 (putAt (k := 0) (by decide)) rfl rfl) rfl rfl (Nat.le_of_ble_eq_true rfl) dX5_lift_61 ⟨Nat.zero_le _, Nat.zero_le _⟩ (fun Ez H locs hw2 hW hS => ?_)
        obtain ⟨X_12, ez, hw⟩ := hw2
        rw [ez, putPut] at hW
        refine lv_aload_n hx hb dX5_lift_64 rfl (lv_at hl 0 rfl) ?_
        refine g_X5_7 hx hb hown hts hK hW HB.1 (putAt (k := 0) (by decide)) dX5_lift_65 ?_
        refine lv_iconst (v := 4) hx hb dX5_lift_68 (by decide) ?_
        refine lv_dup2_11 hx hb dX5_lift_69 rfl rfl ?_
        obtain ⟨hin, hw⟩ := hw
        refine w_iald hx hb hK hW HB.2.1 (putAt (k := 1) (by decide)) hin dX5_lift_70 ?_
        refine lv_iconst (v := 1) hx hb dX5_lift_71 (by decide) ?_
        refine lv_iadd hx hb dX5_lift_72 ?_
        obtain ⟨hin, hw⟩ := hw
        obtain ⟨X_13, eX_13⟩ : ∃ z : ES, z = va_up X_12 1 (upd (X_12 1) (4 : Int32).toNatClampNeg (((X_12 1) (4 : Int32).toNatClampNeg) + 1)) := ⟨_, rfl⟩
        have hw := hw X_13 eX_13
        refine w_iast (E1 := put 7 o X_13 E0) hx hb hK hA hW hS HB.2.1 (putAt (k := 1) (by decide)) hin dX5_lift_73 (puE (k := 1) (by decide) eX_13) (fun H locs hW hS => ?_)
        refine lv_aload_n hx hb dX5_lift_74 rfl (lv_at hl 0 rfl) ?_
        refine lv_iconst (v := 0) hx hb dX5_lift_75 (by decide) ?_
        refine w_cvv (As := [.int 0]) (rest := []) hx hb hml hown hts hK hW hS hl.1 (c_X5_countOne hA HB (fun k hk => putAt hk)  hw) (k_X5_70 hts ⟨Nat.le_of_ble_eq_true rfl, Nat.le_of_ble_eq_true rfl⟩) (w_recv hK hW HB.1 (putAt (k := 0) (by decide)) rfl rfl) rfl rfl (Nat.le_of_ble_eq_true rfl) dX5_lift_76 ⟨Nat.zero_le _, Nat.zero_le _⟩ (fun Ez H locs hw2 hW hS => ?_)
        obtain ⟨X_14, ez, hw⟩ := hw2
        rw [ez, putPut] at hW
        refine lv_aload_n hx hb dX5_lift_79 rfl (lv_at hl 0 rfl) ?_
        refine lv_iload_n hx hb dX5_lift_80 rfl (lv_at hl 1 rfl) ?_
        refine lv_iconst (v := 0) hx hb dX5_lift_81 (by decide) ?_
        refine w_cvi (As := [.int p1, .int 0]) (rest := []) hx hb hml hown hts hK hW hS hl.1 (c_X5_of hA HB (fun k hk => putAt hk)  hw) (k_X5_67 hts ⟨Nat.le_of_ble_eq_true rfl, Nat.le_of_ble_eq_true rfl⟩) (w_recv hK hW HB.1 (putAt (k := 0) (by decide)) rfl rfl) rfl rfl (Nat.le_of_ble_eq_true rfl) dX5_lift_82 ⟨Nat.zero_le _, Nat.zero_le _⟩ (fun r_15 Ez H locs hw2 hW hS => ?_)
        obtain ⟨ez, hw⟩ := hw2
        rw [ez] at hW
        exact w_iret hx hb hr hlocks hW hS ⟨X_14, rfl, hw⟩ dX5_lift_85
    · have hw := hw.1 c_5
      refine lv_bipush (v := (-5)) hx hb dX5_lift_19 (by decide) ?_
      exact w_iret hx hb hr hlocks hW hS ⟨X, rfl, hw⟩ dX5_lift_21
  · have hw := hw.1 c_3
    refine lv_iconst (v := (-1)) hx hb dX5_lift_7 (by decide) ?_
    exact w_iret hx hb hr hlocks hW hS ⟨X, rfl, hw⟩ dX5_lift_8
set_option maxHeartbeats 4000000 in
set_option maxRecDepth 100000 in
theorem c_X5_dropCall {l : Launch} {g : GG} {lay : LY} {E0 : ES} {o : Nat} {X : ES} {p1 : Int32} {K : ES → Prop} (hA : okL g lay) (HB : ML g lay o) (hX : ∀ k, k < 7 → E0 (o + k) = X k) (hw : wp_X5_dropCall X p1 K) : JMv l g lay yX5_dropCall wsX5_dropCall rmX5_dropCall [.ref o, .int p1] E0 (fun E1 => ∃ X1 : ES, E1 = put 7 o X1 E0 ∧ K X1) := by
  refine Met.ofW (cc := cX5_dropCall) (maxL := 4) (ret := none) (by decide) rfl ?_
  intro p e s m args below meth c s₁ B hml hv
  obtain ⟨rfl, hK, hW⟩ := hv
  have hx := B.exec
  have hb := B.bytes
  have hr := B.returns
  have hts := gd_of (atoms_spec (ws := wsX5_dropCall) B.pre)
  have hown : s.vm.findClass RX5 = some m.cls := findClass_of_methodNamed B.named
  have hlocks := B.notSynchronized
  have hS : va_S (Ab g) s.heap s.heap [] := va_S.rf
  have hW : Wd g lay (put 7 o X E0) s.heap := by rw [putSelf hX]; exact hW
  have hl := lv_entry [.ref o, .int p1] (n := 4) (Nat.le_of_ble_eq_true rfl)
  rw [lg_entry_eq]
  generalize (lg_sl [.ref o, .int p1] ++ List.replicate (4 - (lg_sl [.ref o, .int p1]).length) Slot.unset).toArray = ls at hl ⊢
  have hl : lv_has ls 4 [(0, .ref o), (1, .int p1)] := hl
  unfold wp_X5_dropCall at hw
  refine lv_aload_n hx hb dX5_dropCall_0 rfl (lv_at hl 0 rfl) ?_
  refine lv_iload_n hx hb dX5_dropCall_1 rfl (lv_at hl 1 rfl) ?_
  refine w_cvi (As := [.int p1]) (rest := []) hx hb hml hown hts hK hW hS hl.1 (c_X5_finderOf hA HB (fun k hk => putAt hk)  hw) (k_X5_73 hts ⟨Nat.le_of_ble_eq_true rfl, Nat.le_of_ble_eq_true rfl⟩) (w_recv hK hW HB.1 (putAt (k := 0) (by decide)) rfl rfl) rfl rfl (Nat.le_of_ble_eq_true rfl) dX5_dropCall_2 ⟨Nat.zero_le _, Nat.zero_le _⟩ (fun r_1 Ez H locs hw2 hW hS => ?_)
  obtain ⟨ez, hw⟩ := hw2
  rw [ez] at hW
  refine lv_istore_n (lv' := [(2, .int r_1), (0, .ref o), (1, .int p1)]) hx hb dX5_dropCall_5 rfl hl (by decide) rfl (fun ls hl => ?_)
  refine lv_iload_n hx hb dX5_dropCall_6 rfl (lv_at hl 0 rfl) ?_
  refine lv_if_ge (tgt := 11) hx hb dX5_dropCall_7 (by decide) (fun c_2 => ?_) (fun c_2 => ?_)
  · have hw := hw.1 c_2
    refine lv_aload_n hx hb dX5_dropCall_11 rfl (lv_at hl 1 rfl) ?_
    refine lv_iload_n hx hb dX5_dropCall_12 rfl (lv_at hl 0 rfl) ?_
    refine lv_iconst (v := 0) hx hb dX5_dropCall_13 (by decide) ?_
    refine w_cvi (As := [.int r_1, .int 0]) (rest := []) hx hb hml hown hts hK hW hS hl.1 (c_X5_ofFinder hA HB (fun k hk => putAt hk)  hw) (k_X5_41 hts ⟨Nat.le_of_ble_eq_true rfl, Nat.le_of_ble_eq_true rfl⟩) (w_recv hK hW HB.1 (putAt (k := 0) (by decide)) rfl rfl) rfl rfl (Nat.le_of_ble_eq_true rfl) dX5_dropCall_14 ⟨Nat.zero_le _, Nat.zero_le _⟩ (fun r_3 Ez H locs hw2 hW hS => ?_)
    obtain ⟨ez, hw⟩ := hw2
    rw [ez] at hW
    refine lv_bipush (v := 7) hx hb dX5_dropCall_17 (by decide) ?_
    refine lv_bipush (v := 8) hx hb dX5_dropCall_19 (by decide) ?_
    refine w_csi (As := [.int r_3, .int 7, .int 8]) (rest := []) hx hb hml hown hts hK hW hS hl.1 (c_X5_in hw) (k_X5_33 hts ⟨Nat.le_of_ble_eq_true rfl, Nat.le_of_ble_eq_true rfl⟩) rfl rfl (Nat.le_of_ble_eq_true rfl) dX5_dropCall_21 ⟨Nat.zero_le _, Nat.zero_le _⟩ (fun r_4 Ez H locs hw2 hW hS => ?_)
    obtain ⟨ez, z_5, hw⟩ := hw2
    rw [ez] at hW
    refine lv_if_eq (tgt := 37) hx hb dX5_dropCall_24 (by decide) (fun c_6 => ?_) (fun c_6 => ?_)
    · have hw := hw.1 c_6
      refine lv_bipush (v := (-6)) hx hb dX5_dropCall_37 (by decide) ?_
      refine lv_istore_n (lv' := [(3, .int ((-6))), (2, .int r_1), (0, .ref o), (1, .int p1)]) hx hb dX5_dropCall_39 rfl hl (by decide) rfl (fun ls hl => ?_)
      refine lv_aload_n hx hb dX5_dropCall_40 rfl (lv_at hl 2 rfl) ?_
      refine lv_iload_n hx hb dX5_dropCall_41 rfl (lv_at hl 1 rfl) ?_
      refine w_cvv (As := [.int r_1]) (rest := []) hx hb hml hown hts hK hW hS hl.1 (c_X5_free hA HB (fun k hk => putAt hk)  hw) (k_X5_37 hts ⟨Nat.le_of_ble_eq_true rfl, Nat.le_of_ble_eq_true rfl⟩) (w_recv hK hW HB.1 (putAt (k := 0) (by decide)) rfl rfl) rfl rfl (Nat.le_of_ble_eq_true rfl) dX5_dropCall_42 ⟨Nat.zero_le _, Nat.zero_le _⟩ (fun Ez H locs hw2 hW hS => ?_)
      obtain ⟨X_7, ez, hw⟩ := hw2
      rw [ez, putPut] at hW
      refine lv_iload_n hx hb dX5_dropCall_45 rfl (lv_at hl 0 rfl) ?_
      refine lv_if_lt (tgt := 75) hx hb dX5_dropCall_46 (by decide) (fun _ => ?_) (fun cz => absurd cz (by decide))
      refine lv_iload_n hx hb dX5_dropCall_75 rfl (lv_at hl 0 rfl) ?_
      refine lv_if_lt (tgt := 86) hx hb dX5_dropCall_76 (by decide) (fun _ => ?_) (fun cz => absurd cz (by decide))
      exact w_vret hx hb hr hlocks hW hS ⟨X_7, rfl, hw⟩ dX5_dropCall_86
    · have hw := hw.2 c_6
      refine lv_aload_n hx hb dX5_dropCall_27 rfl (lv_at hl 1 rfl) ?_
      refine lv_iload_n hx hb dX5_dropCall_28 rfl (lv_at hl 0 rfl) ?_
      refine lv_bipush (v := 9) hx hb dX5_dropCall_29 (by decide) ?_
      refine w_cvi (As := [.int r_1, .int 9]) (rest := []) hx hb hml hown hts hK hW hS hl.1 (c_X5_ofFinder hA HB (fun k hk => putAt hk)  hw) (k_X5_41 hts ⟨Nat.le_of_ble_eq_true rfl, Nat.le_of_ble_eq_true rfl⟩) (w_recv hK hW HB.1 (putAt (k := 0) (by decide)) rfl rfl) rfl rfl (Nat.le_of_ble_eq_true rfl) dX5_dropCall_31 ⟨Nat.zero_le _, Nat.zero_le _⟩ (fun r_8 Ez H locs hw2 hW hS => ?_)
      obtain ⟨ez, hw⟩ := hw2
      rw [ez] at hW
      refine lv_goto (tgt := 39) hx hb dX5_dropCall_34 (by decide) ?_
      refine lv_istore_n (lv' := [(3, .int r_8), (2, .int r_1), (0, .ref o), (1, .int p1)]) hx hb dX5_dropCall_39 rfl hl (by decide) rfl (fun ls hl => ?_)
      refine lv_aload_n hx hb dX5_dropCall_40 rfl (lv_at hl 2 rfl) ?_
      refine lv_iload_n hx hb dX5_dropCall_41 rfl (lv_at hl 1 rfl) ?_
      refine w_cvv (As := [.int r_1]) (rest := []) hx hb hml hown hts hK hW hS hl.1 (c_X5_free hA HB (fun k hk => putAt hk)  hw) (k_X5_37 hts ⟨Nat.le_of_ble_eq_true rfl, Nat.le_of_ble_eq_true rfl⟩) (w_recv hK hW HB.1 (putAt (k := 0) (by decide)) rfl rfl) rfl rfl (Nat.le_of_ble_eq_true rfl) dX5_dropCall_42 ⟨Nat.zero_le _, Nat.zero_le _⟩ (fun Ez H locs hw2 hW hS => ?_)
      obtain ⟨X_9, ez, hw⟩ := hw2
      rw [ez, putPut] at hW
      refine lv_iload_n hx hb dX5_dropCall_45 rfl (lv_at hl 0 rfl) ?_
      refine lv_if_lt (tgt := 75) hx hb dX5_dropCall_46 (by decide) (fun c_10 => ?_) (fun c_10 => ?_)
      · have hw := hw.1 c_10
        refine lv_iload_n hx hb dX5_dropCall_75 rfl (lv_at hl 0 rfl) ?_
        refine lv_if_lt (tgt := 86) hx hb dX5_dropCall_76 (by decide) (fun c_11 => ?_) (fun c_11 => ?_)
        · have hw := hw.1 c_11
          exact w_vret hx hb hr hlocks hW hS ⟨X_9, rfl, hw⟩ dX5_dropCall_86
        · have hw := hw.2 c_11
          refine lv_aload_n hx hb dX5_dropCall_79 rfl (lv_at hl 2 rfl) ?_
          refine lv_iload_n hx hb dX5_dropCall_80 rfl (lv_at hl 0 rfl) ?_
          refine lv_iconst (v := 0) hx hb dX5_dropCall_81 (by decide) ?_
          refine lv_iconst (v := 0) hx hb dX5_dropCall_82 (by decide) ?_
          refine w_cvv (As := [.int r_8, .int 0, .int 0]) (rest := []) hx hb hml hown hts hK hW hS hl.1 (c_X5_lay hA HB (fun k hk => putAt hk)  hw) (k_X5_61 hts ⟨Nat.le_of_ble_eq_true rfl, Nat.le_of_ble_eq_true rfl⟩) (w_recv hK hW HB.1 (putAt (k := 0) (by decide)) rfl rfl) rfl rfl (Nat.le_of_ble_eq_true rfl) dX5_dropCall_83 ⟨Nat.zero_le _, Nat.zero_le _⟩ (fun Ez H locs hw2 hW hS => ?_)
          obtain ⟨X_12, ez, hw⟩ := hw2
          rw [ez, putPut] at hW
          exact w_vret hx hb hr hlocks hW hS ⟨X_12, rfl, hw⟩ dX5_dropCall_86
      · have hw := hw.2 c_10
        refine lv_aload_n hx hb dX5_dropCall_49 rfl (lv_at hl 2 rfl) ?_
        refine lv_iload_n hx hb dX5_dropCall_50 rfl (lv_at hl 0 rfl) ?_
        refine lv_iconst (v := 1) hx hb dX5_dropCall_51 (by decide) ?_
        refine w_cvi (As := [.int r_8, .int 1]) (rest := []) hx hb hml hown hts hK hW hS hl.1 (c_X5_of hA HB (fun k hk => putAt hk)  hw) (k_X5_67 hts ⟨Nat.le_of_ble_eq_true rfl, Nat.le_of_ble_eq_true rfl⟩) (w_recv hK hW HB.1 (putAt (k := 0) (by decide)) rfl rfl) rfl rfl (Nat.le_of_ble_eq_true rfl) dX5_dropCall_52 ⟨Nat.zero_le _, Nat.zero_le _⟩ (fun r_13 Ez H locs hw2 hW hS => ?_)
        obtain ⟨ez, hw⟩ := hw2
        rw [ez] at hW
        refine lv_iconst (v := 1) hx hb dX5_dropCall_55 (by decide) ?_
        refine lv_icmp_ne (tgt := 75) hx hb dX5_dropCall_56 (by decide) (fun c_14 => ?_) (fun c_14 => ?_)
        · have hw := hw.2 c_14
          refine lv_iload_n hx hb dX5_dropCall_75 rfl (lv_at hl 0 rfl) ?_
          refine lv_if_lt (tgt := 86) hx hb dX5_dropCall_76 (by decide) (fun c_15 => ?_) (fun c_15 => ?_)
          · have hw := hw.1 c_15
            exact w_vret hx hb hr hlocks hW hS ⟨X_9, rfl, hw⟩ dX5_dropCall_86
          · have hw := hw.2 c_15
            refine lv_aload_n hx hb dX5_dropCall_79 rfl (lv_at hl 2 rfl) ?_
            refine lv_iload_n hx hb dX5_dropCall_80 rfl (lv_at hl 0 rfl) ?_
            refine lv_iconst (v := 0) hx hb dX5_dropCall_81 (by decide) ?_
            refine lv_iconst (v := 0) hx hb dX5_dropCall_82 (by decide) ?_
            refine w_cvv (As := [.int r_8, .int 0, .int 0]) (rest := []) hx hb hml hown hts hK hW hS hl.1 (c_X5_lay hA HB (fun k hk => putAt hk)  hw) (k_X5_61 hts ⟨Nat.le_of_ble_eq_true rfl, Nat.le_of_ble_eq_true rfl⟩) (w_recv hK hW HB.1 (putAt (k := 0) (by decide)) rfl rfl) rfl rfl (Nat.le_of_ble_eq_true rfl) dX5_dropCall_83 ⟨Nat.zero_le _, Nat.zero_le _⟩ (fun Ez H locs hw2 hW hS => ?_)
            obtain ⟨X_16, ez, hw⟩ := hw2
            rw [ez, putPut] at hW
            exact w_vret hx hb hr hlocks hW hS ⟨X_16, rfl, hw⟩ dX5_dropCall_86
        · have hw := hw.1 c_14
          refine lv_aload_n hx hb dX5_dropCall_59 rfl (lv_at hl 2 rfl) ?_
          refine lv_iload_n hx hb dX5_dropCall_60 rfl (lv_at hl 0 rfl) ?_
          refine w_cvv (As := [.int r_8]) (rest := []) hx hb hml hown hts hK hW hS hl.1 (c_X5_park hA HB (fun k hk => putAt hk)  hw) (k_X5_76 hts ⟨Nat.le_of_ble_eq_true rfl, Nat.le_of_ble_eq_true rfl⟩) (w_recv hK hW HB.1 (putAt (k := 0) (by decide)) rfl rfl) rfl rfl (Nat.le_of_ble_eq_true rfl) dX5_dropCall_61 ⟨Nat.zero_le _, Nat.zero_le _⟩ (fun Ez H locs hw2 hW hS => ?_)
          obtain ⟨X_17, ez, hw⟩ := hw2
          rw [ez, putPut] at hW
          refine lv_aload_n hx hb dX5_dropCall_64 rfl (lv_at hl 2 rfl) ?_
          refine lv_iload_n hx hb dX5_dropCall_65 rfl (lv_at hl 0 rfl) ?_
          refine lv_iconst (v := 3) hx hb dX5_dropCall_66 (by decide) ?_
          refine lv_bipush (v := 6) hx hb dX5_dropCall_67 (by decide) ?_
          refine w_cvv (As := [.int r_8, .int 3, .int 6]) (rest := []) hx hb hml hown hts hK hW hS hl.1 (c_X5_lay hA HB (fun k hk => putAt hk)  hw) (k_X5_61 hts ⟨Nat.le_of_ble_eq_true rfl, Nat.le_of_ble_eq_true rfl⟩) (w_recv hK hW HB.1 (putAt (k := 0) (by decide)) rfl rfl) rfl rfl (Nat.le_of_ble_eq_true rfl) dX5_dropCall_69 ⟨Nat.zero_le _, Nat.zero_le _⟩ (fun Ez H locs hw2 hW hS => ?_)
          obtain ⟨X_18, ez, hw⟩ := hw2
          rw [ez, putPut] at hW
          refine lv_goto (tgt := 86) hx hb dX5_dropCall_72 (by decide) ?_
          exact w_vret hx hb hr hlocks hW hS ⟨X_18, rfl, hw⟩ dX5_dropCall_86
  · have hw := hw.2 c_2
    exact w_vret hx hb hr hlocks hW hS ⟨X, rfl, hw⟩ dX5_dropCall_10
set_option maxHeartbeats 4000000 in
set_option maxRecDepth 100000 in
theorem c_X5_hang {l : Launch} {g : GG} {lay : LY} {E0 : ES} {o : Nat} {X : ES} {p1 : Int32} {K : Int32 → ES → Prop} (hA : okL g lay) (HB : ML g lay o) (hX : ∀ k, k < 7 → E0 (o + k) = X k) (hw : wp_X5_hang X p1 K) : JMi l g lay yX5_hang wsX5_hang rmX5_hang [.ref o, .int p1] E0 (fun r E1 => ∃ X1 : ES, E1 = put 7 o X1 E0 ∧ K r X1) := by
  refine Met.ofW (cc := cX5_hang) (maxL := 3) (ret := (some .int)) (by decide) rfl ?_
  intro p e s m args below meth c s₁ B hml hv
  obtain ⟨rfl, hK, hW⟩ := hv
  have hx := B.exec
  have hb := B.bytes
  have hr := B.returns
  have hts := gd_of (atoms_spec (ws := wsX5_hang) B.pre)
  have hown : s.vm.findClass RX5 = some m.cls := findClass_of_methodNamed B.named
  have hlocks := B.notSynchronized
  have hS : va_S (Ab g) s.heap s.heap [] := va_S.rf
  have hW : Wd g lay (put 7 o X E0) s.heap := by rw [putSelf hX]; exact hW
  have hl := lv_entry [.ref o, .int p1] (n := 3) (Nat.le_of_ble_eq_true rfl)
  rw [lg_entry_eq]
  generalize (lg_sl [.ref o, .int p1] ++ List.replicate (3 - (lg_sl [.ref o, .int p1]).length) Slot.unset).toArray = ls at hl ⊢
  have hl : lv_has ls 3 [(0, .ref o), (1, .int p1)] := hl
  unfold wp_X5_hang at hw
  refine lv_iload_n hx hb dX5_hang_0 rfl (lv_at hl 1 rfl) ?_
  refine w_csi (As := [.int p1]) (rest := []) hx hb hml hown hts hK hW hS hl.1 (c_X5_isLine hw) (k_X5_64 hts ⟨Nat.le_of_ble_eq_true rfl, Nat.le_of_ble_eq_true rfl⟩) rfl rfl (Nat.le_of_ble_eq_true rfl) dX5_hang_1 ⟨Nat.zero_le _, Nat.zero_le _⟩ (fun r_1 Ez H locs hw2 hW hS => ?_)
  obtain ⟨ez, z_2, hw⟩ := hw2
  rw [ez] at hW
  refine lv_if_ne (tgt := 9) hx hb dX5_hang_4 (by decide) (fun c_3 => ?_) (fun c_3 => ?_)
  · have hw := hw.2 c_3
    refine lv_aload_n hx hb dX5_hang_9 rfl (lv_at hl 0 rfl) ?_
    refine lv_iload_n hx hb dX5_hang_10 rfl (lv_at hl 1 rfl) ?_
    refine lv_iconst (v := 1) hx hb dX5_hang_11 (by decide) ?_
    refine w_cvi (As := [.int p1, .int 1]) (rest := []) hx hb hml hown hts hK hW hS hl.1 (c_X5_of hA HB (fun k hk => putAt hk)  hw) (k_X5_67 hts ⟨Nat.le_of_ble_eq_true rfl, Nat.le_of_ble_eq_true rfl⟩) (w_recv hK hW HB.1 (putAt (k := 0) (by decide)) rfl rfl) rfl rfl (Nat.le_of_ble_eq_true rfl) dX5_hang_12 ⟨Nat.zero_le _, Nat.zero_le _⟩ (fun r_4 Ez H locs hw2 hW hS => ?_)
    obtain ⟨ez, hw⟩ := hw2
    rw [ez] at hW
    refine lv_if_ne (tgt := 21) hx hb dX5_hang_15 (by decide) (fun c_5 => ?_) (fun c_5 => ?_)
    · have hw := hw.2 c_5
      refine lv_aload_n hx hb dX5_hang_21 rfl (lv_at hl 0 rfl) ?_
      refine lv_iload_n hx hb dX5_hang_22 rfl (lv_at hl 1 rfl) ?_
      refine lv_iconst (v := 0) hx hb dX5_hang_23 (by decide) ?_
      refine w_cvi (As := [.int p1, .int 0]) (rest := []) hx hb hml hown hts hK hW hS hl.1 (c_X5_of hA HB (fun k hk => putAt hk)  hw) (k_X5_67 hts ⟨Nat.le_of_ble_eq_true rfl, Nat.le_of_ble_eq_true rfl⟩) (w_recv hK hW HB.1 (putAt (k := 0) (by decide)) rfl rfl) rfl rfl (Nat.le_of_ble_eq_true rfl) dX5_hang_24 ⟨Nat.zero_le _, Nat.zero_le _⟩ (fun r_6 Ez H locs hw2 hW hS => ?_)
      obtain ⟨ez, hw⟩ := hw2
      rw [ez] at hW
      refine lv_istore_n (lv' := [(2, .int r_6), (0, .ref o), (1, .int p1)]) hx hb dX5_hang_27 rfl hl (by decide) rfl (fun ls hl => ?_)
      refine lv_aload_n hx hb dX5_hang_28 rfl (lv_at hl 1 rfl) ?_
      refine lv_iload_n hx hb dX5_hang_29 rfl (lv_at hl 2 rfl) ?_
      refine lv_iconst (v := 1) hx hb dX5_hang_30 (by decide) ?_
      refine lv_iconst (v := 0) hx hb dX5_hang_31 (by decide) ?_
      refine w_cvv (As := [.int p1, .int 1, .int 0]) (rest := []) hx hb hml hown hts hK hW hS hl.1 (c_X5_lay hA HB (fun k hk => putAt hk)  hw) (k_X5_61 hts ⟨Nat.le_of_ble_eq_true rfl, Nat.le_of_ble_eq_true rfl⟩) (w_recv hK hW HB.1 (putAt (k := 0) (by decide)) rfl rfl) rfl rfl (Nat.le_of_ble_eq_true rfl) dX5_hang_32 ⟨Nat.zero_le _, Nat.zero_le _⟩ (fun Ez H locs hw2 hW hS => ?_)
      obtain ⟨X_7, ez, hw⟩ := hw2
      rw [ez, putPut] at hW
      refine lv_iload_n hx hb dX5_hang_35 rfl (lv_at hl 0 rfl) ?_
      refine lv_iconst (v := 5) hx hb dX5_hang_36 (by decide) ?_
      refine lv_icmp_eq (tgt := 73) hx hb dX5_hang_37 (by decide) (fun c_8 => ?_) (fun c_8 => ?_)
      · have hw := hw.1 c_8
        refine lv_iload_n hx hb dX5_hang_73 rfl (lv_at hl 0 rfl) ?_
        exact w_iret hx hb hr hlocks hW hS ⟨X_7, rfl, hw⟩ dX5_hang_74
      · have hw := hw.2 c_8
        refine lv_iload_n hx hb dX5_hang_40 rfl (lv_at hl 0 rfl) ?_
        refine lv_bipush (v := 7) hx hb dX5_hang_41 (by decide) ?_
        refine lv_icmp_eq (tgt := 73) hx hb dX5_hang_43 (by decide) (fun c_9 => ?_) (fun c_9 => ?_)
        · have hw := hw.1 c_9
          refine lv_iload_n hx hb dX5_hang_73 rfl (lv_at hl 0 rfl) ?_
          exact w_iret hx hb hr hlocks hW hS ⟨X_7, rfl, hw⟩ dX5_hang_74
        · have hw := hw.2 c_9
          refine lv_aload_n hx hb dX5_hang_46 rfl (lv_at hl 1 rfl) ?_
          refine lv_iload_n hx hb dX5_hang_47 rfl (lv_at hl 2 rfl) ?_
          refine lv_iconst (v := 0) hx hb dX5_hang_48 (by decide) ?_
          refine lv_iconst (v := 0) hx hb dX5_hang_49 (by decide) ?_
          refine w_cvv (As := [.int p1, .int 0, .int 0]) (rest := []) hx hb hml hown hts hK hW hS hl.1 (c_X5_lay hA HB (fun k hk => putAt hk)  hw) (k_X5_61 hts ⟨Nat.le_of_ble_eq_true rfl, Nat.le_of_ble_eq_true rfl⟩) (w_recv hK hW HB.1 (putAt (k := 0) (by decide)) rfl rfl) rfl rfl (Nat.le_of_ble_eq_true rfl) dX5_hang_50 ⟨Nat.zero_le _, Nat.zero_le _⟩ (fun Ez H locs hw2 hW hS => ?_)
          obtain ⟨X_10, ez, hw⟩ := hw2
          rw [ez, putPut] at hW
          refine lv_aload_n hx hb dX5_hang_53 rfl (lv_at hl 1 rfl) ?_
          refine lv_iload_n hx hb dX5_hang_54 rfl (lv_at hl 2 rfl) ?_
          refine lv_bipush (v := 10) hx hb dX5_hang_55 (by decide) ?_
          refine lv_iconst (v := 0) hx hb dX5_hang_57 (by decide) ?_
          refine w_cvv (As := [.int p1, .int 10, .int 0]) (rest := []) hx hb hml hown hts hK hW hS hl.1 (c_X5_lay hA HB (fun k hk => putAt hk)  hw) (k_X5_61 hts ⟨Nat.le_of_ble_eq_true rfl, Nat.le_of_ble_eq_true rfl⟩) (w_recv hK hW HB.1 (putAt (k := 0) (by decide)) rfl rfl) rfl rfl (Nat.le_of_ble_eq_true rfl) dX5_hang_58 ⟨Nat.zero_le _, Nat.zero_le _⟩ (fun Ez H locs hw2 hW hS => ?_)
          obtain ⟨X_11, ez, hw⟩ := hw2
          rw [ez, putPut] at hW
          refine lv_aload_n hx hb dX5_hang_61 rfl (lv_at hl 1 rfl) ?_
          refine lv_iload_n hx hb dX5_hang_62 rfl (lv_at hl 2 rfl) ?_
          refine lv_iconst (v := 5) hx hb dX5_hang_63 (by decide) ?_
          refine lv_iconst (v := 0) hx hb dX5_hang_64 (by decide) ?_
          refine w_cvv (As := [.int p1, .int 5, .int 0]) (rest := []) hx hb hml hown hts hK hW hS hl.1 (c_X5_lay hA HB (fun k hk => putAt hk)  hw) (k_X5_61 hts ⟨Nat.le_of_ble_eq_true rfl, Nat.le_of_ble_eq_true rfl⟩) (w_recv hK hW HB.1 (putAt (k := 0) (by decide)) rfl rfl) rfl rfl (Nat.le_of_ble_eq_true rfl) dX5_hang_65 ⟨Nat.zero_le _, Nat.zero_le _⟩ (fun Ez H locs hw2 hW hS => ?_)
          obtain ⟨X_12, ez, hw⟩ := hw2
          rw [ez, putPut] at hW
          refine lv_aload_n hx hb dX5_hang_68 rfl (lv_at hl 1 rfl) ?_
          refine lv_iload_n hx hb dX5_hang_69 rfl (lv_at hl 2 rfl) ?_
          refine w_cvv (As := [.int p1]) (rest := []) hx hb hml hown hts hK hW hS hl.1 (c_X5_dropCall hA HB (fun k hk => putAt hk)  hw) (k_X5_79 hts ⟨Nat.le_of_ble_eq_true rfl, Nat.le_of_ble_eq_true rfl⟩) (w_recv hK hW HB.1 (putAt (k := 0) (by decide)) rfl rfl) rfl rfl (Nat.le_of_ble_eq_true rfl) dX5_hang_70 ⟨Nat.zero_le _, Nat.zero_le _⟩ (fun Ez H locs hw2 hW hS => ?_)
          obtain ⟨X_13, ez, hw⟩ := hw2
          rw [ez, putPut] at hW
          refine lv_iload_n hx hb dX5_hang_73 rfl (lv_at hl 0 rfl) ?_
          exact w_iret hx hb hr hlocks hW hS ⟨X_13, rfl, hw⟩ dX5_hang_74
    · have hw := hw.1 c_5
      refine lv_bipush (v := (-5)) hx hb dX5_hang_18 (by decide) ?_
      exact w_iret hx hb hr hlocks hW hS ⟨X, rfl, hw⟩ dX5_hang_20
  · have hw := hw.1 c_3
    refine lv_iconst (v := (-1)) hx hb dX5_hang_7 (by decide) ?_
    exact w_iret hx hb hr hlocks hW hS ⟨X, rfl, hw⟩ dX5_hang_8
set_option maxHeartbeats 4000000 in
set_option maxRecDepth 100000 in
theorem c_X5_dial {l : Launch} {g : GG} {lay : LY} {E0 : ES} {o : Nat} {X : ES} {p1 : Int32} {p2 : Int32} {K : Int32 → ES → Prop} (hA : okL g lay) (HB : ML g lay o) (hX : ∀ k, k < 7 → E0 (o + k) = X k) (hw : wp_X5_dial X p1 p2 K) : JMi l g lay yX5_dial wsX5_dial rmX5_dial [.ref o, .int p1, .int p2] E0 (fun r E1 => ∃ X1 : ES, E1 = put 7 o X1 E0 ∧ K r X1) := by
  refine Met.ofW (cc := cX5_dial) (maxL := 4) (ret := (some .int)) (by decide) rfl ?_
  intro p e s m args below meth c s₁ B hml hv
  obtain ⟨rfl, hK, hW⟩ := hv
  have hx := B.exec
  have hb := B.bytes
  have hr := B.returns
  have hts := gd_of (atoms_spec (ws := wsX5_dial) B.pre)
  have hown : s.vm.findClass RX5 = some m.cls := findClass_of_methodNamed B.named
  have hlocks := B.notSynchronized
  have hS : va_S (Ab g) s.heap s.heap [] := va_S.rf
  have hW : Wd g lay (put 7 o X E0) s.heap := by rw [putSelf hX]; exact hW
  have hl := lv_entry [.ref o, .int p1, .int p2] (n := 4) (Nat.le_of_ble_eq_true rfl)
  rw [lg_entry_eq]
  generalize (lg_sl [.ref o, .int p1, .int p2] ++ List.replicate (4 - (lg_sl [.ref o, .int p1, .int p2]).length) Slot.unset).toArray = ls at hl ⊢
  have hl : lv_has ls 4 [(0, .ref o), (1, .int p1), (2, .int p2)] := hl
  unfold wp_X5_dial at hw
  refine lv_iload_n hx hb dX5_dial_0 rfl (lv_at hl 1 rfl) ?_
  refine w_csi (As := [.int p1]) (rest := []) hx hb hml hown hts hK hW hS hl.1 (c_X5_isLine hw) (k_X5_64 hts ⟨Nat.le_of_ble_eq_true rfl, Nat.le_of_ble_eq_true rfl⟩) rfl rfl (Nat.le_of_ble_eq_true rfl) dX5_dial_1 ⟨Nat.zero_le _, Nat.zero_le _⟩ (fun r_1 Ez H locs hw2 hW hS => ?_)
  obtain ⟨ez, z_2, hw⟩ := hw2
  rw [ez] at hW
  refine lv_if_ne (tgt := 9) hx hb dX5_dial_4 (by decide) (fun c_3 => ?_) (fun c_3 => ?_)
  · have hw := hw.2 c_3
    refine lv_iload_n hx hb dX5_dial_9 rfl (lv_at hl 2 rfl) ?_
    refine lv_iconst (v := 0) hx hb dX5_dial_10 (by decide) ?_
    refine lv_bipush (v := 9) hx hb dX5_dial_11 (by decide) ?_
    refine w_csi (As := [.int p2, .int 0, .int 9]) (rest := []) hx hb hml hown hts hK hW hS hl.1 (c_X5_in hw) (k_X5_33 hts ⟨Nat.le_of_ble_eq_true rfl, Nat.le_of_ble_eq_true rfl⟩) rfl rfl (Nat.le_of_ble_eq_true rfl) dX5_dial_13 ⟨Nat.zero_le _, Nat.zero_le _⟩ (fun r_4 Ez H locs hw2 hW hS => ?_)
    obtain ⟨ez, z_5, hw⟩ := hw2
    rw [ez] at hW
    refine lv_if_ne (tgt := 22) hx hb dX5_dial_16 (by decide) (fun c_6 => ?_) (fun c_6 => ?_)
    · have hw := hw.2 c_6
      refine lv_aload_n hx hb dX5_dial_22 rfl (lv_at hl 0 rfl) ?_
      refine lv_iload_n hx hb dX5_dial_23 rfl (lv_at hl 1 rfl) ?_
      refine lv_iconst (v := 0) hx hb dX5_dial_24 (by decide) ?_
      refine w_cvi (As := [.int p1, .int 0]) (rest := []) hx hb hml hown hts hK hW hS hl.1 (c_X5_of hA HB (fun k hk => putAt hk)  hw) (k_X5_67 hts ⟨Nat.le_of_ble_eq_true rfl, Nat.le_of_ble_eq_true rfl⟩) (w_recv hK hW HB.1 (putAt (k := 0) (by decide)) rfl rfl) rfl rfl (Nat.le_of_ble_eq_true rfl) dX5_dial_25 ⟨Nat.zero_le _, Nat.zero_le _⟩ (fun r_7 Ez H locs hw2 hW hS => ?_)
      obtain ⟨ez, hw⟩ := hw2
      rw [ez] at hW
      refine lv_iconst (v := 2) hx hb dX5_dial_28 (by decide) ?_
      refine lv_iconst (v := 3) hx hb dX5_dial_29 (by decide) ?_
      refine w_csi (As := [.int r_7, .int 2, .int 3]) (rest := []) hx hb hml hown hts hK hW hS hl.1 (c_X5_in hw) (k_X5_33 hts ⟨Nat.le_of_ble_eq_true rfl, Nat.le_of_ble_eq_true rfl⟩) rfl rfl (Nat.le_of_ble_eq_true rfl) dX5_dial_30 ⟨Nat.zero_le _, Nat.zero_le _⟩ (fun r_8 Ez H locs hw2 hW hS => ?_)
      obtain ⟨ez, z_9, hw⟩ := hw2
      rw [ez] at hW
      refine lv_if_ne (tgt := 39) hx hb dX5_dial_33 (by decide) (fun c_10 => ?_) (fun c_10 => ?_)
      · have hw := hw.2 c_10
        refine lv_aload_n hx hb dX5_dial_39 rfl (lv_at hl 0 rfl) ?_
        refine lv_iload_n hx hb dX5_dial_40 rfl (lv_at hl 1 rfl) ?_
        refine lv_bipush (v := 10) hx hb dX5_dial_41 (by decide) ?_
        refine w_cvi (As := [.int p1, .int 10]) (rest := []) hx hb hml hown hts hK hW hS hl.1 (c_X5_of hA HB (fun k hk => putAt hk)  hw) (k_X5_67 hts ⟨Nat.le_of_ble_eq_true rfl, Nat.le_of_ble_eq_true rfl⟩) (w_recv hK hW HB.1 (putAt (k := 0) (by decide)) rfl rfl) rfl rfl (Nat.le_of_ble_eq_true rfl) dX5_dial_43 ⟨Nat.zero_le _, Nat.zero_le _⟩ (fun r_11 Ez H locs hw2 hW hS => ?_)
        obtain ⟨ez, hw⟩ := hw2
        rw [ez] at hW
        refine lv_istore_n (lv' := [(3, .int r_11), (0, .ref o), (1, .int p1), (2, .int p2)]) hx hb dX5_dial_46 rfl hl (by decide) rfl (fun ls hl => ?_)
        refine lv_iload_n hx hb dX5_dial_47 rfl (lv_at hl 0 rfl) ?_
        refine lv_iconst (v := 4) hx hb dX5_dial_48 (by decide) ?_
        refine lv_icmp_ne (tgt := 55) hx hb dX5_dial_49 (by decide) (fun c_12 => ?_) (fun c_12 => ?_)
        · have hw := hw.2 c_12
          refine lv_aload_n hx hb dX5_dial_55 rfl (lv_at hl 1 rfl) ?_
          refine lv_iload_n hx hb dX5_dial_56 rfl (lv_at hl 2 rfl) ?_
          refine lv_bipush (v := 6) hx hb dX5_dial_57 (by decide) ?_
          refine lv_iload_n hx hb dX5_dial_59 rfl (lv_at hl 0 rfl) ?_
          refine lv_iadd hx hb dX5_dial_60 ?_
          refine lv_iload_n hx hb dX5_dial_61 rfl (lv_at hl 3 rfl) ?_
          refine w_cvv (As := [.int p1, .int (6 + r_11), .int p2]) (rest := []) hx hb hml hown hts hK hW hS hl.1 (c_X5_lay hA HB (fun k hk => putAt hk)  hw) (k_X5_61 hts ⟨Nat.le_of_ble_eq_true rfl, Nat.le_of_ble_eq_true rfl⟩) (w_recv hK hW HB.1 (putAt (k := 0) (by decide)) rfl rfl) rfl rfl (Nat.le_of_ble_eq_true rfl) dX5_dial_62 ⟨Nat.zero_le _, Nat.zero_le _⟩ (fun Ez H locs hw2 hW hS => ?_)
          obtain ⟨X_13, ez, hw⟩ := hw2
          rw [ez, putPut] at hW
          refine lv_aload_n hx hb dX5_dial_65 rfl (lv_at hl 1 rfl) ?_
          refine lv_iload_n hx hb dX5_dial_66 rfl (lv_at hl 2 rfl) ?_
          refine lv_bipush (v := 10) hx hb dX5_dial_67 (by decide) ?_
          refine lv_iload_n hx hb dX5_dial_69 rfl (lv_at hl 0 rfl) ?_
          refine lv_iconst (v := 1) hx hb dX5_dial_70 (by decide) ?_
          refine lv_iadd hx hb dX5_dial_71 ?_
          refine w_cvv (As := [.int p1, .int 10, .int (r_11 + 1)]) (rest := []) hx hb hml hown hts hK hW hS hl.1 (c_X5_lay hA HB (fun k hk => putAt hk)  hw) (k_X5_61 hts ⟨Nat.le_of_ble_eq_true rfl, Nat.le_of_ble_eq_true rfl⟩) (w_recv hK hW HB.1 (putAt (k := 0) (by decide)) rfl rfl) rfl rfl (Nat.le_of_ble_eq_true rfl) dX5_dial_72 ⟨Nat.zero_le _, Nat.zero_le _⟩ (fun Ez H locs hw2 hW hS => ?_)
          obtain ⟨X_14, ez, hw⟩ := hw2
          rw [ez, putPut] at hW
          refine lv_iload_n hx hb dX5_dial_75 rfl (lv_at hl 0 rfl) ?_
          refine lv_iconst (v := 1) hx hb dX5_dial_76 (by decide) ?_
          refine lv_iadd hx hb dX5_dial_77 ?_
          exact w_iret hx hb hr hlocks hW hS ⟨X_14, rfl, hw⟩ dX5_dial_78
        · have hw := hw.1 c_12
          refine lv_bipush (v := (-4)) hx hb dX5_dial_52 (by decide) ?_
          exact w_iret hx hb hr hlocks hW hS ⟨X, rfl, hw⟩ dX5_dial_54
      · have hw := hw.1 c_10
        refine lv_bipush (v := (-5)) hx hb dX5_dial_36 (by decide) ?_
        exact w_iret hx hb hr hlocks hW hS ⟨X, rfl, hw⟩ dX5_dial_38
    · have hw := hw.1 c_6
      refine lv_bipush (v := (-2)) hx hb dX5_dial_19 (by decide) ?_
      exact w_iret hx hb hr hlocks hW hS ⟨X, rfl, hw⟩ dX5_dial_21
  · have hw := hw.1 c_3
    refine lv_iconst (v := (-1)) hx hb dX5_dial_7 (by decide) ?_
    exact w_iret hx hb hr hlocks hW hS ⟨X, rfl, hw⟩ dX5_dial_8
set_option maxHeartbeats 4000000 in
set_option maxRecDepth 100000 in
theorem c_X5_takeDigit {l : Launch} {g : GG} {lay : LY} {E0 : ES} {o : Nat} {X : ES} {p1 : Int32} {K : Int32 → ES → Prop} (hA : okL g lay) (HB : ML g lay o) (hX : ∀ k, k < 7 → E0 (o + k) = X k) (hw : wp_X5_takeDigit X p1 K) : JMi l g lay yX5_takeDigit wsX5_takeDigit rmX5_takeDigit [.ref o, .int p1] E0 (fun r E1 => ∃ X1 : ES, E1 = put 7 o X1 E0 ∧ K r X1) := by
  refine Met.ofW (cc := cX5_takeDigit) (maxL := 5) (ret := (some .int)) (by decide) rfl ?_
  intro p e s m args below meth c s₁ B hml hv
  obtain ⟨rfl, hK, hW⟩ := hv
  have hx := B.exec
  have hb := B.bytes
  have hr := B.returns
  have hts := gd_of (atoms_spec (ws := wsX5_takeDigit) B.pre)
  have hown : s.vm.findClass RX5 = some m.cls := findClass_of_methodNamed B.named
  have hlocks := B.notSynchronized
  have hS : va_S (Ab g) s.heap s.heap [] := va_S.rf
  have hW : Wd g lay (put 7 o X E0) s.heap := by rw [putSelf hX]; exact hW
  have hl := lv_entry [.ref o, .int p1] (n := 5) (Nat.le_of_ble_eq_true rfl)
  rw [lg_entry_eq]
  generalize (lg_sl [.ref o, .int p1] ++ List.replicate (5 - (lg_sl [.ref o, .int p1]).length) Slot.unset).toArray = ls at hl ⊢
  have hl : lv_has ls 5 [(0, .ref o), (1, .int p1)] := hl
  unfold wp_X5_takeDigit at hw
  refine lv_aload_n hx hb dX5_takeDigit_0 rfl (lv_at hl 0 rfl) ?_
  refine lv_iload_n hx hb dX5_takeDigit_1 rfl (lv_at hl 1 rfl) ?_
  refine lv_bipush (v := 10) hx hb dX5_takeDigit_2 (by decide) ?_
  refine w_cvi (As := [.int p1, .int 10]) (rest := []) hx hb hml hown hts hK hW hS hl.1 (c_X5_of hA HB (fun k hk => putAt hk)  hw) (k_X5_67 hts ⟨Nat.le_of_ble_eq_true rfl, Nat.le_of_ble_eq_true rfl⟩) (w_recv hK hW HB.1 (putAt (k := 0) (by decide)) rfl rfl) rfl rfl (Nat.le_of_ble_eq_true rfl) dX5_takeDigit_4 ⟨Nat.zero_le _, Nat.zero_le _⟩ (fun r_1 Ez H locs hw2 hW hS => ?_)
  obtain ⟨ez, hw⟩ := hw2
  rw [ez] at hW
  refine lv_istore_n (lv' := [(2, .int r_1), (0, .ref o), (1, .int p1)]) hx hb dX5_takeDigit_7 rfl hl (by decide) rfl (fun ls hl => ?_)
  refine lv_iload_n hx hb dX5_takeDigit_8 rfl (lv_at hl 0 rfl) ?_
  refine lv_if_ne (tgt := 14) hx hb dX5_takeDigit_9 (by decide) (fun c_2 => ?_) (fun c_2 => ?_)
  · have hw := hw.2 c_2
    refine lv_aload_n hx hb dX5_takeDigit_14 rfl (lv_at hl 1 rfl) ?_
    refine lv_iload_n hx hb dX5_takeDigit_15 rfl (lv_at hl 2 rfl) ?_
    refine lv_bipush (v := 6) hx hb dX5_takeDigit_16 (by decide) ?_
    refine w_cvi (As := [.int p1, .int 6]) (rest := []) hx hb hml hown hts hK hW hS hl.1 (c_X5_of hA HB (fun k hk => putAt hk)  hw) (k_X5_67 hts ⟨Nat.le_of_ble_eq_true rfl, Nat.le_of_ble_eq_true rfl⟩) (w_recv hK hW HB.1 (putAt (k := 0) (by decide)) rfl rfl) rfl rfl (Nat.le_of_ble_eq_true rfl) dX5_takeDigit_18 ⟨Nat.zero_le _, Nat.zero_le _⟩ (fun r_3 Ez H locs hw2 hW hS => ?_)
    obtain ⟨ez, hw⟩ := hw2
    rw [ez] at hW
    refine lv_istore_n (lv' := [(3, .int r_3), (2, .int r_1), (0, .ref o), (1, .int p1)]) hx hb dX5_takeDigit_21 rfl hl (by decide) rfl (fun ls hl => ?_)
    refine lv_iconst (v := 1) hx hb dX5_takeDigit_22 (by decide) ?_
    refine lv_istore (lv' := [(4, .int 1), (3, .int r_3), (2, .int r_1), (0, .ref o), (1, .int p1)]) hx hb dX5_takeDigit_23 hl (by decide) rfl (fun ls hl => ?_)
    obtain ⟨n_25, hw⟩ := hw
    refine w_loop (KT := Int32 → ES → Prop) (σ := Int32 × ES) (Wl := fun Kx_25 n_25 q => wpl_X5_takeDigit_25 p1 r_1 K Kx_25 n_25 q.1 q.2) (Pw := fun q => Wd g lay (put 7 o q.2 E0)) (lvf := fun q => [(0, .ref o), (1, .int p1), (2, .int r_1), (3, .int r_3), (4, .int q.1)]) (nL := 5) n_25 (1, X) hw hW hS (lv_sub hl [3, 4, 2, 1, 0] rfl) (fun _ h => h) (fun Kx_25 eK_25 n_25 q H locs ls hw hW hS hl ih_25 => ?_)
    obtain ⟨i_4, X_5⟩ := q
    try dsimp only at hw
    rw [wpl_X5_takeDigit_25] at hw
    have hl : lv_has ls 5 [(0, .ref o), (1, .int p1), (2, .int r_1), (3, .int r_3), (4, .int i_4)] := hl
    have hW : Wd g lay (put 7 o X_5 E0) H := hW
    refine lv_iload hx hb dX5_takeDigit_25 (lv_at hl 4 rfl) ?_
    refine lv_iload_n hx hb dX5_takeDigit_27 rfl (lv_at hl 2 rfl) ?_
    refine lv_icmp_ge (tgt := 59) hx hb dX5_takeDigit_28 (by decide) (fun c_19 => ?_) (fun c_19 => ?_)
    · have hw := hw.1 c_19
      rw [eK_25] at hw
      refine lv_aload_n hx hb dX5_takeDigit_59 rfl (lv_at hl 0 rfl) ?_
      refine lv_iload_n hx hb dX5_takeDigit_60 rfl (lv_at hl 1 rfl) ?_
      refine lv_bipush (v := 10) hx hb dX5_takeDigit_61 (by decide) ?_
      refine lv_iload_n hx hb dX5_takeDigit_63 rfl (lv_at hl 2 rfl) ?_
      refine lv_iconst (v := 1) hx hb dX5_takeDigit_64 (by decide) ?_
      refine lv_isub hx hb dX5_takeDigit_65 ?_
      refine w_cvv (As := [.int p1, .int 10, .int (r_1 - 1)]) (rest := []) hx hb hml hown hts hK hW hS hl.1 (c_X5_lay hA HB (fun k hk => putAt hk)  hw) (k_X5_61 hts ⟨Nat.le_of_ble_eq_true rfl, Nat.le_of_ble_eq_true rfl⟩) (w_recv hK hW HB.1 (putAt (k := 0) (by decide)) rfl rfl) rfl rfl (Nat.le_of_ble_eq_true rfl) dX5_takeDigit_66 ⟨Nat.zero_le _, Nat.zero_le _⟩ (fun Ez H locs hw2 hW hS => ?_)
      obtain ⟨X_20, ez, hw⟩ := hw2
      rw [ez, putPut] at hW
      refine lv_iload_n hx hb dX5_takeDigit_69 rfl (lv_at hl 3 rfl) ?_
      refine lv_if_ne (tgt := 78) hx hb dX5_takeDigit_70 (by decide) (fun c_21 => ?_) (fun c_21 => ?_)
      · have hw := hw.2 c_21
        refine lv_iload_n hx hb dX5_takeDigit_78 rfl (lv_at hl 3 rfl) ?_
        exact w_iret hx hb hr hlocks hW hS ⟨X_20, rfl, hw⟩ dX5_takeDigit_79
      · have hw := hw.1 c_21
        refine lv_bipush (v := 10) hx hb dX5_takeDigit_73 (by decide) ?_
        refine lv_goto (tgt := 79) hx hb dX5_takeDigit_75 (by decide) ?_
        exact w_iret hx hb hr hlocks hW hS ⟨X_20, rfl, hw⟩ dX5_takeDigit_79
    · have hw := hw.2 c_19
      refine lv_aload_n hx hb dX5_takeDigit_31 rfl (lv_at hl 0 rfl) ?_
      refine lv_iload_n hx hb dX5_takeDigit_32 rfl (lv_at hl 1 rfl) ?_
      refine lv_bipush (v := 6) hx hb dX5_takeDigit_33 (by decide) ?_
      refine lv_iload hx hb dX5_takeDigit_35 (lv_at hl 4 rfl) ?_
      refine lv_iadd hx hb dX5_takeDigit_37 ?_
      refine lv_iconst (v := 1) hx hb dX5_takeDigit_38 (by decide) ?_
      refine lv_isub hx hb dX5_takeDigit_39 ?_
      refine lv_aload_n hx hb dX5_takeDigit_40 rfl (lv_at hl 0 rfl) ?_
      refine lv_iload_n hx hb dX5_takeDigit_41 rfl (lv_at hl 1 rfl) ?_
      refine lv_bipush (v := 6) hx hb dX5_takeDigit_42 (by decide) ?_
      refine lv_iload hx hb dX5_takeDigit_44 (lv_at hl 4 rfl) ?_
      refine lv_iadd hx hb dX5_takeDigit_46 ?_
      refine w_cvi (As := [.int p1, .int (6 + i_4)]) (rest := [.int ((6 + i_4) - 1), .int p1, .ref o]) hx hb hml hown hts hK hW hS hl.1 (c_X5_of hA HB (fun k hk => putAt hk)  hw) (k_X5_67 hts ⟨Nat.le_of_ble_eq_true rfl, Nat.le_of_ble_eq_true rfl⟩) (w_recv hK hW HB.1 (putAt (k := 0) (by decide)) rfl rfl) rfl rfl (Nat.le_of_ble_eq_true rfl) dX5_takeDigit_47 ⟨Nat.zero_le _, Nat.zero_le _⟩ (fun r_22 Ez H locs hw2 hW hS => ?_)
      obtain ⟨ez, hw⟩ := hw2
      rw [ez] at hW
      refine w_cvv (As := [.int p1, .int ((6 + i_4) - 1), .int r_22]) (rest := []) hx hb hml hown hts hK hW hS hl.1 (c_X5_lay hA HB (fun k hk => putAt hk)  hw) (k_X5_61 hts ⟨Nat.le_of_ble_eq_true rfl, Nat.le_of_ble_eq_true rfl⟩) (w_recv hK hW HB.1 (putAt (k := 0) (by decide)) rfl rfl) rfl rfl (Nat.le_of_ble_eq_true rfl) dX5_takeDigit_50 ⟨Nat.zero_le _, Nat.zero_le _⟩ (fun Ez H locs hw2 hW hS => ?_)
      obtain ⟨X_23, ez, hw⟩ := hw2
      rw [ez, putPut] at hW
      obtain ⟨v_24, ev_24⟩ : ∃ z : Int32, z = i_4 + 1 := ⟨_, rfl⟩
      have hw := hw v_24 ev_24
      refine lv_iinc (v := v_24) (lv' := [(4, .int v_24), (0, .ref o), (1, .int p1), (2, .int r_1), (3, .int r_3)]) hx hb dX5_takeDigit_53 hl (k := 4) rfl (by rw [ev_24]; rfl) (by decide) rfl (fun ls hl => ?_)
      refine lv_goto (tgt := 25) hx hb dX5_takeDigit_56 (by decide) ?_
      exact ih_25 (v_24, X_23) _ _ _ hw hW hS (lv_sub hl [1, 2, 3, 4, 0] rfl)
  · have hw := hw.1 c_2
    refine lv_iconst (v := 0) hx hb dX5_takeDigit_12 (by decide) ?_
    exact w_iret hx hb hr hlocks hW hS ⟨X, rfl, hw⟩ dX5_takeDigit_13
set_option maxHeartbeats 4000000 in
set_option maxRecDepth 100000 in
theorem c_X5_giveUp {l : Launch} {g : GG} {lay : LY} {E0 : ES} {o : Nat} {X : ES} {p1 : Int32} {K : ES → Prop} (hA : okL g lay) (HB : ML g lay o) (hX : ∀ k, k < 7 → E0 (o + k) = X k) (hw : wp_X5_giveUp X p1 K) : JMv l g lay yX5_giveUp wsX5_giveUp rmX5_giveUp [.ref o, .int p1] E0 (fun E1 => ∃ X1 : ES, E1 = put 7 o X1 E0 ∧ K X1) := by
  refine Met.ofW (cc := cX5_giveUp) (maxL := 3) (ret := none) (by decide) rfl ?_
  intro p e s m args below meth c s₁ B hml hv
  obtain ⟨rfl, hK, hW⟩ := hv
  have hx := B.exec
  have hb := B.bytes
  have hr := B.returns
  have hts := gd_of (atoms_spec (ws := wsX5_giveUp) B.pre)
  have hown : s.vm.findClass RX5 = some m.cls := findClass_of_methodNamed B.named
  have hlocks := B.notSynchronized
  have hS : va_S (Ab g) s.heap s.heap [] := va_S.rf
  have hW : Wd g lay (put 7 o X E0) s.heap := by rw [putSelf hX]; exact hW
  have hl := lv_entry [.ref o, .int p1] (n := 3) (Nat.le_of_ble_eq_true rfl)
  rw [lg_entry_eq]
  generalize (lg_sl [.ref o, .int p1] ++ List.replicate (3 - (lg_sl [.ref o, .int p1]).length) Slot.unset).toArray = ls at hl ⊢
  have hl : lv_has ls 3 [(0, .ref o), (1, .int p1)] := hl
  unfold wp_X5_giveUp at hw
  refine lv_aload_n hx hb dX5_giveUp_0 rfl (lv_at hl 0 rfl) ?_
  refine lv_iload_n hx hb dX5_giveUp_1 rfl (lv_at hl 1 rfl) ?_
  refine lv_iconst (v := 2) hx hb dX5_giveUp_2 (by decide) ?_
  refine w_cvi (As := [.int p1, .int 2]) (rest := []) hx hb hml hown hts hK hW hS hl.1 (c_X5_ofFinder hA HB (fun k hk => putAt hk)  hw) (k_X5_41 hts ⟨Nat.le_of_ble_eq_true rfl, Nat.le_of_ble_eq_true rfl⟩) (w_recv hK hW HB.1 (putAt (k := 0) (by decide)) rfl rfl) rfl rfl (Nat.le_of_ble_eq_true rfl) dX5_giveUp_3 ⟨Nat.zero_le _, Nat.zero_le _⟩ (fun r_1 Ez H locs hw2 hW hS => ?_)
  obtain ⟨ez, hw⟩ := hw2
  rw [ez] at hW
  refine lv_istore_n (lv' := [(2, .int r_1), (0, .ref o), (1, .int p1)]) hx hb dX5_giveUp_6 rfl hl (by decide) rfl (fun ls hl => ?_)
  refine lv_aload_n hx hb dX5_giveUp_7 rfl (lv_at hl 1 rfl) ?_
  refine lv_iload_n hx hb dX5_giveUp_8 rfl (lv_at hl 2 rfl) ?_
  refine w_cvv (As := [.int p1]) (rest := []) hx hb hml hown hts hK hW hS hl.1 (c_X5_free hA HB (fun k hk => putAt hk)  hw) (k_X5_37 hts ⟨Nat.le_of_ble_eq_true rfl, Nat.le_of_ble_eq_true rfl⟩) (w_recv hK hW HB.1 (putAt (k := 0) (by decide)) rfl rfl) rfl rfl (Nat.le_of_ble_eq_true rfl) dX5_giveUp_9 ⟨Nat.zero_le _, Nat.zero_le _⟩ (fun Ez H locs hw2 hW hS => ?_)
  obtain ⟨X_2, ez, hw⟩ := hw2
  rw [ez, putPut] at hW
  refine lv_aload_n hx hb dX5_giveUp_12 rfl (lv_at hl 1 rfl) ?_
  refine lv_iload_n hx hb dX5_giveUp_13 rfl (lv_at hl 0 rfl) ?_
  refine w_cvv (As := [.int r_1]) (rest := []) hx hb hml hown hts hK hW hS hl.1 (c_X5_park hA HB (fun k hk => putAt hk)  hw) (k_X5_76 hts ⟨Nat.le_of_ble_eq_true rfl, Nat.le_of_ble_eq_true rfl⟩) (w_recv hK hW HB.1 (putAt (k := 0) (by decide)) rfl rfl) rfl rfl (Nat.le_of_ble_eq_true rfl) dX5_giveUp_14 ⟨Nat.zero_le _, Nat.zero_le _⟩ (fun Ez H locs hw2 hW hS => ?_)
  obtain ⟨X_3, ez, hw⟩ := hw2
  rw [ez, putPut] at hW
  refine lv_aload_n hx hb dX5_giveUp_17 rfl (lv_at hl 1 rfl) ?_
  refine lv_iload_n hx hb dX5_giveUp_18 rfl (lv_at hl 0 rfl) ?_
  refine lv_iconst (v := 3) hx hb dX5_giveUp_19 (by decide) ?_
  refine lv_iconst (v := 5) hx hb dX5_giveUp_20 (by decide) ?_
  refine w_cvv (As := [.int r_1, .int 3, .int 5]) (rest := []) hx hb hml hown hts hK hW hS hl.1 (c_X5_lay hA HB (fun k hk => putAt hk)  hw) (k_X5_61 hts ⟨Nat.le_of_ble_eq_true rfl, Nat.le_of_ble_eq_true rfl⟩) (w_recv hK hW HB.1 (putAt (k := 0) (by decide)) rfl rfl) rfl rfl (Nat.le_of_ble_eq_true rfl) dX5_giveUp_21 ⟨Nat.zero_le _, Nat.zero_le _⟩ (fun Ez H locs hw2 hW hS => ?_)
  obtain ⟨X_4, ez, hw⟩ := hw2
  rw [ez, putPut] at hW
  refine lv_aload_n hx hb dX5_giveUp_24 rfl (lv_at hl 1 rfl) ?_
  refine lv_bipush (v := 6) hx hb dX5_giveUp_25 (by decide) ?_
  refine w_cvv (As := [.int 6]) (rest := []) hx hb hml hown hts hK hW hS hl.1 (c_X5_countOne hA HB (fun k hk => putAt hk)  hw) (k_X5_70 hts ⟨Nat.le_of_ble_eq_true rfl, Nat.le_of_ble_eq_true rfl⟩) (w_recv hK hW HB.1 (putAt (k := 0) (by decide)) rfl rfl) rfl rfl (Nat.le_of_ble_eq_true rfl) dX5_giveUp_27 ⟨Nat.zero_le _, Nat.zero_le _⟩ (fun Ez H locs hw2 hW hS => ?_)
  obtain ⟨X_5, ez, hw⟩ := hw2
  rw [ez, putPut] at hW
  exact w_vret hx hb hr hlocks hW hS ⟨X_5, rfl, hw⟩ dX5_giveUp_30
set_option maxHeartbeats 4000000 in
set_option maxRecDepth 100000 in
theorem c_X5_sound {l : Launch} {g : GG} {lay : LY} {E0 : ES} {o : Nat} {X : ES} {p1 : Int32} {p2 : Int32} {p3 : Int32} {K : ES → Prop} (hA : okL g lay) (HB : ML g lay o) (hX : ∀ k, k < 7 → E0 (o + k) = X k) (hw : wp_X5_sound X p1 p2 p3 K) : JMv l g lay yX5_sound wsX5_sound rmX5_sound [.ref o, .int p1, .int p2, .int p3] E0 (fun E1 => ∃ X1 : ES, E1 = put 7 o X1 E0 ∧ K X1) := by
  refine Met.ofW (cc := cX5_sound) (maxL := 5) (ret := none) (by decide) rfl ?_
  intro p e s m args below meth c s₁ B hml hv
  obtain ⟨rfl, hK, hW⟩ := hv
  have hx := B.exec
  have hb := B.bytes
  have hr := B.returns
  have hts := gd_of (atoms_spec (ws := wsX5_sound) B.pre)
  have hown : s.vm.findClass RX5 = some m.cls := findClass_of_methodNamed B.named
  have hlocks := B.notSynchronized
  have hS : va_S (Ab g) s.heap s.heap [] := va_S.rf
  have hW : Wd g lay (put 7 o X E0) s.heap := by rw [putSelf hX]; exact hW
  have hl := lv_entry [.ref o, .int p1, .int p2, .int p3] (n := 5) (Nat.le_of_ble_eq_true rfl)
  rw [lg_entry_eq]
  generalize (lg_sl [.ref o, .int p1, .int p2, .int p3] ++ List.replicate (5 - (lg_sl [.ref o, .int p1, .int p2, .int p3]).length) Slot.unset).toArray = ls at hl ⊢
  have hl : lv_has ls 5 [(0, .ref o), (1, .int p1), (2, .int p2), (3, .int p3)] := hl
  unfold wp_X5_sound at hw
  refine lv_aload_n hx hb dX5_sound_0 rfl (lv_at hl 0 rfl) ?_
  refine lv_iload_n hx hb dX5_sound_1 rfl (lv_at hl 1 rfl) ?_
  refine lv_iconst (v := 2) hx hb dX5_sound_2 (by decide) ?_
  refine w_cvi (As := [.int p1, .int 2]) (rest := []) hx hb hml hown hts hK hW hS hl.1 (c_X5_ofFinder hA HB (fun k hk => putAt hk)  hw) (k_X5_41 hts ⟨Nat.le_of_ble_eq_true rfl, Nat.le_of_ble_eq_true rfl⟩) (w_recv hK hW HB.1 (putAt (k := 0) (by decide)) rfl rfl) rfl rfl (Nat.le_of_ble_eq_true rfl) dX5_sound_3 ⟨Nat.zero_le _, Nat.zero_le _⟩ (fun r_1 Ez H locs hw2 hW hS => ?_)
  obtain ⟨ez, hw⟩ := hw2
  rw [ez] at hW
  refine lv_istore (lv' := [(4, .int r_1), (0, .ref o), (1, .int p1), (2, .int p2), (3, .int p3)]) hx hb dX5_sound_6 hl (by decide) rfl (fun ls hl => ?_)
  refine lv_aload_n hx hb dX5_sound_8 rfl (lv_at hl 1 rfl) ?_
  refine lv_iload_n hx hb dX5_sound_9 rfl (lv_at hl 2 rfl) ?_
  refine lv_iconst (v := 0) hx hb dX5_sound_10 (by decide) ?_
  refine lv_bipush (v := 9) hx hb dX5_sound_11 (by decide) ?_
  refine w_cvv (As := [.int p1, .int 0, .int 9]) (rest := []) hx hb hml hown hts hK hW hS hl.1 (c_X5_layFinder hA HB (fun k hk => putAt hk)  hw) (k_X5_45 hts ⟨Nat.le_of_ble_eq_true rfl, Nat.le_of_ble_eq_true rfl⟩) (w_recv hK hW HB.1 (putAt (k := 0) (by decide)) rfl rfl) rfl rfl (Nat.le_of_ble_eq_true rfl) dX5_sound_13 ⟨Nat.zero_le _, Nat.zero_le _⟩ (fun Ez H locs hw2 hW hS => ?_)
  obtain ⟨X_2, ez, hw⟩ := hw2
  rw [ez, putPut] at hW
  refine lv_aload_n hx hb dX5_sound_16 rfl (lv_at hl 1 rfl) ?_
  refine lv_iload_n hx hb dX5_sound_17 rfl (lv_at hl 2 rfl) ?_
  refine lv_iconst (v := 4) hx hb dX5_sound_18 (by decide) ?_
  refine lv_bipush (v := (-6)) hx hb dX5_sound_19 (by decide) ?_
  refine w_cvv (As := [.int p1, .int 4, .int ((-6))]) (rest := []) hx hb hml hown hts hK hW hS hl.1 (c_X5_layFinder hA HB (fun k hk => putAt hk)  hw) (k_X5_45 hts ⟨Nat.le_of_ble_eq_true rfl, Nat.le_of_ble_eq_true rfl⟩) (w_recv hK hW HB.1 (putAt (k := 0) (by decide)) rfl rfl) rfl rfl (Nat.le_of_ble_eq_true rfl) dX5_sound_21 ⟨Nat.zero_le _, Nat.zero_le _⟩ (fun Ez H locs hw2 hW hS => ?_)
  obtain ⟨X_3, ez, hw⟩ := hw2
  rw [ez, putPut] at hW
  refine lv_aload_n hx hb dX5_sound_24 rfl (lv_at hl 1 rfl) ?_
  refine lv_iload_n hx hb dX5_sound_25 rfl (lv_at hl 2 rfl) ?_
  refine lv_bipush (v := 9) hx hb dX5_sound_26 (by decide) ?_
  refine lv_bipush (v := (-6)) hx hb dX5_sound_28 (by decide) ?_
  refine w_cvv (As := [.int p1, .int 9, .int ((-6))]) (rest := []) hx hb hml hown hts hK hW hS hl.1 (c_X5_layFinder hA HB (fun k hk => putAt hk)  hw) (k_X5_45 hts ⟨Nat.le_of_ble_eq_true rfl, Nat.le_of_ble_eq_true rfl⟩) (w_recv hK hW HB.1 (putAt (k := 0) (by decide)) rfl rfl) rfl rfl (Nat.le_of_ble_eq_true rfl) dX5_sound_30 ⟨Nat.zero_le _, Nat.zero_le _⟩ (fun Ez H locs hw2 hW hS => ?_)
  obtain ⟨X_4, ez, hw⟩ := hw2
  rw [ez, putPut] at hW
  refine lv_aload_n hx hb dX5_sound_33 rfl (lv_at hl 1 rfl) ?_
  refine lv_iload_n hx hb dX5_sound_34 rfl (lv_at hl 2 rfl) ?_
  refine lv_bipush (v := 7) hx hb dX5_sound_35 (by decide) ?_
  refine lv_iconst (v := 0) hx hb dX5_sound_37 (by decide) ?_
  refine w_cvv (As := [.int p1, .int 7, .int 0]) (rest := []) hx hb hml hown hts hK hW hS hl.1 (c_X5_layFinder hA HB (fun k hk => putAt hk)  hw) (k_X5_45 hts ⟨Nat.le_of_ble_eq_true rfl, Nat.le_of_ble_eq_true rfl⟩) (w_recv hK hW HB.1 (putAt (k := 0) (by decide)) rfl rfl) rfl rfl (Nat.le_of_ble_eq_true rfl) dX5_sound_38 ⟨Nat.zero_le _, Nat.zero_le _⟩ (fun Ez H locs hw2 hW hS => ?_)
  obtain ⟨X_5, ez, hw⟩ := hw2
  rw [ez, putPut] at hW
  refine lv_aload_n hx hb dX5_sound_41 rfl (lv_at hl 1 rfl) ?_
  refine lv_iload_n hx hb dX5_sound_42 rfl (lv_at hl 2 rfl) ?_
  refine lv_iconst (v := 5) hx hb dX5_sound_43 (by decide) ?_
  refine lv_iconst (v := 0) hx hb dX5_sound_44 (by decide) ?_
  refine w_cvv (As := [.int p1, .int 5, .int 0]) (rest := []) hx hb hml hown hts hK hW hS hl.1 (c_X5_layFinder hA HB (fun k hk => putAt hk)  hw) (k_X5_45 hts ⟨Nat.le_of_ble_eq_true rfl, Nat.le_of_ble_eq_true rfl⟩) (w_recv hK hW HB.1 (putAt (k := 0) (by decide)) rfl rfl) rfl rfl (Nat.le_of_ble_eq_true rfl) dX5_sound_45 ⟨Nat.zero_le _, Nat.zero_le _⟩ (fun Ez H locs hw2 hW hS => ?_)
  obtain ⟨X_6, ez, hw⟩ := hw2
  rw [ez, putPut] at hW
  refine lv_aload_n hx hb dX5_sound_48 rfl (lv_at hl 1 rfl) ?_
  refine lv_iload hx hb dX5_sound_49 (lv_at hl 0 rfl) ?_
  refine lv_iconst (v := 0) hx hb dX5_sound_51 (by decide) ?_
  refine lv_iload_n hx hb dX5_sound_52 rfl (lv_at hl 3 rfl) ?_
  refine w_cvv (As := [.int r_1, .int 0, .int p2]) (rest := []) hx hb hml hown hts hK hW hS hl.1 (c_X5_lay hA HB (fun k hk => putAt hk)  hw) (k_X5_61 hts ⟨Nat.le_of_ble_eq_true rfl, Nat.le_of_ble_eq_true rfl⟩) (w_recv hK hW HB.1 (putAt (k := 0) (by decide)) rfl rfl) rfl rfl (Nat.le_of_ble_eq_true rfl) dX5_sound_53 ⟨Nat.zero_le _, Nat.zero_le _⟩ (fun Ez H locs hw2 hW hS => ?_)
  obtain ⟨X_7, ez, hw⟩ := hw2
  rw [ez, putPut] at hW
  refine lv_aload_n hx hb dX5_sound_56 rfl (lv_at hl 1 rfl) ?_
  refine lv_iload hx hb dX5_sound_57 (lv_at hl 0 rfl) ?_
  refine lv_iconst (v := 3) hx hb dX5_sound_59 (by decide) ?_
  refine lv_iload_n hx hb dX5_sound_60 rfl (lv_at hl 4 rfl) ?_
  refine w_cvv (As := [.int r_1, .int 3, .int p3]) (rest := []) hx hb hml hown hts hK hW hS hl.1 (c_X5_lay hA HB (fun k hk => putAt hk)  hw) (k_X5_61 hts ⟨Nat.le_of_ble_eq_true rfl, Nat.le_of_ble_eq_true rfl⟩) (w_recv hK hW HB.1 (putAt (k := 0) (by decide)) rfl rfl) rfl rfl (Nat.le_of_ble_eq_true rfl) dX5_sound_61 ⟨Nat.zero_le _, Nat.zero_le _⟩ (fun Ez H locs hw2 hW hS => ?_)
  obtain ⟨X_8, ez, hw⟩ := hw2
  rw [ez, putPut] at hW
  refine lv_aload_n hx hb dX5_sound_64 rfl (lv_at hl 1 rfl) ?_
  refine lv_iload_n hx hb dX5_sound_65 rfl (lv_at hl 3 rfl) ?_
  refine lv_bipush (v := 8) hx hb dX5_sound_66 (by decide) ?_
  refine lv_icmp_ne (tgt := 75) hx hb dX5_sound_68 (by decide) (fun c_9 => ?_) (fun c_9 => ?_)
  · have hw := hw.2 c_9
    refine lv_iconst (v := 5) hx hb dX5_sound_75 (by decide) ?_
    refine w_cvv (As := [.int 5]) (rest := []) hx hb hml hown hts hK hW hS hl.1 (c_X5_countOne hA HB (fun k hk => putAt hk)  hw) (k_X5_70 hts ⟨Nat.le_of_ble_eq_true rfl, Nat.le_of_ble_eq_true rfl⟩) (w_recv hK hW HB.1 (putAt (k := 0) (by decide)) rfl rfl) rfl rfl (Nat.le_of_ble_eq_true rfl) dX5_sound_76 ⟨Nat.zero_le _, Nat.zero_le _⟩ (fun Ez H locs hw2 hW hS => ?_)
    obtain ⟨X_10, ez, hw⟩ := hw2
    rw [ez, putPut] at hW
    exact w_vret hx hb hr hlocks hW hS ⟨X_10, rfl, hw⟩ dX5_sound_79
  · have hw := hw.1 c_9
    refine lv_iconst (v := 4) hx hb dX5_sound_71 (by decide) ?_
    refine lv_goto (tgt := 76) hx hb dX5_sound_72 (by decide) ?_
    refine w_cvv (As := [.int 4]) (rest := []) hx hb hml hown hts hK hW hS hl.1 (c_X5_countOne hA HB (fun k hk => putAt hk)  hw) (k_X5_70 hts ⟨Nat.le_of_ble_eq_true rfl, Nat.le_of_ble_eq_true rfl⟩) (w_recv hK hW HB.1 (putAt (k := 0) (by decide)) rfl rfl) rfl rfl (Nat.le_of_ble_eq_true rfl) dX5_sound_76 ⟨Nat.zero_le _, Nat.zero_le _⟩ (fun Ez H locs hw2 hW hS => ?_)
    obtain ⟨X_11, ez, hw⟩ := hw2
    rw [ez, putPut] at hW
    exact w_vret hx hb hr hlocks hW hS ⟨X_11, rfl, hw⟩ dX5_sound_79
set_option maxHeartbeats 4000000 in
set_option maxRecDepth 100000 in
theorem c_X5_reaches {l : Launch} {g : GG} {lay : LY} {E0 : ES} {o : Nat} {X : ES} {p1 : Int32} {p2 : Int32} {p3 : Int32} {K : Int32 → ES → Prop} (hA : okL g lay) (HB : ML g lay o) (hX : ∀ k, k < 7 → E0 (o + k) = X k) (hw : wp_X5_reaches X p1 p2 p3 K) : JMi l g lay yX5_reaches wsX5_reaches rmX5_reaches [.ref o, .int p1, .int p2, .int p3] E0 (fun r E1 => ∃ X1 : ES, E1 = put 7 o X1 E0 ∧ (r = 0 ∨ r = 1) ∧ K r X1) := by
  refine Met.ofW (cc := cX5_reaches) (maxL := 4) (ret := (some .boolean)) (by decide) rfl ?_
  intro p e s m args below meth c s₁ B hml hv
  obtain ⟨rfl, hK, hW⟩ := hv
  have hx := B.exec
  have hb := B.bytes
  have hr := B.returns
  have hts := gd_of (atoms_spec (ws := wsX5_reaches) B.pre)
  have hown : s.vm.findClass RX5 = some m.cls := findClass_of_methodNamed B.named
  have hlocks := B.notSynchronized
  have hS : va_S (Ab g) s.heap s.heap [] := va_S.rf
  have hW : Wd g lay (put 7 o X E0) s.heap := by rw [putSelf hX]; exact hW
  have hl := lv_entry [.ref o, .int p1, .int p2, .int p3] (n := 4) (Nat.le_of_ble_eq_true rfl)
  rw [lg_entry_eq]
  generalize (lg_sl [.ref o, .int p1, .int p2, .int p3] ++ List.replicate (4 - (lg_sl [.ref o, .int p1, .int p2, .int p3]).length) Slot.unset).toArray = ls at hl ⊢
  have hl : lv_has ls 4 [(0, .ref o), (1, .int p1), (2, .int p2), (3, .int p3)] := hl
  unfold wp_X5_reaches at hw
  refine lv_aload_n hx hb dX5_reaches_0 rfl (lv_at hl 0 rfl) ?_
  refine lv_iload_n hx hb dX5_reaches_1 rfl (lv_at hl 1 rfl) ?_
  refine lv_iload_n hx hb dX5_reaches_2 rfl (lv_at hl 2 rfl) ?_
  refine lv_aload_n hx hb dX5_reaches_3 rfl (lv_at hl 0 rfl) ?_
  refine lv_iload_n hx hb dX5_reaches_4 rfl (lv_at hl 1 rfl) ?_
  refine lv_iload_n hx hb dX5_reaches_5 rfl (lv_at hl 2 rfl) ?_
  refine w_cvi (As := [.int p1, .int p2]) (rest := [.int p2, .int p1, .ref o]) hx hb hml hown hts hK hW hS hl.1 (c_X5_ofFinder hA HB (fun k hk => putAt hk)  hw) (k_X5_41 hts ⟨Nat.le_of_ble_eq_true rfl, Nat.le_of_ble_eq_true rfl⟩) (w_recv hK hW HB.1 (putAt (k := 0) (by decide)) rfl rfl) rfl rfl (Nat.le_of_ble_eq_true rfl) dX5_reaches_6 ⟨Nat.zero_le _, Nat.zero_le _⟩ (fun r_1 Ez H locs hw2 hW hS => ?_)
  obtain ⟨ez, hw⟩ := hw2
  rw [ez] at hW
  refine lv_iconst (v := 1) hx hb dX5_reaches_9 (by decide) ?_
  refine lv_iadd hx hb dX5_reaches_10 ?_
  refine w_cvv (As := [.int p1, .int p2, .int (r_1 + 1)]) (rest := []) hx hb hml hown hts hK hW hS hl.1 (c_X5_layFinder hA HB (fun k hk => putAt hk)  hw) (k_X5_45 hts ⟨Nat.le_of_ble_eq_true rfl, Nat.le_of_ble_eq_true rfl⟩) (w_recv hK hW HB.1 (putAt (k := 0) (by decide)) rfl rfl) rfl rfl (Nat.le_of_ble_eq_true rfl) dX5_reaches_11 ⟨Nat.zero_le _, Nat.zero_le _⟩ (fun Ez H locs hw2 hW hS => ?_)
  obtain ⟨X_2, ez, hw⟩ := hw2
  rw [ez, putPut] at hW
  refine lv_aload_n hx hb dX5_reaches_14 rfl (lv_at hl 0 rfl) ?_
  refine lv_iload_n hx hb dX5_reaches_15 rfl (lv_at hl 1 rfl) ?_
  refine lv_iload_n hx hb dX5_reaches_16 rfl (lv_at hl 2 rfl) ?_
  refine w_cvi (As := [.int p1, .int p2]) (rest := []) hx hb hml hown hts hK hW hS hl.1 (c_X5_ofFinder hA HB (fun k hk => putAt hk)  hw) (k_X5_41 hts ⟨Nat.le_of_ble_eq_true rfl, Nat.le_of_ble_eq_true rfl⟩) (w_recv hK hW HB.1 (putAt (k := 0) (by decide)) rfl rfl) rfl rfl (Nat.le_of_ble_eq_true rfl) dX5_reaches_17 ⟨Nat.zero_le _, Nat.zero_le _⟩ (fun r_3 Ez H locs hw2 hW hS => ?_)
  obtain ⟨ez, hw⟩ := hw2
  rw [ez] at hW
  refine lv_iload_n hx hb dX5_reaches_20 rfl (lv_at hl 3 rfl) ?_
  refine lv_icmp_lt (tgt := 28) hx hb dX5_reaches_21 (by decide) (fun c_4 => ?_) (fun c_4 => ?_)
  · have hw := hw.1 c_4
    refine lv_iconst (v := 0) hx hb dX5_reaches_28 (by decide) ?_
    exact w_zret hx hb hr hlocks hW hS (Or.inl rfl) ⟨X_2, rfl, (Or.inl rfl), hw⟩ dX5_reaches_29
  · have hw := hw.2 c_4
    refine lv_iconst (v := 1) hx hb dX5_reaches_24 (by decide) ?_
    refine lv_goto (tgt := 29) hx hb dX5_reaches_25 (by decide) ?_
    exact w_zret hx hb hr hlocks hW hS (Or.inr rfl) ⟨X_2, rfl, (Or.inr rfl), hw⟩ dX5_reaches_29
set_option maxHeartbeats 4000000 in
set_option maxRecDepth 100000 in
theorem c_X5_seek {l : Launch} {g : GG} {lay : LY} {E0 : ES} {o : Nat} {X : ES} {p1 : Int32} {K : ES → Prop} (hA : okL g lay) (HB : ML g lay o) (hX : ∀ k, k < 7 → E0 (o + k) = X k) (hw : wp_X5_seek X p1 K) : JMv l g lay yX5_seek wsX5_seek rmX5_seek [.ref o, .int p1] E0 (fun E1 => ∃ X1 : ES, E1 = put 7 o X1 E0 ∧ K X1) := by
  refine Met.ofW (cc := cX5_seek) (maxL := 3) (ret := none) (by decide) rfl ?_
  intro p e s m args below meth c s₁ B hml hv
  obtain ⟨rfl, hK, hW⟩ := hv
  have hx := B.exec
  have hb := B.bytes
  have hr := B.returns
  have hts := gd_of (atoms_spec (ws := wsX5_seek) B.pre)
  have hown : s.vm.findClass RX5 = some m.cls := findClass_of_methodNamed B.named
  have hlocks := B.notSynchronized
  have hS : va_S (Ab g) s.heap s.heap [] := va_S.rf
  have hW : Wd g lay (put 7 o X E0) s.heap := by rw [putSelf hX]; exact hW
  have hl := lv_entry [.ref o, .int p1] (n := 3) (Nat.le_of_ble_eq_true rfl)
  rw [lg_entry_eq]
  generalize (lg_sl [.ref o, .int p1] ++ List.replicate (3 - (lg_sl [.ref o, .int p1]).length) Slot.unset).toArray = ls at hl ⊢
  have hl : lv_has ls 3 [(0, .ref o), (1, .int p1)] := hl
  unfold wp_X5_seek at hw
  refine lv_aload_n hx hb dX5_seek_0 rfl (lv_at hl 0 rfl) ?_
  refine lv_iload_n hx hb dX5_seek_1 rfl (lv_at hl 1 rfl) ?_
  refine lv_iconst (v := 2) hx hb dX5_seek_2 (by decide) ?_
  refine w_cvi (As := [.int p1, .int 2]) (rest := []) hx hb hml hown hts hK hW hS hl.1 (c_X5_ofFinder hA HB (fun k hk => putAt hk)  hw) (k_X5_41 hts ⟨Nat.le_of_ble_eq_true rfl, Nat.le_of_ble_eq_true rfl⟩) (w_recv hK hW HB.1 (putAt (k := 0) (by decide)) rfl rfl) rfl rfl (Nat.le_of_ble_eq_true rfl) dX5_seek_3 ⟨Nat.zero_le _, Nat.zero_le _⟩ (fun r_1 Ez H locs hw2 hW hS => ?_)
  obtain ⟨ez, hw⟩ := hw2
  rw [ez] at hW
  refine lv_istore_n (lv' := [(2, .int r_1), (0, .ref o), (1, .int p1)]) hx hb dX5_seek_6 rfl hl (by decide) rfl (fun ls hl => ?_)
  refine lv_aload_n hx hb dX5_seek_7 rfl (lv_at hl 1 rfl) ?_
  refine lv_iload_n hx hb dX5_seek_8 rfl (lv_at hl 2 rfl) ?_
  refine lv_iconst (v := 1) hx hb dX5_seek_9 (by decide) ?_
  refine w_cvi (As := [.int p1, .int 1]) (rest := []) hx hb hml hown hts hK hW hS hl.1 (c_X5_ofFinder hA HB (fun k hk => putAt hk)  hw) (k_X5_41 hts ⟨Nat.le_of_ble_eq_true rfl, Nat.le_of_ble_eq_true rfl⟩) (w_recv hK hW HB.1 (putAt (k := 0) (by decide)) rfl rfl) rfl rfl (Nat.le_of_ble_eq_true rfl) dX5_seek_10 ⟨Nat.zero_le _, Nat.zero_le _⟩ (fun r_2 Ez H locs hw2 hW hS => ?_)
  obtain ⟨ez, hw⟩ := hw2
  rw [ez] at hW
  refine lv_iload_n hx hb dX5_seek_13 rfl (lv_at hl 0 rfl) ?_
  refine lv_icmp_ne (tgt := 47) hx hb dX5_seek_14 (by decide) (fun c_3 => ?_) (fun c_3 => ?_)
  · have hw := hw.2 c_3
    refine lv_aload_n hx hb dX5_seek_47 rfl (lv_at hl 1 rfl) ?_
    refine lv_iload_n hx hb dX5_seek_48 rfl (lv_at hl 2 rfl) ?_
    refine lv_iconst (v := 1) hx hb dX5_seek_49 (by decide) ?_
    refine lv_aload_n hx hb dX5_seek_50 rfl (lv_at hl 1 rfl) ?_
    refine lv_iload_n hx hb dX5_seek_51 rfl (lv_at hl 2 rfl) ?_
    refine lv_iconst (v := 1) hx hb dX5_seek_52 (by decide) ?_
    refine w_cvi (As := [.int p1, .int 1]) (rest := [.int 1, .int p1, .ref o]) hx hb hml hown hts hK hW hS hl.1 (c_X5_ofFinder hA HB (fun k hk => putAt hk)  hw) (k_X5_41 hts ⟨Nat.le_of_ble_eq_true rfl, Nat.le_of_ble_eq_true rfl⟩) (w_recv hK hW HB.1 (putAt (k := 0) (by decide)) rfl rfl) rfl rfl (Nat.le_of_ble_eq_true rfl) dX5_seek_53 ⟨Nat.zero_le _, Nat.zero_le _⟩ (fun r_4 Ez H locs hw2 hW hS => ?_)
    obtain ⟨ez, hw⟩ := hw2
    rw [ez] at hW
    refine lv_iconst (v := 1) hx hb dX5_seek_56 (by decide) ?_
    refine lv_iadd hx hb dX5_seek_57 ?_
    refine lv_bipush (v := 16) hx hb dX5_seek_58 (by decide) ?_
    refine lv_irem hx hb dX5_seek_60 (by decide) ?_
    refine w_cvv (As := [.int p1, .int 1, .int ((r_4 + 1) - (r_4 + 1) / 16 * 16)]) (rest := []) hx hb hml hown hts hK hW hS hl.1 (c_X5_layFinder hA HB (fun k hk => putAt hk)  hw) (k_X5_45 hts ⟨Nat.le_of_ble_eq_true rfl, Nat.le_of_ble_eq_true rfl⟩) (w_recv hK hW HB.1 (putAt (k := 0) (by decide)) rfl rfl) rfl rfl (Nat.le_of_ble_eq_true rfl) dX5_seek_61 ⟨Nat.zero_le _, Nat.zero_le _⟩ (fun Ez H locs hw2 hW hS => ?_)
    obtain ⟨X_5, ez, hw⟩ := hw2
    rw [ez, putPut] at hW
    exact w_vret hx hb hr hlocks hW hS ⟨X_5, rfl, hw⟩ dX5_seek_64
  · have hw := hw.1 c_3
    refine lv_aload_n hx hb dX5_seek_17 rfl (lv_at hl 1 rfl) ?_
    refine lv_iload_n hx hb dX5_seek_18 rfl (lv_at hl 2 rfl) ?_
    refine lv_iconst (v := 0) hx hb dX5_seek_19 (by decide) ?_
    refine lv_iconst (v := 2) hx hb dX5_seek_20 (by decide) ?_
    refine w_cvv (As := [.int p1, .int 0, .int 2]) (rest := []) hx hb hml hown hts hK hW hS hl.1 (c_X5_layFinder hA HB (fun k hk => putAt hk)  hw) (k_X5_45 hts ⟨Nat.le_of_ble_eq_true rfl, Nat.le_of_ble_eq_true rfl⟩) (w_recv hK hW HB.1 (putAt (k := 0) (by decide)) rfl rfl) rfl rfl (Nat.le_of_ble_eq_true rfl) dX5_seek_21 ⟨Nat.zero_le _, Nat.zero_le _⟩ (fun Ez H locs hw2 hW hS => ?_)
    obtain ⟨X_6, ez, hw⟩ := hw2
    rw [ez, putPut] at hW
    refine lv_aload_n hx hb dX5_seek_24 rfl (lv_at hl 1 rfl) ?_
    refine lv_iload_n hx hb dX5_seek_25 rfl (lv_at hl 2 rfl) ?_
    refine lv_bipush (v := 7) hx hb dX5_seek_26 (by decide) ?_
    refine lv_iconst (v := 0) hx hb dX5_seek_28 (by decide) ?_
    refine w_cvv (As := [.int p1, .int 7, .int 0]) (rest := []) hx hb hml hown hts hK hW hS hl.1 (c_X5_layFinder hA HB (fun k hk => putAt hk)  hw) (k_X5_45 hts ⟨Nat.le_of_ble_eq_true rfl, Nat.le_of_ble_eq_true rfl⟩) (w_recv hK hW HB.1 (putAt (k := 0) (by decide)) rfl rfl) rfl rfl (Nat.le_of_ble_eq_true rfl) dX5_seek_29 ⟨Nat.zero_le _, Nat.zero_le _⟩ (fun Ez H locs hw2 hW hS => ?_)
    obtain ⟨X_7, ez, hw⟩ := hw2
    rw [ez, putPut] at hW
    refine lv_aload_n hx hb dX5_seek_32 rfl (lv_at hl 1 rfl) ?_
    refine lv_iload_n hx hb dX5_seek_33 rfl (lv_at hl 0 rfl) ?_
    refine lv_iconst (v := 0) hx hb dX5_seek_34 (by decide) ?_
    refine lv_iconst (v := 2) hx hb dX5_seek_35 (by decide) ?_
    refine w_cvv (As := [.int r_1, .int 0, .int 2]) (rest := []) hx hb hml hown hts hK hW hS hl.1 (c_X5_lay hA HB (fun k hk => putAt hk)  hw) (k_X5_61 hts ⟨Nat.le_of_ble_eq_true rfl, Nat.le_of_ble_eq_true rfl⟩) (w_recv hK hW HB.1 (putAt (k := 0) (by decide)) rfl rfl) rfl rfl (Nat.le_of_ble_eq_true rfl) dX5_seek_36 ⟨Nat.zero_le _, Nat.zero_le _⟩ (fun Ez H locs hw2 hW hS => ?_)
    obtain ⟨X_8, ez, hw⟩ := hw2
    rw [ez, putPut] at hW
    refine lv_aload_n hx hb dX5_seek_39 rfl (lv_at hl 1 rfl) ?_
    refine lv_iconst (v := 1) hx hb dX5_seek_40 (by decide) ?_
    refine w_cvv (As := [.int 1]) (rest := []) hx hb hml hown hts hK hW hS hl.1 (c_X5_countOne hA HB (fun k hk => putAt hk)  hw) (k_X5_70 hts ⟨Nat.le_of_ble_eq_true rfl, Nat.le_of_ble_eq_true rfl⟩) (w_recv hK hW HB.1 (putAt (k := 0) (by decide)) rfl rfl) rfl rfl (Nat.le_of_ble_eq_true rfl) dX5_seek_41 ⟨Nat.zero_le _, Nat.zero_le _⟩ (fun Ez H locs hw2 hW hS => ?_)
    obtain ⟨X_9, ez, hw⟩ := hw2
    rw [ez, putPut] at hW
    refine lv_goto (tgt := 64) hx hb dX5_seek_44 (by decide) ?_
    exact w_vret hx hb hr hlocks hW hS ⟨X_9, rfl, hw⟩ dX5_seek_64
set_option maxHeartbeats 4000000 in
set_option maxRecDepth 100000 in
theorem c_X5_waitForDigit {l : Launch} {g : GG} {lay : LY} {E0 : ES} {o : Nat} {X : ES} {p1 : Int32} {K : ES → Prop} (hA : okL g lay) (HB : ML g lay o) (hX : ∀ k, k < 7 → E0 (o + k) = X k) (hw : wp_X5_waitForDigit X p1 K) : JMv l g lay yX5_waitForDigit wsX5_waitForDigit rmX5_waitForDigit [.ref o, .int p1] E0 (fun E1 => ∃ X1 : ES, E1 = put 7 o X1 E0 ∧ K X1) := by
  refine Met.ofW (cc := cX5_waitForDigit) (maxL := 4) (ret := none) (by decide) rfl ?_
  intro p e s m args below meth c s₁ B hml hv
  obtain ⟨rfl, hK, hW⟩ := hv
  have hx := B.exec
  have hb := B.bytes
  have hr := B.returns
  have hts := gd_of (atoms_spec (ws := wsX5_waitForDigit) B.pre)
  have hown : s.vm.findClass RX5 = some m.cls := findClass_of_methodNamed B.named
  have hlocks := B.notSynchronized
  have hS : va_S (Ab g) s.heap s.heap [] := va_S.rf
  have hW : Wd g lay (put 7 o X E0) s.heap := by rw [putSelf hX]; exact hW
  have hl := lv_entry [.ref o, .int p1] (n := 4) (Nat.le_of_ble_eq_true rfl)
  rw [lg_entry_eq]
  generalize (lg_sl [.ref o, .int p1] ++ List.replicate (4 - (lg_sl [.ref o, .int p1]).length) Slot.unset).toArray = ls at hl ⊢
  have hl : lv_has ls 4 [(0, .ref o), (1, .int p1)] := hl
  unfold wp_X5_waitForDigit at hw
  refine lv_aload_n hx hb dX5_waitForDigit_0 rfl (lv_at hl 0 rfl) ?_
  refine lv_iload_n hx hb dX5_waitForDigit_1 rfl (lv_at hl 1 rfl) ?_
  refine lv_iconst (v := 2) hx hb dX5_waitForDigit_2 (by decide) ?_
  refine w_cvi (As := [.int p1, .int 2]) (rest := []) hx hb hml hown hts hK hW hS hl.1 (c_X5_ofFinder hA HB (fun k hk => putAt hk)  hw) (k_X5_41 hts ⟨Nat.le_of_ble_eq_true rfl, Nat.le_of_ble_eq_true rfl⟩) (w_recv hK hW HB.1 (putAt (k := 0) (by decide)) rfl rfl) rfl rfl (Nat.le_of_ble_eq_true rfl) dX5_waitForDigit_3 ⟨Nat.zero_le _, Nat.zero_le _⟩ (fun r_1 Ez H locs hw2 hW hS => ?_)
  obtain ⟨ez, hw⟩ := hw2
  rw [ez] at hW
  refine lv_istore_n (lv' := [(2, .int r_1), (0, .ref o), (1, .int p1)]) hx hb dX5_waitForDigit_6 rfl hl (by decide) rfl (fun ls hl => ?_)
  refine lv_aload_n hx hb dX5_waitForDigit_7 rfl (lv_at hl 1 rfl) ?_
  refine lv_iload_n hx hb dX5_waitForDigit_8 rfl (lv_at hl 0 rfl) ?_
  refine w_cvi (As := [.int r_1]) (rest := []) hx hb hml hown hts hK hW hS hl.1 (c_X5_takeDigit hA HB (fun k hk => putAt hk)  hw) (k_X5_82 hts ⟨Nat.le_of_ble_eq_true rfl, Nat.le_of_ble_eq_true rfl⟩) (w_recv hK hW HB.1 (putAt (k := 0) (by decide)) rfl rfl) rfl rfl (Nat.le_of_ble_eq_true rfl) dX5_waitForDigit_9 ⟨Nat.zero_le _, Nat.zero_le _⟩ (fun r_2 Ez H locs hw2 hW hS => ?_)
  obtain ⟨X_3, ez, hw⟩ := hw2
  rw [ez, putPut] at hW
  refine lv_istore_n (lv' := [(3, .int r_2), (2, .int r_1), (0, .ref o), (1, .int p1)]) hx hb dX5_waitForDigit_12 rfl hl (by decide) rfl (fun ls hl => ?_)
  refine lv_iload_n hx hb dX5_waitForDigit_13 rfl (lv_at hl 0 rfl) ?_
  refine lv_if_le (tgt := 72) hx hb dX5_waitForDigit_14 (by decide) (fun c_4 => ?_) (fun c_4 => ?_)
  · have hw := hw.1 c_4
    refine lv_aload_n hx hb dX5_waitForDigit_72 rfl (lv_at hl 2 rfl) ?_
    refine lv_iload_n hx hb dX5_waitForDigit_73 rfl (lv_at hl 3 rfl) ?_
    refine lv_bipush (v := 7) hx hb dX5_waitForDigit_74 (by decide) ?_
    refine lv_aload_n hx hb dX5_waitForDigit_76 rfl (lv_at hl 2 rfl) ?_
    refine lv_iconst (v := 0) hx hb dX5_waitForDigit_77 (by decide) ?_
    refine w_cvi (As := [.int 0]) (rest := [.int 7, .int p1, .ref o]) hx hb hml hown hts hK hW hS hl.1 (c_X5_setting hA HB (fun k hk => putAt hk)  hw) (k_X5_53 hts ⟨Nat.le_of_ble_eq_true rfl, Nat.le_of_ble_eq_true rfl⟩) (w_recv hK hW HB.1 (putAt (k := 0) (by decide)) rfl rfl) rfl rfl (Nat.le_of_ble_eq_true rfl) dX5_waitForDigit_78 ⟨Nat.zero_le _, Nat.zero_le _⟩ (fun r_5 Ez H locs hw2 hW hS => ?_)
    obtain ⟨ez, hw⟩ := hw2
    rw [ez] at hW
    refine w_cvi (As := [.int p1, .int 7, .int r_5]) (rest := []) hx hb hml hown hts hK hW hS hl.1 (c_X5_reaches hA HB (fun k hk => putAt hk)  hw) (k_X5_85 hts ⟨Nat.le_of_ble_eq_true rfl, Nat.le_of_ble_eq_true rfl⟩) (w_recv hK hW HB.1 (putAt (k := 0) (by decide)) rfl rfl) rfl rfl (Nat.le_of_ble_eq_true rfl) dX5_waitForDigit_81 ⟨Nat.zero_le _, Nat.zero_le _⟩ (fun r_6 Ez H locs hw2 hW hS => ?_)
    obtain ⟨X_8, ez, z_7, hw⟩ := hw2
    rw [ez, putPut] at hW
    refine lv_if_eq (tgt := 92) hx hb dX5_waitForDigit_84 (by decide) (fun c_9 => ?_) (fun c_9 => ?_)
    · have hw := hw.1 c_9
      exact w_vret hx hb hr hlocks hW hS ⟨X_8, rfl, hw⟩ dX5_waitForDigit_92
    · have hw := hw.2 c_9
      refine lv_aload_n hx hb dX5_waitForDigit_87 rfl (lv_at hl 2 rfl) ?_
      refine lv_iload_n hx hb dX5_waitForDigit_88 rfl (lv_at hl 3 rfl) ?_
      refine w_cvv (As := [.int p1]) (rest := []) hx hb hml hown hts hK hW hS hl.1 (c_X5_giveUp hA HB (fun k hk => putAt hk)  hw) (k_X5_88 hts ⟨Nat.le_of_ble_eq_true rfl, Nat.le_of_ble_eq_true rfl⟩) (w_recv hK hW HB.1 (putAt (k := 0) (by decide)) rfl rfl) rfl rfl (Nat.le_of_ble_eq_true rfl) dX5_waitForDigit_89 ⟨Nat.zero_le _, Nat.zero_le _⟩ (fun Ez H locs hw2 hW hS => ?_)
      obtain ⟨X_10, ez, hw⟩ := hw2
      rw [ez, putPut] at hW
      exact w_vret hx hb hr hlocks hW hS ⟨X_10, rfl, hw⟩ dX5_waitForDigit_92
  · have hw := hw.2 c_4
    refine lv_aload_n hx hb dX5_waitForDigit_17 rfl (lv_at hl 2 rfl) ?_
    refine lv_iload_n hx hb dX5_waitForDigit_18 rfl (lv_at hl 3 rfl) ?_
    refine lv_iconst (v := 0) hx hb dX5_waitForDigit_19 (by decide) ?_
    refine lv_aload_n hx hb dX5_waitForDigit_20 rfl (lv_at hl 2 rfl) ?_
    refine lv_iload_n hx hb dX5_waitForDigit_21 rfl (lv_at hl 3 rfl) ?_
    refine lv_iconst (v := 0) hx hb dX5_waitForDigit_22 (by decide) ?_
    refine w_cvi (As := [.int p1, .int 0]) (rest := [.int 0, .int p1, .ref o]) hx hb hml hown hts hK hW hS hl.1 (c_X5_ofFinder hA HB (fun k hk => putAt hk)  hw) (k_X5_41 hts ⟨Nat.le_of_ble_eq_true rfl, Nat.le_of_ble_eq_true rfl⟩) (w_recv hK hW HB.1 (putAt (k := 0) (by decide)) rfl rfl) rfl rfl (Nat.le_of_ble_eq_true rfl) dX5_waitForDigit_23 ⟨Nat.zero_le _, Nat.zero_le _⟩ (fun r_11 Ez H locs hw2 hW hS => ?_)
    obtain ⟨ez, hw⟩ := hw2
    rw [ez] at hW
    refine lv_iconst (v := 2) hx hb dX5_waitForDigit_26 (by decide) ?_
    refine lv_icmp_ne (tgt := 34) hx hb dX5_waitForDigit_27 (by decide) (fun c_12 => ?_) (fun c_12 => ?_)
    · have hw := hw.2 c_12
      refine lv_bipush (v := 6) hx hb dX5_waitForDigit_34 (by decide) ?_
      refine w_cvv (As := [.int p1, .int 0, .int 6]) (rest := []) hx hb hml hown hts hK hW hS hl.1 (c_X5_layFinder hA HB (fun k hk => putAt hk)  hw) (k_X5_45 hts ⟨Nat.le_of_ble_eq_true rfl, Nat.le_of_ble_eq_true rfl⟩) (w_recv hK hW HB.1 (putAt (k := 0) (by decide)) rfl rfl) rfl rfl (Nat.le_of_ble_eq_true rfl) dX5_waitForDigit_36 ⟨Nat.zero_le _, Nat.zero_le _⟩ (fun Ez H locs hw2 hW hS => ?_)
      obtain ⟨X_13, ez, hw⟩ := hw2
      rw [ez, putPut] at hW
      refine lv_aload_n hx hb dX5_waitForDigit_39 rfl (lv_at hl 2 rfl) ?_
      refine lv_iload_n hx hb dX5_waitForDigit_40 rfl (lv_at hl 3 rfl) ?_
      refine lv_iconst (v := 5) hx hb dX5_waitForDigit_41 (by decide) ?_
      refine lv_iload_n hx hb dX5_waitForDigit_42 rfl (lv_at hl 0 rfl) ?_
      refine w_cvv (As := [.int p1, .int 5, .int r_2]) (rest := []) hx hb hml hown hts hK hW hS hl.1 (c_X5_layFinder hA HB (fun k hk => putAt hk)  hw) (k_X5_45 hts ⟨Nat.le_of_ble_eq_true rfl, Nat.le_of_ble_eq_true rfl⟩) (w_recv hK hW HB.1 (putAt (k := 0) (by decide)) rfl rfl) rfl rfl (Nat.le_of_ble_eq_true rfl) dX5_waitForDigit_43 ⟨Nat.zero_le _, Nat.zero_le _⟩ (fun Ez H locs hw2 hW hS => ?_)
      obtain ⟨X_14, ez, hw⟩ := hw2
      rw [ez, putPut] at hW
      refine lv_aload_n hx hb dX5_waitForDigit_46 rfl (lv_at hl 2 rfl) ?_
      refine lv_iload_n hx hb dX5_waitForDigit_47 rfl (lv_at hl 3 rfl) ?_
      refine lv_bipush (v := 6) hx hb dX5_waitForDigit_48 (by decide) ?_
      refine lv_iload_n hx hb dX5_waitForDigit_50 rfl (lv_at hl 0 rfl) ?_
      refine w_cvv (As := [.int p1, .int 6, .int r_2]) (rest := []) hx hb hml hown hts hK hW hS hl.1 (c_X5_layFinder hA HB (fun k hk => putAt hk)  hw) (k_X5_45 hts ⟨Nat.le_of_ble_eq_true rfl, Nat.le_of_ble_eq_true rfl⟩) (w_recv hK hW HB.1 (putAt (k := 0) (by decide)) rfl rfl) rfl rfl (Nat.le_of_ble_eq_true rfl) dX5_waitForDigit_51 ⟨Nat.zero_le _, Nat.zero_le _⟩ (fun Ez H locs hw2 hW hS => ?_)
      obtain ⟨X_15, ez, hw⟩ := hw2
      rw [ez, putPut] at hW
      refine lv_aload_n hx hb dX5_waitForDigit_54 rfl (lv_at hl 2 rfl) ?_
      refine lv_iload_n hx hb dX5_waitForDigit_55 rfl (lv_at hl 3 rfl) ?_
      refine lv_bipush (v := 7) hx hb dX5_waitForDigit_56 (by decide) ?_
      refine lv_iconst (v := 0) hx hb dX5_waitForDigit_58 (by decide) ?_
      refine w_cvv (As := [.int p1, .int 7, .int 0]) (rest := []) hx hb hml hown hts hK hW hS hl.1 (c_X5_layFinder hA HB (fun k hk => putAt hk)  hw) (k_X5_45 hts ⟨Nat.le_of_ble_eq_true rfl, Nat.le_of_ble_eq_true rfl⟩) (w_recv hK hW HB.1 (putAt (k := 0) (by decide)) rfl rfl) rfl rfl (Nat.le_of_ble_eq_true rfl) dX5_waitForDigit_59 ⟨Nat.zero_le _, Nat.zero_le _⟩ (fun Ez H locs hw2 hW hS => ?_)
      obtain ⟨X_16, ez, hw⟩ := hw2
      rw [ez, putPut] at hW
      refine lv_aload_n hx hb dX5_waitForDigit_62 rfl (lv_at hl 2 rfl) ?_
      refine lv_iload_n hx hb dX5_waitForDigit_63 rfl (lv_at hl 1 rfl) ?_
      refine lv_iconst (v := 0) hx hb dX5_waitForDigit_64 (by decide) ?_
      refine lv_iconst (v := 3) hx hb dX5_waitForDigit_65 (by decide) ?_
      refine w_cvv (As := [.int r_1, .int 0, .int 3]) (rest := []) hx hb hml hown hts hK hW hS hl.1 (c_X5_lay hA HB (fun k hk => putAt hk)  hw) (k_X5_61 hts ⟨Nat.le_of_ble_eq_true rfl, Nat.le_of_ble_eq_true rfl⟩) (w_recv hK hW HB.1 (putAt (k := 0) (by decide)) rfl rfl) rfl rfl (Nat.le_of_ble_eq_true rfl) dX5_waitForDigit_66 ⟨Nat.zero_le _, Nat.zero_le _⟩ (fun Ez H locs hw2 hW hS => ?_)
      obtain ⟨X_17, ez, hw⟩ := hw2
      rw [ez, putPut] at hW
      refine lv_goto (tgt := 92) hx hb dX5_waitForDigit_69 (by decide) ?_
      exact w_vret hx hb hr hlocks hW hS ⟨X_17, rfl, hw⟩ dX5_waitForDigit_92
    · have hw := hw.1 c_12
      refine lv_iconst (v := 3) hx hb dX5_waitForDigit_30 (by decide) ?_
      refine lv_goto (tgt := 36) hx hb dX5_waitForDigit_31 (by decide) ?_
      refine w_cvv (As := [.int p1, .int 0, .int 3]) (rest := []) hx hb hml hown hts hK hW hS hl.1 (c_X5_layFinder hA HB (fun k hk => putAt hk)  hw) (k_X5_45 hts ⟨Nat.le_of_ble_eq_true rfl, Nat.le_of_ble_eq_true rfl⟩) (w_recv hK hW HB.1 (putAt (k := 0) (by decide)) rfl rfl) rfl rfl (Nat.le_of_ble_eq_true rfl) dX5_waitForDigit_36 ⟨Nat.zero_le _, Nat.zero_le _⟩ (fun Ez H locs hw2 hW hS => ?_)
      obtain ⟨X_18, ez, hw⟩ := hw2
      rw [ez, putPut] at hW
      refine lv_aload_n hx hb dX5_waitForDigit_39 rfl (lv_at hl 2 rfl) ?_
      refine lv_iload_n hx hb dX5_waitForDigit_40 rfl (lv_at hl 3 rfl) ?_
      refine lv_iconst (v := 5) hx hb dX5_waitForDigit_41 (by decide) ?_
      refine lv_iload_n hx hb dX5_waitForDigit_42 rfl (lv_at hl 0 rfl) ?_
      refine w_cvv (As := [.int p1, .int 5, .int r_2]) (rest := []) hx hb hml hown hts hK hW hS hl.1 (c_X5_layFinder hA HB (fun k hk => putAt hk)  hw) (k_X5_45 hts ⟨Nat.le_of_ble_eq_true rfl, Nat.le_of_ble_eq_true rfl⟩) (w_recv hK hW HB.1 (putAt (k := 0) (by decide)) rfl rfl) rfl rfl (Nat.le_of_ble_eq_true rfl) dX5_waitForDigit_43 ⟨Nat.zero_le _, Nat.zero_le _⟩ (fun Ez H locs hw2 hW hS => ?_)
      obtain ⟨X_19, ez, hw⟩ := hw2
      rw [ez, putPut] at hW
      refine lv_aload_n hx hb dX5_waitForDigit_46 rfl (lv_at hl 2 rfl) ?_
      refine lv_iload_n hx hb dX5_waitForDigit_47 rfl (lv_at hl 3 rfl) ?_
      refine lv_bipush (v := 6) hx hb dX5_waitForDigit_48 (by decide) ?_
      refine lv_iload_n hx hb dX5_waitForDigit_50 rfl (lv_at hl 0 rfl) ?_
      refine w_cvv (As := [.int p1, .int 6, .int r_2]) (rest := []) hx hb hml hown hts hK hW hS hl.1 (c_X5_layFinder hA HB (fun k hk => putAt hk)  hw) (k_X5_45 hts ⟨Nat.le_of_ble_eq_true rfl, Nat.le_of_ble_eq_true rfl⟩) (w_recv hK hW HB.1 (putAt (k := 0) (by decide)) rfl rfl) rfl rfl (Nat.le_of_ble_eq_true rfl) dX5_waitForDigit_51 ⟨Nat.zero_le _, Nat.zero_le _⟩ (fun Ez H locs hw2 hW hS => ?_)
      obtain ⟨X_20, ez, hw⟩ := hw2
      rw [ez, putPut] at hW
      refine lv_aload_n hx hb dX5_waitForDigit_54 rfl (lv_at hl 2 rfl) ?_
      refine lv_iload_n hx hb dX5_waitForDigit_55 rfl (lv_at hl 3 rfl) ?_
      refine lv_bipush (v := 7) hx hb dX5_waitForDigit_56 (by decide) ?_
      refine lv_iconst (v := 0) hx hb dX5_waitForDigit_58 (by decide) ?_
      refine w_cvv (As := [.int p1, .int 7, .int 0]) (rest := []) hx hb hml hown hts hK hW hS hl.1 (c_X5_layFinder hA HB (fun k hk => putAt hk)  hw) (k_X5_45 hts ⟨Nat.le_of_ble_eq_true rfl, Nat.le_of_ble_eq_true rfl⟩) (w_recv hK hW HB.1 (putAt (k := 0) (by decide)) rfl rfl) rfl rfl (Nat.le_of_ble_eq_true rfl) dX5_waitForDigit_59 ⟨Nat.zero_le _, Nat.zero_le _⟩ (fun Ez H locs hw2 hW hS => ?_)
      obtain ⟨X_21, ez, hw⟩ := hw2
      rw [ez, putPut] at hW
      refine lv_aload_n hx hb dX5_waitForDigit_62 rfl (lv_at hl 2 rfl) ?_
      refine lv_iload_n hx hb dX5_waitForDigit_63 rfl (lv_at hl 1 rfl) ?_
      refine lv_iconst (v := 0) hx hb dX5_waitForDigit_64 (by decide) ?_
      refine lv_iconst (v := 3) hx hb dX5_waitForDigit_65 (by decide) ?_
      refine w_cvv (As := [.int r_1, .int 0, .int 3]) (rest := []) hx hb hml hown hts hK hW hS hl.1 (c_X5_lay hA HB (fun k hk => putAt hk)  hw) (k_X5_61 hts ⟨Nat.le_of_ble_eq_true rfl, Nat.le_of_ble_eq_true rfl⟩) (w_recv hK hW HB.1 (putAt (k := 0) (by decide)) rfl rfl) rfl rfl (Nat.le_of_ble_eq_true rfl) dX5_waitForDigit_66 ⟨Nat.zero_le _, Nat.zero_le _⟩ (fun Ez H locs hw2 hW hS => ?_)
      obtain ⟨X_22, ez, hw⟩ := hw2
      rw [ez, putPut] at hW
      refine lv_goto (tgt := 92) hx hb dX5_waitForDigit_69 (by decide) ?_
      exact w_vret hx hb hr hlocks hW hS ⟨X_22, rfl, hw⟩ dX5_waitForDigit_92
set_option maxHeartbeats 4000000 in
set_option maxRecDepth 100000 in
theorem c_X5_rise {l : Launch} {g : GG} {lay : LY} {E0 : ES} {o : Nat} {X : ES} {p1 : Int32} {K : ES → Prop} (hA : okL g lay) (HB : ML g lay o) (hX : ∀ k, k < 7 → E0 (o + k) = X k) (hw : wp_X5_rise X p1 K) : JMv l g lay yX5_rise wsX5_rise rmX5_rise [.ref o, .int p1] E0 (fun E1 => ∃ X1 : ES, E1 = put 7 o X1 E0 ∧ K X1) := by
  refine Met.ofW (cc := cX5_rise) (maxL := 2) (ret := none) (by decide) rfl ?_
  intro p e s m args below meth c s₁ B hml hv
  obtain ⟨rfl, hK, hW⟩ := hv
  have hx := B.exec
  have hb := B.bytes
  have hr := B.returns
  have hts := gd_of (atoms_spec (ws := wsX5_rise) B.pre)
  have hown : s.vm.findClass RX5 = some m.cls := findClass_of_methodNamed B.named
  have hlocks := B.notSynchronized
  have hS : va_S (Ab g) s.heap s.heap [] := va_S.rf
  have hW : Wd g lay (put 7 o X E0) s.heap := by rw [putSelf hX]; exact hW
  have hl := lv_entry [.ref o, .int p1] (n := 2) (Nat.le_of_ble_eq_true rfl)
  rw [lg_entry_eq]
  generalize (lg_sl [.ref o, .int p1] ++ List.replicate (2 - (lg_sl [.ref o, .int p1]).length) Slot.unset).toArray = ls at hl ⊢
  have hl : lv_has ls 2 [(0, .ref o), (1, .int p1)] := hl
  unfold wp_X5_rise at hw
  refine lv_aload_n hx hb dX5_rise_0 rfl (lv_at hl 0 rfl) ?_
  refine lv_iload_n hx hb dX5_rise_1 rfl (lv_at hl 1 rfl) ?_
  refine lv_iconst (v := 5) hx hb dX5_rise_2 (by decide) ?_
  refine lv_aload_n hx hb dX5_rise_3 rfl (lv_at hl 0 rfl) ?_
  refine lv_iload_n hx hb dX5_rise_4 rfl (lv_at hl 1 rfl) ?_
  refine lv_iconst (v := 5) hx hb dX5_rise_5 (by decide) ?_
  refine w_cvi (As := [.int p1, .int 5]) (rest := [.int 5, .int p1, .ref o]) hx hb hml hown hts hK hW hS hl.1 (c_X5_ofFinder hA HB (fun k hk => putAt hk)  hw) (k_X5_41 hts ⟨Nat.le_of_ble_eq_true rfl, Nat.le_of_ble_eq_true rfl⟩) (w_recv hK hW HB.1 (putAt (k := 0) (by decide)) rfl rfl) rfl rfl (Nat.le_of_ble_eq_true rfl) dX5_rise_6 ⟨Nat.zero_le _, Nat.zero_le _⟩ (fun r_1 Ez H locs hw2 hW hS => ?_)
  obtain ⟨ez, hw⟩ := hw2
  rw [ez] at hW
  refine lv_iconst (v := 1) hx hb dX5_rise_9 (by decide) ?_
  refine lv_isub hx hb dX5_rise_10 ?_
  refine w_cvv (As := [.int p1, .int 5, .int (r_1 - 1)]) (rest := []) hx hb hml hown hts hK hW hS hl.1 (c_X5_layFinder hA HB (fun k hk => putAt hk)  hw) (k_X5_45 hts ⟨Nat.le_of_ble_eq_true rfl, Nat.le_of_ble_eq_true rfl⟩) (w_recv hK hW HB.1 (putAt (k := 0) (by decide)) rfl rfl) rfl rfl (Nat.le_of_ble_eq_true rfl) dX5_rise_11 ⟨Nat.zero_le _, Nat.zero_le _⟩ (fun Ez H locs hw2 hW hS => ?_)
  obtain ⟨X_2, ez, hw⟩ := hw2
  rw [ez, putPut] at hW
  refine lv_aload_n hx hb dX5_rise_14 rfl (lv_at hl 0 rfl) ?_
  refine lv_iload_n hx hb dX5_rise_15 rfl (lv_at hl 1 rfl) ?_
  refine lv_iconst (v := 3) hx hb dX5_rise_16 (by decide) ?_
  refine lv_aload_n hx hb dX5_rise_17 rfl (lv_at hl 0 rfl) ?_
  refine lv_iload_n hx hb dX5_rise_18 rfl (lv_at hl 1 rfl) ?_
  refine lv_iconst (v := 3) hx hb dX5_rise_19 (by decide) ?_
  refine w_cvi (As := [.int p1, .int 3]) (rest := [.int 3, .int p1, .ref o]) hx hb hml hown hts hK hW hS hl.1 (c_X5_ofFinder hA HB (fun k hk => putAt hk)  hw) (k_X5_41 hts ⟨Nat.le_of_ble_eq_true rfl, Nat.le_of_ble_eq_true rfl⟩) (w_recv hK hW HB.1 (putAt (k := 0) (by decide)) rfl rfl) rfl rfl (Nat.le_of_ble_eq_true rfl) dX5_rise_20 ⟨Nat.zero_le _, Nat.zero_le _⟩ (fun r_3 Ez H locs hw2 hW hS => ?_)
  obtain ⟨ez, hw⟩ := hw2
  rw [ez] at hW
  refine lv_iconst (v := 1) hx hb dX5_rise_23 (by decide) ?_
  refine lv_iadd hx hb dX5_rise_24 ?_
  refine w_cvv (As := [.int p1, .int 3, .int (r_3 + 1)]) (rest := []) hx hb hml hown hts hK hW hS hl.1 (c_X5_layFinder hA HB (fun k hk => putAt hk)  hw) (k_X5_45 hts ⟨Nat.le_of_ble_eq_true rfl, Nat.le_of_ble_eq_true rfl⟩) (w_recv hK hW HB.1 (putAt (k := 0) (by decide)) rfl rfl) rfl rfl (Nat.le_of_ble_eq_true rfl) dX5_rise_25 ⟨Nat.zero_le _, Nat.zero_le _⟩ (fun Ez H locs hw2 hW hS => ?_)
  obtain ⟨X_4, ez, hw⟩ := hw2
  rw [ez, putPut] at hW
  refine lv_aload_n hx hb dX5_rise_28 rfl (lv_at hl 0 rfl) ?_
  refine lv_iload_n hx hb dX5_rise_29 rfl (lv_at hl 1 rfl) ?_
  refine lv_iconst (v := 5) hx hb dX5_rise_30 (by decide) ?_
  refine w_cvi (As := [.int p1, .int 5]) (rest := []) hx hb hml hown hts hK hW hS hl.1 (c_X5_ofFinder hA HB (fun k hk => putAt hk)  hw) (k_X5_41 hts ⟨Nat.le_of_ble_eq_true rfl, Nat.le_of_ble_eq_true rfl⟩) (w_recv hK hW HB.1 (putAt (k := 0) (by decide)) rfl rfl) rfl rfl (Nat.le_of_ble_eq_true rfl) dX5_rise_31 ⟨Nat.zero_le _, Nat.zero_le _⟩ (fun r_5 Ez H locs hw2 hW hS => ?_)
  obtain ⟨ez, hw⟩ := hw2
  rw [ez] at hW
  refine lv_if_ne (tgt := 64) hx hb dX5_rise_34 (by decide) (fun c_6 => ?_) (fun c_6 => ?_)
  · have hw := hw.2 c_6
    refine lv_aload_n hx hb dX5_rise_64 rfl (lv_at hl 0 rfl) ?_
    refine lv_iload_n hx hb dX5_rise_65 rfl (lv_at hl 1 rfl) ?_
    refine lv_iconst (v := 5) hx hb dX5_rise_66 (by decide) ?_
    refine w_cvi (As := [.int p1, .int 5]) (rest := []) hx hb hml hown hts hK hW hS hl.1 (c_X5_ofFinder hA HB (fun k hk => putAt hk)  hw) (k_X5_41 hts ⟨Nat.le_of_ble_eq_true rfl, Nat.le_of_ble_eq_true rfl⟩) (w_recv hK hW HB.1 (putAt (k := 0) (by decide)) rfl rfl) rfl rfl (Nat.le_of_ble_eq_true rfl) dX5_rise_67 ⟨Nat.zero_le _, Nat.zero_le _⟩ (fun r_7 Ez H locs hw2 hW hS => ?_)
    obtain ⟨ez, hw⟩ := hw2
    rw [ez] at hW
    refine lv_if_ne (tgt := 81) hx hb dX5_rise_70 (by decide) (fun c_8 => ?_) (fun c_8 => ?_)
    · have hw := hw.2 c_8
      exact w_vret hx hb hr hlocks hW hS ⟨X_4, rfl, hw⟩ dX5_rise_81
    · have hw := hw.1 c_8
      refine lv_aload_n hx hb dX5_rise_73 rfl (lv_at hl 0 rfl) ?_
      refine lv_iload_n hx hb dX5_rise_74 rfl (lv_at hl 1 rfl) ?_
      refine lv_bipush (v := 9) hx hb dX5_rise_75 (by decide) ?_
      refine lv_iconst (v := 3) hx hb dX5_rise_77 (by decide) ?_
      refine w_cvv (As := [.int p1, .int 9, .int 3]) (rest := []) hx hb hml hown hts hK hW hS hl.1 (c_X5_sound hA HB (fun k hk => putAt hk)  hw) (k_X5_91 hts ⟨Nat.le_of_ble_eq_true rfl, Nat.le_of_ble_eq_true rfl⟩) (w_recv hK hW HB.1 (putAt (k := 0) (by decide)) rfl rfl) rfl rfl (Nat.le_of_ble_eq_true rfl) dX5_rise_78 ⟨Nat.zero_le _, Nat.zero_le _⟩ (fun Ez H locs hw2 hW hS => ?_)
      obtain ⟨X_9, ez, hw⟩ := hw2
      rw [ez, putPut] at hW
      exact w_vret hx hb hr hlocks hW hS ⟨X_9, rfl, hw⟩ dX5_rise_81
  · have hw := hw.1 c_6
    refine lv_aload_n hx hb dX5_rise_37 rfl (lv_at hl 0 rfl) ?_
    refine lv_iload_n hx hb dX5_rise_38 rfl (lv_at hl 1 rfl) ?_
    refine lv_iconst (v := 3) hx hb dX5_rise_39 (by decide) ?_
    refine w_cvi (As := [.int p1, .int 3]) (rest := []) hx hb hml hown hts hK hW hS hl.1 (c_X5_ofFinder hA HB (fun k hk => putAt hk)  hw) (k_X5_41 hts ⟨Nat.le_of_ble_eq_true rfl, Nat.le_of_ble_eq_true rfl⟩) (w_recv hK hW HB.1 (putAt (k := 0) (by decide)) rfl rfl) rfl rfl (Nat.le_of_ble_eq_true rfl) dX5_rise_40 ⟨Nat.zero_le _, Nat.zero_le _⟩ (fun r_10 Ez H locs hw2 hW hS => ?_)
    obtain ⟨ez, hw⟩ := hw2
    rw [ez] at hW
    refine lv_iconst (v := 4) hx hb dX5_rise_43 (by decide) ?_
    refine lv_icmp_gt (tgt := 64) hx hb dX5_rise_44 (by decide) (fun c_11 => ?_) (fun c_11 => ?_)
    · have hw := hw.1 c_11
      refine lv_aload_n hx hb dX5_rise_64 rfl (lv_at hl 0 rfl) ?_
      refine lv_iload_n hx hb dX5_rise_65 rfl (lv_at hl 1 rfl) ?_
      refine lv_iconst (v := 5) hx hb dX5_rise_66 (by decide) ?_
      refine w_cvi (As := [.int p1, .int 5]) (rest := []) hx hb hml hown hts hK hW hS hl.1 (c_X5_ofFinder hA HB (fun k hk => putAt hk)  hw) (k_X5_41 hts ⟨Nat.le_of_ble_eq_true rfl, Nat.le_of_ble_eq_true rfl⟩) (w_recv hK hW HB.1 (putAt (k := 0) (by decide)) rfl rfl) rfl rfl (Nat.le_of_ble_eq_true rfl) dX5_rise_67 ⟨Nat.zero_le _, Nat.zero_le _⟩ (fun r_12 Ez H locs hw2 hW hS => ?_)
      obtain ⟨ez, hw⟩ := hw2
      rw [ez] at hW
      refine lv_if_ne (tgt := 81) hx hb dX5_rise_70 (by decide) (fun c_13 => ?_) (fun c_13 => ?_)
      · have hw := hw.2 c_13
        exact w_vret hx hb hr hlocks hW hS ⟨X_4, rfl, hw⟩ dX5_rise_81
      · have hw := hw.1 c_13
        refine lv_aload_n hx hb dX5_rise_73 rfl (lv_at hl 0 rfl) ?_
        refine lv_iload_n hx hb dX5_rise_74 rfl (lv_at hl 1 rfl) ?_
        refine lv_bipush (v := 9) hx hb dX5_rise_75 (by decide) ?_
        refine lv_iconst (v := 3) hx hb dX5_rise_77 (by decide) ?_
        refine w_cvv (As := [.int p1, .int 9, .int 3]) (rest := []) hx hb hml hown hts hK hW hS hl.1 (c_X5_sound hA HB (fun k hk => putAt hk)  hw) (k_X5_91 hts ⟨Nat.le_of_ble_eq_true rfl, Nat.le_of_ble_eq_true rfl⟩) (w_recv hK hW HB.1 (putAt (k := 0) (by decide)) rfl rfl) rfl rfl (Nat.le_of_ble_eq_true rfl) dX5_rise_78 ⟨Nat.zero_le _, Nat.zero_le _⟩ (fun Ez H locs hw2 hW hS => ?_)
        obtain ⟨X_14, ez, hw⟩ := hw2
        rw [ez, putPut] at hW
        exact w_vret hx hb hr hlocks hW hS ⟨X_14, rfl, hw⟩ dX5_rise_81
    · have hw := hw.2 c_11
      refine lv_aload_n hx hb dX5_rise_47 rfl (lv_at hl 0 rfl) ?_
      refine lv_iload_n hx hb dX5_rise_48 rfl (lv_at hl 1 rfl) ?_
      refine lv_iconst (v := 0) hx hb dX5_rise_49 (by decide) ?_
      refine lv_iconst (v := 4) hx hb dX5_rise_50 (by decide) ?_
      refine w_cvv (As := [.int p1, .int 0, .int 4]) (rest := []) hx hb hml hown hts hK hW hS hl.1 (c_X5_layFinder hA HB (fun k hk => putAt hk)  hw) (k_X5_45 hts ⟨Nat.le_of_ble_eq_true rfl, Nat.le_of_ble_eq_true rfl⟩) (w_recv hK hW HB.1 (putAt (k := 0) (by decide)) rfl rfl) rfl rfl (Nat.le_of_ble_eq_true rfl) dX5_rise_51 ⟨Nat.zero_le _, Nat.zero_le _⟩ (fun Ez H locs hw2 hW hS => ?_)
      obtain ⟨X_15, ez, hw⟩ := hw2
      rw [ez, putPut] at hW
      refine lv_aload_n hx hb dX5_rise_54 rfl (lv_at hl 0 rfl) ?_
      refine lv_iload_n hx hb dX5_rise_55 rfl (lv_at hl 1 rfl) ?_
      refine lv_iconst (v := 4) hx hb dX5_rise_56 (by decide) ?_
      refine lv_iconst (v := 0) hx hb dX5_rise_57 (by decide) ?_
      refine w_cvv (As := [.int p1, .int 4, .int 0]) (rest := []) hx hb hml hown hts hK hW hS hl.1 (c_X5_layFinder hA HB (fun k hk => putAt hk)  hw) (k_X5_45 hts ⟨Nat.le_of_ble_eq_true rfl, Nat.le_of_ble_eq_true rfl⟩) (w_recv hK hW HB.1 (putAt (k := 0) (by decide)) rfl rfl) rfl rfl (Nat.le_of_ble_eq_true rfl) dX5_rise_58 ⟨Nat.zero_le _, Nat.zero_le _⟩ (fun Ez H locs hw2 hW hS => ?_)
      obtain ⟨X_16, ez, hw⟩ := hw2
      rw [ez, putPut] at hW
      refine lv_goto (tgt := 81) hx hb dX5_rise_61 (by decide) ?_
      exact w_vret hx hb hr hlocks hW hS ⟨X_16, rfl, hw⟩ dX5_rise_81
set_option maxHeartbeats 4000000 in
set_option maxRecDepth 100000 in
theorem c_X5_hunt {l : Launch} {g : GG} {lay : LY} {E0 : ES} {o : Nat} {X : ES} {p1 : Int32} {K : ES → Prop} (hA : okL g lay) (HB : ML g lay o) (hX : ∀ k, k < 7 → E0 (o + k) = X k) (hw : wp_X5_hunt X p1 K) : JMv l g lay yX5_hunt wsX5_hunt rmX5_hunt [.ref o, .int p1] E0 (fun E1 => ∃ X1 : ES, E1 = put 7 o X1 E0 ∧ K X1) := by
  refine Met.ofW (cc := cX5_hunt) (maxL := 3) (ret := none) (by decide) rfl ?_
  intro p e s m args below meth c s₁ B hml hv
  obtain ⟨rfl, hK, hW⟩ := hv
  have hx := B.exec
  have hb := B.bytes
  have hr := B.returns
  have hts := gd_of (atoms_spec (ws := wsX5_hunt) B.pre)
  have hown : s.vm.findClass RX5 = some m.cls := findClass_of_methodNamed B.named
  have hlocks := B.notSynchronized
  have hS : va_S (Ab g) s.heap s.heap [] := va_S.rf
  have hW : Wd g lay (put 7 o X E0) s.heap := by rw [putSelf hX]; exact hW
  have hl := lv_entry [.ref o, .int p1] (n := 3) (Nat.le_of_ble_eq_true rfl)
  rw [lg_entry_eq]
  generalize (lg_sl [.ref o, .int p1] ++ List.replicate (3 - (lg_sl [.ref o, .int p1]).length) Slot.unset).toArray = ls at hl ⊢
  have hl : lv_has ls 3 [(0, .ref o), (1, .int p1)] := hl
  unfold wp_X5_hunt at hw
  refine lv_aload_n hx hb dX5_hunt_0 rfl (lv_at hl 0 rfl) ?_
  refine lv_iload_n hx hb dX5_hunt_1 rfl (lv_at hl 1 rfl) ?_
  refine lv_iconst (v := 4) hx hb dX5_hunt_2 (by decide) ?_
  refine w_cvi (As := [.int p1, .int 4]) (rest := []) hx hb hml hown hts hK hW hS hl.1 (c_X5_ofFinder hA HB (fun k hk => putAt hk)  hw) (k_X5_41 hts ⟨Nat.le_of_ble_eq_true rfl, Nat.le_of_ble_eq_true rfl⟩) (w_recv hK hW HB.1 (putAt (k := 0) (by decide)) rfl rfl) rfl rfl (Nat.le_of_ble_eq_true rfl) dX5_hunt_3 ⟨Nat.zero_le _, Nat.zero_le _⟩ (fun r_1 Ez H locs hw2 hW hS => ?_)
  obtain ⟨ez, hw⟩ := hw2
  rw [ez] at hW
  refine lv_istore_n (lv' := [(2, .int r_1), (0, .ref o), (1, .int p1)]) hx hb dX5_hunt_6 rfl hl (by decide) rfl (fun ls hl => ?_)
  refine lv_aload_n hx hb dX5_hunt_7 rfl (lv_at hl 1 rfl) ?_
  refine lv_aload_n hx hb dX5_hunt_8 rfl (lv_at hl 1 rfl) ?_
  refine lv_iload_n hx hb dX5_hunt_9 rfl (lv_at hl 2 rfl) ?_
  refine lv_iconst (v := 3) hx hb dX5_hunt_10 (by decide) ?_
  refine w_cvi (As := [.int p1, .int 3]) (rest := [.ref o]) hx hb hml hown hts hK hW hS hl.1 (c_X5_ofFinder hA HB (fun k hk => putAt hk)  hw) (k_X5_41 hts ⟨Nat.le_of_ble_eq_true rfl, Nat.le_of_ble_eq_true rfl⟩) (w_recv hK hW HB.1 (putAt (k := 0) (by decide)) rfl rfl) rfl rfl (Nat.le_of_ble_eq_true rfl) dX5_hunt_11 ⟨Nat.zero_le _, Nat.zero_le _⟩ (fun r_2 Ez H locs hw2 hW hS => ?_)
  obtain ⟨ez, hw⟩ := hw2
  rw [ez] at hW
  refine lv_iload_n hx hb dX5_hunt_14 rfl (lv_at hl 0 rfl) ?_
  refine w_cvi (As := [.int r_2, .int r_1]) (rest := []) hx hb hml hown hts hK hW hS hl.1 (c_X5_holder hA HB (fun k hk => putAt hk)  hw) (k_X5_94 hts ⟨Nat.le_of_ble_eq_true rfl, Nat.le_of_ble_eq_true rfl⟩) (w_recv hK hW HB.1 (putAt (k := 0) (by decide)) rfl rfl) rfl rfl (Nat.le_of_ble_eq_true rfl) dX5_hunt_15 ⟨Nat.zero_le _, Nat.zero_le _⟩ (fun r_3 Ez H locs hw2 hW hS => ?_)
  obtain ⟨ez, hw⟩ := hw2
  rw [ez] at hW
  refine lv_if_ge (tgt := 39) hx hb dX5_hunt_18 (by decide) (fun c_4 => ?_) (fun c_4 => ?_)
  · have hw := hw.1 c_4
    refine lv_iload_n hx hb dX5_hunt_39 rfl (lv_at hl 0 rfl) ?_
    refine lv_iconst (v := 1) hx hb dX5_hunt_40 (by decide) ?_
    refine lv_iadd hx hb dX5_hunt_41 ?_
    refine lv_aload_n hx hb dX5_hunt_42 rfl (lv_at hl 1 rfl) ?_
    refine g_X5_7 hx hb hown hts hK hW HB.1 (putAt (k := 0) (by decide)) dX5_hunt_43 ?_
    refine lv_iconst (v := 2) hx hb dX5_hunt_46 (by decide) ?_
    obtain ⟨hin, hw⟩ := hw
    refine w_iald hx hb hK hW HB.2.1 (putAt (k := 1) (by decide)) hin dX5_hunt_47 ?_
    refine lv_icmp_ge (tgt := 63) hx hb dX5_hunt_48 (by decide) (fun c_5 => ?_) (fun c_5 => ?_)
    · have hw := hw.1 c_5
      refine lv_aload_n hx hb dX5_hunt_63 rfl (lv_at hl 1 rfl) ?_
      refine lv_iload_n hx hb dX5_hunt_64 rfl (lv_at hl 2 rfl) ?_
      refine lv_bipush (v := 8) hx hb dX5_hunt_65 (by decide) ?_
      refine lv_iconst (v := 2) hx hb dX5_hunt_67 (by decide) ?_
      refine w_cvv (As := [.int p1, .int 8, .int 2]) (rest := []) hx hb hml hown hts hK hW hS hl.1 (c_X5_sound hA HB (fun k hk => putAt hk)  hw) (k_X5_91 hts ⟨Nat.le_of_ble_eq_true rfl, Nat.le_of_ble_eq_true rfl⟩) (w_recv hK hW HB.1 (putAt (k := 0) (by decide)) rfl rfl) rfl rfl (Nat.le_of_ble_eq_true rfl) dX5_hunt_68 ⟨Nat.zero_le _, Nat.zero_le _⟩ (fun Ez H locs hw2 hW hS => ?_)
      obtain ⟨X_6, ez, hw⟩ := hw2
      rw [ez, putPut] at hW
      exact w_vret hx hb hr hlocks hW hS ⟨X_6, rfl, hw⟩ dX5_hunt_71
    · have hw := hw.2 c_5
      refine lv_aload_n hx hb dX5_hunt_51 rfl (lv_at hl 1 rfl) ?_
      refine lv_iload_n hx hb dX5_hunt_52 rfl (lv_at hl 2 rfl) ?_
      refine lv_iconst (v := 4) hx hb dX5_hunt_53 (by decide) ?_
      refine lv_iload_n hx hb dX5_hunt_54 rfl (lv_at hl 0 rfl) ?_
      refine lv_iconst (v := 1) hx hb dX5_hunt_55 (by decide) ?_
      refine lv_iadd hx hb dX5_hunt_56 ?_
      refine w_cvv (As := [.int p1, .int 4, .int (r_1 + 1)]) (rest := []) hx hb hml hown hts hK hW hS hl.1 (c_X5_layFinder hA HB (fun k hk => putAt hk)  hw) (k_X5_45 hts ⟨Nat.le_of_ble_eq_true rfl, Nat.le_of_ble_eq_true rfl⟩) (w_recv hK hW HB.1 (putAt (k := 0) (by decide)) rfl rfl) rfl rfl (Nat.le_of_ble_eq_true rfl) dX5_hunt_57 ⟨Nat.zero_le _, Nat.zero_le _⟩ (fun Ez H locs hw2 hW hS => ?_)
      obtain ⟨X_7, ez, hw⟩ := hw2
      rw [ez, putPut] at hW
      refine lv_goto (tgt := 71) hx hb dX5_hunt_60 (by decide) ?_
      exact w_vret hx hb hr hlocks hW hS ⟨X_7, rfl, hw⟩ dX5_hunt_71
  · have hw := hw.2 c_4
    refine lv_aload_n hx hb dX5_hunt_21 rfl (lv_at hl 1 rfl) ?_
    refine lv_iload_n hx hb dX5_hunt_22 rfl (lv_at hl 2 rfl) ?_
    refine lv_iconst (v := 0) hx hb dX5_hunt_23 (by decide) ?_
    refine lv_iconst (v := 5) hx hb dX5_hunt_24 (by decide) ?_
    refine w_cvv (As := [.int p1, .int 0, .int 5]) (rest := []) hx hb hml hown hts hK hW hS hl.1 (c_X5_layFinder hA HB (fun k hk => putAt hk)  hw) (k_X5_45 hts ⟨Nat.le_of_ble_eq_true rfl, Nat.le_of_ble_eq_true rfl⟩) (w_recv hK hW HB.1 (putAt (k := 0) (by decide)) rfl rfl) rfl rfl (Nat.le_of_ble_eq_true rfl) dX5_hunt_25 ⟨Nat.zero_le _, Nat.zero_le _⟩ (fun Ez H locs hw2 hW hS => ?_)
    obtain ⟨X_8, ez, hw⟩ := hw2
    rw [ez, putPut] at hW
    refine lv_aload_n hx hb dX5_hunt_28 rfl (lv_at hl 1 rfl) ?_
    refine lv_iload_n hx hb dX5_hunt_29 rfl (lv_at hl 2 rfl) ?_
    refine lv_bipush (v := 7) hx hb dX5_hunt_30 (by decide) ?_
    refine lv_iconst (v := 0) hx hb dX5_hunt_32 (by decide) ?_
    refine w_cvv (As := [.int p1, .int 7, .int 0]) (rest := []) hx hb hml hown hts hK hW hS hl.1 (c_X5_layFinder hA HB (fun k hk => putAt hk)  hw) (k_X5_45 hts ⟨Nat.le_of_ble_eq_true rfl, Nat.le_of_ble_eq_true rfl⟩) (w_recv hK hW HB.1 (putAt (k := 0) (by decide)) rfl rfl) rfl rfl (Nat.le_of_ble_eq_true rfl) dX5_hunt_33 ⟨Nat.zero_le _, Nat.zero_le _⟩ (fun Ez H locs hw2 hW hS => ?_)
    obtain ⟨X_9, ez, hw⟩ := hw2
    rw [ez, putPut] at hW
    refine lv_goto (tgt := 71) hx hb dX5_hunt_36 (by decide) ?_
    exact w_vret hx hb hr hlocks hW hS ⟨X_9, rfl, hw⟩ dX5_hunt_71
set_option maxHeartbeats 4000000 in
set_option maxRecDepth 100000 in
theorem c_X5_test {l : Launch} {g : GG} {lay : LY} {E0 : ES} {o : Nat} {X : ES} {p1 : Int32} {K : ES → Prop} (hA : okL g lay) (HB : ML g lay o) (hX : ∀ k, k < 7 → E0 (o + k) = X k) (hw : wp_X5_test X p1 K) : JMv l g lay yX5_test wsX5_test rmX5_test [.ref o, .int p1] E0 (fun E1 => ∃ X1 : ES, E1 = put 7 o X1 E0 ∧ K X1) := by
  refine Met.ofW (cc := cX5_test) (maxL := 3) (ret := none) (by decide) rfl ?_
  intro p e s m args below meth c s₁ B hml hv
  obtain ⟨rfl, hK, hW⟩ := hv
  have hx := B.exec
  have hb := B.bytes
  have hr := B.returns
  have hts := gd_of (atoms_spec (ws := wsX5_test) B.pre)
  have hown : s.vm.findClass RX5 = some m.cls := findClass_of_methodNamed B.named
  have hlocks := B.notSynchronized
  have hS : va_S (Ab g) s.heap s.heap [] := va_S.rf
  have hW : Wd g lay (put 7 o X E0) s.heap := by rw [putSelf hX]; exact hW
  have hl := lv_entry [.ref o, .int p1] (n := 3) (Nat.le_of_ble_eq_true rfl)
  rw [lg_entry_eq]
  generalize (lg_sl [.ref o, .int p1] ++ List.replicate (3 - (lg_sl [.ref o, .int p1]).length) Slot.unset).toArray = ls at hl ⊢
  have hl : lv_has ls 3 [(0, .ref o), (1, .int p1)] := hl
  unfold wp_X5_test at hw
  refine lv_iconst (v := 4) hx hb dX5_test_0 (by decide) ?_
  refine lv_aload_n hx hb dX5_test_1 rfl (lv_at hl 0 rfl) ?_
  refine lv_iload_n hx hb dX5_test_2 rfl (lv_at hl 1 rfl) ?_
  refine lv_iconst (v := 3) hx hb dX5_test_3 (by decide) ?_
  refine w_cvi (As := [.int p1, .int 3]) (rest := [.int 4]) hx hb hml hown hts hK hW hS hl.1 (c_X5_ofFinder hA HB (fun k hk => putAt hk)  hw) (k_X5_41 hts ⟨Nat.le_of_ble_eq_true rfl, Nat.le_of_ble_eq_true rfl⟩) (w_recv hK hW HB.1 (putAt (k := 0) (by decide)) rfl rfl) rfl rfl (Nat.le_of_ble_eq_true rfl) dX5_test_4 ⟨Nat.zero_le _, Nat.zero_le _⟩ (fun r_1 Ez H locs hw2 hW hS => ?_)
  obtain ⟨ez, hw⟩ := hw2
  rw [ez] at hW
  refine lv_iconst (v := 1) hx hb dX5_test_7 (by decide) ?_
  refine lv_isub hx hb dX5_test_8 ?_
  refine lv_imul hx hb dX5_test_9 ?_
  refine lv_aload_n hx hb dX5_test_10 rfl (lv_at hl 0 rfl) ?_
  refine lv_iload_n hx hb dX5_test_11 rfl (lv_at hl 1 rfl) ?_
  refine lv_bipush (v := 6) hx hb dX5_test_12 (by decide) ?_
  refine w_cvi (As := [.int p1, .int 6]) (rest := [.int (4 * (r_1 - 1))]) hx hb hml hown hts hK hW hS hl.1 (c_X5_ofFinder hA HB (fun k hk => putAt hk)  hw) (k_X5_41 hts ⟨Nat.le_of_ble_eq_true rfl, Nat.le_of_ble_eq_true rfl⟩) (w_recv hK hW HB.1 (putAt (k := 0) (by decide)) rfl rfl) rfl rfl (Nat.le_of_ble_eq_true rfl) dX5_test_14 ⟨Nat.zero_le _, Nat.zero_le _⟩ (fun r_2 Ez H locs hw2 hW hS => ?_)
  obtain ⟨ez, hw⟩ := hw2
  rw [ez] at hW
  refine lv_iadd hx hb dX5_test_17 ?_
  refine lv_iconst (v := 1) hx hb dX5_test_18 (by decide) ?_
  refine lv_isub hx hb dX5_test_19 ?_
  refine lv_topi (fun v_3 ev_3 => ?_)
  have hw := hw v_3 ev_3
  refine lv_istore_n (lv' := [(2, .int v_3), (0, .ref o), (1, .int p1)]) hx hb dX5_test_20 rfl hl (by decide) rfl (fun ls hl => ?_)
  refine lv_aload_n hx hb dX5_test_21 rfl (lv_at hl 1 rfl) ?_
  refine lv_iload_n hx hb dX5_test_22 rfl (lv_at hl 0 rfl) ?_
  refine lv_iconst (v := 0) hx hb dX5_test_23 (by decide) ?_
  refine w_cvi (As := [.int v_3, .int 0]) (rest := []) hx hb hml hown hts hK hW hS hl.1 (c_X5_of hA HB (fun k hk => putAt hk)  hw) (k_X5_67 hts ⟨Nat.le_of_ble_eq_true rfl, Nat.le_of_ble_eq_true rfl⟩) (w_recv hK hW HB.1 (putAt (k := 0) (by decide)) rfl rfl) rfl rfl (Nat.le_of_ble_eq_true rfl) dX5_test_24 ⟨Nat.zero_le _, Nat.zero_le _⟩ (fun r_4 Ez H locs hw2 hW hS => ?_)
  obtain ⟨ez, hw⟩ := hw2
  rw [ez] at hW
  refine lv_if_eq (tgt := 39) hx hb dX5_test_27 (by decide) (fun c_5 => ?_) (fun c_5 => ?_)
  · have hw := hw.1 c_5
    refine lv_aload_n hx hb dX5_test_39 rfl (lv_at hl 1 rfl) ?_
    refine lv_iload_n hx hb dX5_test_40 rfl (lv_at hl 2 rfl) ?_
    refine lv_iconst (v := 0) hx hb dX5_test_41 (by decide) ?_
    refine lv_bipush (v := 7) hx hb dX5_test_42 (by decide) ?_
    refine w_cvv (As := [.int p1, .int 0, .int 7]) (rest := []) hx hb hml hown hts hK hW hS hl.1 (c_X5_layFinder hA HB (fun k hk => putAt hk)  hw) (k_X5_45 hts ⟨Nat.le_of_ble_eq_true rfl, Nat.le_of_ble_eq_true rfl⟩) (w_recv hK hW HB.1 (putAt (k := 0) (by decide)) rfl rfl) rfl rfl (Nat.le_of_ble_eq_true rfl) dX5_test_44 ⟨Nat.zero_le _, Nat.zero_le _⟩ (fun Ez H locs hw2 hW hS => ?_)
    obtain ⟨X_6, ez, hw⟩ := hw2
    rw [ez, putPut] at hW
    refine lv_aload_n hx hb dX5_test_47 rfl (lv_at hl 1 rfl) ?_
    refine lv_iload_n hx hb dX5_test_48 rfl (lv_at hl 2 rfl) ?_
    refine lv_bipush (v := 7) hx hb dX5_test_49 (by decide) ?_
    refine lv_iconst (v := 0) hx hb dX5_test_51 (by decide) ?_
    refine w_cvv (As := [.int p1, .int 7, .int 0]) (rest := []) hx hb hml hown hts hK hW hS hl.1 (c_X5_layFinder hA HB (fun k hk => putAt hk)  hw) (k_X5_45 hts ⟨Nat.le_of_ble_eq_true rfl, Nat.le_of_ble_eq_true rfl⟩) (w_recv hK hW HB.1 (putAt (k := 0) (by decide)) rfl rfl) rfl rfl (Nat.le_of_ble_eq_true rfl) dX5_test_52 ⟨Nat.zero_le _, Nat.zero_le _⟩ (fun Ez H locs hw2 hW hS => ?_)
    obtain ⟨X_7, ez, hw⟩ := hw2
    rw [ez, putPut] at hW
    refine lv_aload_n hx hb dX5_test_55 rfl (lv_at hl 1 rfl) ?_
    refine lv_iload_n hx hb dX5_test_56 rfl (lv_at hl 2 rfl) ?_
    refine lv_bipush (v := 9) hx hb dX5_test_57 (by decide) ?_
    refine lv_iload_n hx hb dX5_test_59 rfl (lv_at hl 0 rfl) ?_
    refine w_cvv (As := [.int p1, .int 9, .int v_3]) (rest := []) hx hb hml hown hts hK hW hS hl.1 (c_X5_layFinder hA HB (fun k hk => putAt hk)  hw) (k_X5_45 hts ⟨Nat.le_of_ble_eq_true rfl, Nat.le_of_ble_eq_true rfl⟩) (w_recv hK hW HB.1 (putAt (k := 0) (by decide)) rfl rfl) rfl rfl (Nat.le_of_ble_eq_true rfl) dX5_test_60 ⟨Nat.zero_le _, Nat.zero_le _⟩ (fun Ez H locs hw2 hW hS => ?_)
    obtain ⟨X_8, ez, hw⟩ := hw2
    rw [ez, putPut] at hW
    refine lv_aload_n hx hb dX5_test_63 rfl (lv_at hl 1 rfl) ?_
    refine lv_aload_n hx hb dX5_test_64 rfl (lv_at hl 1 rfl) ?_
    refine lv_iload_n hx hb dX5_test_65 rfl (lv_at hl 2 rfl) ?_
    refine lv_iconst (v := 2) hx hb dX5_test_66 (by decide) ?_
    refine w_cvi (As := [.int p1, .int 2]) (rest := [.ref o]) hx hb hml hown hts hK hW hS hl.1 (c_X5_ofFinder hA HB (fun k hk => putAt hk)  hw) (k_X5_41 hts ⟨Nat.le_of_ble_eq_true rfl, Nat.le_of_ble_eq_true rfl⟩) (w_recv hK hW HB.1 (putAt (k := 0) (by decide)) rfl rfl) rfl rfl (Nat.le_of_ble_eq_true rfl) dX5_test_67 ⟨Nat.zero_le _, Nat.zero_le _⟩ (fun r_9 Ez H locs hw2 hW hS => ?_)
    obtain ⟨ez, hw⟩ := hw2
    rw [ez] at hW
    refine lv_iconst (v := 0) hx hb dX5_test_70 (by decide) ?_
    refine lv_iconst (v := 4) hx hb dX5_test_71 (by decide) ?_
    refine w_cvv (As := [.int r_9, .int 0, .int 4]) (rest := []) hx hb hml hown hts hK hW hS hl.1 (c_X5_lay hA HB (fun k hk => putAt hk)  hw) (k_X5_61 hts ⟨Nat.le_of_ble_eq_true rfl, Nat.le_of_ble_eq_true rfl⟩) (w_recv hK hW HB.1 (putAt (k := 0) (by decide)) rfl rfl) rfl rfl (Nat.le_of_ble_eq_true rfl) dX5_test_72 ⟨Nat.zero_le _, Nat.zero_le _⟩ (fun Ez H locs hw2 hW hS => ?_)
    obtain ⟨X_10, ez, hw⟩ := hw2
    rw [ez, putPut] at hW
    refine lv_aload_n hx hb dX5_test_75 rfl (lv_at hl 1 rfl) ?_
    refine lv_iload_n hx hb dX5_test_76 rfl (lv_at hl 0 rfl) ?_
    refine lv_iconst (v := 0) hx hb dX5_test_77 (by decide) ?_
    refine lv_iconst (v := 5) hx hb dX5_test_78 (by decide) ?_
    refine w_cvv (As := [.int v_3, .int 0, .int 5]) (rest := []) hx hb hml hown hts hK hW hS hl.1 (c_X5_lay hA HB (fun k hk => putAt hk)  hw) (k_X5_61 hts ⟨Nat.le_of_ble_eq_true rfl, Nat.le_of_ble_eq_true rfl⟩) (w_recv hK hW HB.1 (putAt (k := 0) (by decide)) rfl rfl) rfl rfl (Nat.le_of_ble_eq_true rfl) dX5_test_79 ⟨Nat.zero_le _, Nat.zero_le _⟩ (fun Ez H locs hw2 hW hS => ?_)
    obtain ⟨X_11, ez, hw⟩ := hw2
    rw [ez, putPut] at hW
    refine lv_aload_n hx hb dX5_test_82 rfl (lv_at hl 1 rfl) ?_
    refine lv_iconst (v := 2) hx hb dX5_test_83 (by decide) ?_
    refine w_cvv (As := [.int 2]) (rest := []) hx hb hml hown hts hK hW hS hl.1 (c_X5_countOne hA HB (fun k hk => putAt hk)  hw) (k_X5_70 hts ⟨Nat.le_of_ble_eq_true rfl, Nat.le_of_ble_eq_true rfl⟩) (w_recv hK hW HB.1 (putAt (k := 0) (by decide)) rfl rfl) rfl rfl (Nat.le_of_ble_eq_true rfl) dX5_test_84 ⟨Nat.zero_le _, Nat.zero_le _⟩ (fun Ez H locs hw2 hW hS => ?_)
    obtain ⟨X_12, ez, hw⟩ := hw2
    rw [ez, putPut] at hW
    exact w_vret hx hb hr hlocks hW hS ⟨X_12, rfl, hw⟩ dX5_test_87
  · have hw := hw.2 c_5
    refine lv_aload_n hx hb dX5_test_30 rfl (lv_at hl 1 rfl) ?_
    refine lv_iload_n hx hb dX5_test_31 rfl (lv_at hl 2 rfl) ?_
    refine lv_bipush (v := 8) hx hb dX5_test_32 (by decide) ?_
    refine lv_iconst (v := 1) hx hb dX5_test_34 (by decide) ?_
    refine w_cvv (As := [.int p1, .int 8, .int 1]) (rest := []) hx hb hml hown hts hK hW hS hl.1 (c_X5_sound hA HB (fun k hk => putAt hk)  hw) (k_X5_91 hts ⟨Nat.le_of_ble_eq_true rfl, Nat.le_of_ble_eq_true rfl⟩) (w_recv hK hW HB.1 (putAt (k := 0) (by decide)) rfl rfl) rfl rfl (Nat.le_of_ble_eq_true rfl) dX5_test_35 ⟨Nat.zero_le _, Nat.zero_le _⟩ (fun Ez H locs hw2 hW hS => ?_)
    obtain ⟨X_13, ez, hw⟩ := hw2
    rw [ez, putPut] at hW
    exact w_vret hx hb hr hlocks hW hS ⟨X_13, rfl, hw⟩ dX5_test_38
set_option maxHeartbeats 4000000 in
set_option maxRecDepth 100000 in
theorem c_X5_step {l : Launch} {g : GG} {lay : LY} {E0 : ES} {o : Nat} {X : ES} {p1 : Int32} {K : ES → Prop} (hA : okL g lay) (HB : ML g lay o) (hX : ∀ k, k < 7 → E0 (o + k) = X k) (hw : wp_X5_step X p1 K) : JMv l g lay yX5_step wsX5_step rmX5_step [.ref o, .int p1] E0 (fun E1 => ∃ X1 : ES, E1 = put 7 o X1 E0 ∧ K X1) := by
  refine Met.ofW (cc := cX5_step) (maxL := 2) (ret := none) (by decide) rfl ?_
  intro p e s m args below meth c s₁ B hml hv
  obtain ⟨rfl, hK, hW⟩ := hv
  have hx := B.exec
  have hb := B.bytes
  have hr := B.returns
  have hts := gd_of (atoms_spec (ws := wsX5_step) B.pre)
  have hown : s.vm.findClass RX5 = some m.cls := findClass_of_methodNamed B.named
  have hlocks := B.notSynchronized
  have hS : va_S (Ab g) s.heap s.heap [] := va_S.rf
  have hW : Wd g lay (put 7 o X E0) s.heap := by rw [putSelf hX]; exact hW
  have hl := lv_entry [.ref o, .int p1] (n := 2) (Nat.le_of_ble_eq_true rfl)
  rw [lg_entry_eq]
  generalize (lg_sl [.ref o, .int p1] ++ List.replicate (2 - (lg_sl [.ref o, .int p1]).length) Slot.unset).toArray = ls at hl ⊢
  have hl : lv_has ls 2 [(0, .ref o), (1, .int p1)] := hl
  unfold wp_X5_step at hw
  refine lv_aload_n hx hb dX5_step_0 rfl (lv_at hl 0 rfl) ?_
  refine lv_iload_n hx hb dX5_step_1 rfl (lv_at hl 1 rfl) ?_
  refine lv_iconst (v := 5) hx hb dX5_step_2 (by decide) ?_
  refine lv_aload_n hx hb dX5_step_3 rfl (lv_at hl 0 rfl) ?_
  refine lv_iload_n hx hb dX5_step_4 rfl (lv_at hl 1 rfl) ?_
  refine lv_iconst (v := 5) hx hb dX5_step_5 (by decide) ?_
  refine w_cvi (As := [.int p1, .int 5]) (rest := [.int 5, .int p1, .ref o]) hx hb hml hown hts hK hW hS hl.1 (c_X5_ofFinder hA HB (fun k hk => putAt hk)  hw) (k_X5_41 hts ⟨Nat.le_of_ble_eq_true rfl, Nat.le_of_ble_eq_true rfl⟩) (w_recv hK hW HB.1 (putAt (k := 0) (by decide)) rfl rfl) rfl rfl (Nat.le_of_ble_eq_true rfl) dX5_step_6 ⟨Nat.zero_le _, Nat.zero_le _⟩ (fun r_1 Ez H locs hw2 hW hS => ?_)
  obtain ⟨ez, hw⟩ := hw2
  rw [ez] at hW
  refine lv_iconst (v := 1) hx hb dX5_step_9 (by decide) ?_
  refine lv_isub hx hb dX5_step_10 ?_
  refine w_cvv (As := [.int p1, .int 5, .int (r_1 - 1)]) (rest := []) hx hb hml hown hts hK hW hS hl.1 (c_X5_layFinder hA HB (fun k hk => putAt hk)  hw) (k_X5_45 hts ⟨Nat.le_of_ble_eq_true rfl, Nat.le_of_ble_eq_true rfl⟩) (w_recv hK hW HB.1 (putAt (k := 0) (by decide)) rfl rfl) rfl rfl (Nat.le_of_ble_eq_true rfl) dX5_step_11 ⟨Nat.zero_le _, Nat.zero_le _⟩ (fun Ez H locs hw2 hW hS => ?_)
  obtain ⟨X_2, ez, hw⟩ := hw2
  rw [ez, putPut] at hW
  refine lv_aload_n hx hb dX5_step_14 rfl (lv_at hl 0 rfl) ?_
  refine lv_iload_n hx hb dX5_step_15 rfl (lv_at hl 1 rfl) ?_
  refine lv_iconst (v := 5) hx hb dX5_step_16 (by decide) ?_
  refine w_cvi (As := [.int p1, .int 5]) (rest := []) hx hb hml hown hts hK hW hS hl.1 (c_X5_ofFinder hA HB (fun k hk => putAt hk)  hw) (k_X5_41 hts ⟨Nat.le_of_ble_eq_true rfl, Nat.le_of_ble_eq_true rfl⟩) (w_recv hK hW HB.1 (putAt (k := 0) (by decide)) rfl rfl) rfl rfl (Nat.le_of_ble_eq_true rfl) dX5_step_17 ⟨Nat.zero_le _, Nat.zero_le _⟩ (fun r_3 Ez H locs hw2 hW hS => ?_)
  obtain ⟨ez, hw⟩ := hw2
  rw [ez] at hW
  refine lv_if_le (tgt := 24) hx hb dX5_step_20 (by decide) (fun c_4 => ?_) (fun c_4 => ?_)
  · have hw := hw.1 c_4
    refine lv_aload_n hx hb dX5_step_24 rfl (lv_at hl 0 rfl) ?_
    refine lv_iload_n hx hb dX5_step_25 rfl (lv_at hl 1 rfl) ?_
    refine lv_bipush (v := 6) hx hb dX5_step_26 (by decide) ?_
    refine w_cvi (As := [.int p1, .int 6]) (rest := []) hx hb hml hown hts hK hW hS hl.1 (c_X5_ofFinder hA HB (fun k hk => putAt hk)  hw) (k_X5_41 hts ⟨Nat.le_of_ble_eq_true rfl, Nat.le_of_ble_eq_true rfl⟩) (w_recv hK hW HB.1 (putAt (k := 0) (by decide)) rfl rfl) rfl rfl (Nat.le_of_ble_eq_true rfl) dX5_step_28 ⟨Nat.zero_le _, Nat.zero_le _⟩ (fun r_5 Ez H locs hw2 hW hS => ?_)
    obtain ⟨ez, hw⟩ := hw2
    rw [ez] at hW
    refine lv_iconst (v := 4) hx hb dX5_step_31 (by decide) ?_
    refine lv_icmp_le (tgt := 46) hx hb dX5_step_32 (by decide) (fun c_6 => ?_) (fun c_6 => ?_)
    · have hw := hw.1 c_6
      refine lv_aload_n hx hb dX5_step_46 rfl (lv_at hl 0 rfl) ?_
      refine lv_iload_n hx hb dX5_step_47 rfl (lv_at hl 1 rfl) ?_
      refine w_cvv (As := [.int p1]) (rest := []) hx hb hml hown hts hK hW hS hl.1 (c_X5_test hA HB (fun k hk => putAt hk)  hw) (k_X5_97 hts ⟨Nat.le_of_ble_eq_true rfl, Nat.le_of_ble_eq_true rfl⟩) (w_recv hK hW HB.1 (putAt (k := 0) (by decide)) rfl rfl) rfl rfl (Nat.le_of_ble_eq_true rfl) dX5_step_48 ⟨Nat.zero_le _, Nat.zero_le _⟩ (fun Ez H locs hw2 hW hS => ?_)
      obtain ⟨X_7, ez, hw⟩ := hw2
      rw [ez, putPut] at hW
      exact w_vret hx hb hr hlocks hW hS ⟨X_7, rfl, hw⟩ dX5_step_51
    · have hw := hw.2 c_6
      refine lv_aload_n hx hb dX5_step_35 rfl (lv_at hl 0 rfl) ?_
      refine lv_iload_n hx hb dX5_step_36 rfl (lv_at hl 1 rfl) ?_
      refine lv_bipush (v := 9) hx hb dX5_step_37 (by decide) ?_
      refine lv_iconst (v := 3) hx hb dX5_step_39 (by decide) ?_
      refine w_cvv (As := [.int p1, .int 9, .int 3]) (rest := []) hx hb hml hown hts hK hW hS hl.1 (c_X5_sound hA HB (fun k hk => putAt hk)  hw) (k_X5_91 hts ⟨Nat.le_of_ble_eq_true rfl, Nat.le_of_ble_eq_true rfl⟩) (w_recv hK hW HB.1 (putAt (k := 0) (by decide)) rfl rfl) rfl rfl (Nat.le_of_ble_eq_true rfl) dX5_step_40 ⟨Nat.zero_le _, Nat.zero_le _⟩ (fun Ez H locs hw2 hW hS => ?_)
      obtain ⟨X_8, ez, hw⟩ := hw2
      rw [ez, putPut] at hW
      refine lv_goto (tgt := 51) hx hb dX5_step_43 (by decide) ?_
      exact w_vret hx hb hr hlocks hW hS ⟨X_8, rfl, hw⟩ dX5_step_51
  · have hw := hw.2 c_4
    exact w_vret hx hb hr hlocks hW hS ⟨X_2, rfl, hw⟩ dX5_step_23
set_option maxHeartbeats 4000000 in
set_option maxRecDepth 100000 in
theorem c_X5_meter {l : Launch} {g : GG} {lay : LY} {E0 : ES} {o : Nat} {X : ES} {p1 : Int32} {K : ES → Prop} (hA : okL g lay) (HB : ML g lay o) (hX : ∀ k, k < 7 → E0 (o + k) = X k) (hw : wp_X5_meter X p1 K) : JMv l g lay yX5_meter wsX5_meter rmX5_meter [.ref o, .int p1] E0 (fun E1 => ∃ X1 : ES, E1 = put 7 o X1 E0 ∧ K X1) := by
  refine Met.ofW (cc := cX5_meter) (maxL := 2) (ret := none) (by decide) rfl ?_
  intro p e s m args below meth c s₁ B hml hv
  obtain ⟨rfl, hK, hW⟩ := hv
  have hx := B.exec
  have hb := B.bytes
  have hr := B.returns
  have hts := gd_of (atoms_spec (ws := wsX5_meter) B.pre)
  have hown : s.vm.findClass RX5 = some m.cls := findClass_of_methodNamed B.named
  have hlocks := B.notSynchronized
  have hS : va_S (Ab g) s.heap s.heap [] := va_S.rf
  have hW : Wd g lay (put 7 o X E0) s.heap := by rw [putSelf hX]; exact hW
  have hl := lv_entry [.ref o, .int p1] (n := 2) (Nat.le_of_ble_eq_true rfl)
  rw [lg_entry_eq]
  generalize (lg_sl [.ref o, .int p1] ++ List.replicate (2 - (lg_sl [.ref o, .int p1]).length) Slot.unset).toArray = ls at hl ⊢
  have hl : lv_has ls 2 [(0, .ref o), (1, .int p1)] := hl
  unfold wp_X5_meter at hw
  refine lv_aload_n hx hb dX5_meter_0 rfl (lv_at hl 0 rfl) ?_
  refine lv_iload_n hx hb dX5_meter_1 rfl (lv_at hl 1 rfl) ?_
  refine lv_iconst (v := 2) hx hb dX5_meter_2 (by decide) ?_
  refine lv_aload_n hx hb dX5_meter_3 rfl (lv_at hl 0 rfl) ?_
  refine lv_iload_n hx hb dX5_meter_4 rfl (lv_at hl 1 rfl) ?_
  refine lv_iconst (v := 2) hx hb dX5_meter_5 (by decide) ?_
  refine w_cvi (As := [.int p1, .int 2]) (rest := [.int 2, .int p1, .ref o]) hx hb hml hown hts hK hW hS hl.1 (c_X5_of hA HB (fun k hk => putAt hk)  hw) (k_X5_67 hts ⟨Nat.le_of_ble_eq_true rfl, Nat.le_of_ble_eq_true rfl⟩) (w_recv hK hW HB.1 (putAt (k := 0) (by decide)) rfl rfl) rfl rfl (Nat.le_of_ble_eq_true rfl) dX5_meter_6 ⟨Nat.zero_le _, Nat.zero_le _⟩ (fun r_1 Ez H locs hw2 hW hS => ?_)
  obtain ⟨ez, hw⟩ := hw2
  rw [ez] at hW
  refine lv_iconst (v := 1) hx hb dX5_meter_9 (by decide) ?_
  refine lv_iadd hx hb dX5_meter_10 ?_
  refine w_cvv (As := [.int p1, .int 2, .int (r_1 + 1)]) (rest := []) hx hb hml hown hts hK hW hS hl.1 (c_X5_lay hA HB (fun k hk => putAt hk)  hw) (k_X5_61 hts ⟨Nat.le_of_ble_eq_true rfl, Nat.le_of_ble_eq_true rfl⟩) (w_recv hK hW HB.1 (putAt (k := 0) (by decide)) rfl rfl) rfl rfl (Nat.le_of_ble_eq_true rfl) dX5_meter_11 ⟨Nat.zero_le _, Nat.zero_le _⟩ (fun Ez H locs hw2 hW hS => ?_)
  obtain ⟨X_2, ez, hw⟩ := hw2
  rw [ez, putPut] at hW
  exact w_vret hx hb hr hlocks hW hS ⟨X_2, rfl, hw⟩ dX5_meter_14
set_option maxHeartbeats 4000000 in
set_option maxRecDepth 100000 in
theorem c_X5_ring {l : Launch} {g : GG} {lay : LY} {E0 : ES} {o : Nat} {X : ES} {p1 : Int32} {K : ES → Prop} (hA : okL g lay) (HB : ML g lay o) (hX : ∀ k, k < 7 → E0 (o + k) = X k) (hw : wp_X5_ring X p1 K) : JMv l g lay yX5_ring wsX5_ring rmX5_ring [.ref o, .int p1] E0 (fun E1 => ∃ X1 : ES, E1 = put 7 o X1 E0 ∧ K X1) := by
  refine Met.ofW (cc := cX5_ring) (maxL := 4) (ret := none) (by decide) rfl ?_
  intro p e s m args below meth c s₁ B hml hv
  obtain ⟨rfl, hK, hW⟩ := hv
  have hx := B.exec
  have hb := B.bytes
  have hr := B.returns
  have hts := gd_of (atoms_spec (ws := wsX5_ring) B.pre)
  have hown : s.vm.findClass RX5 = some m.cls := findClass_of_methodNamed B.named
  have hlocks := B.notSynchronized
  have hS : va_S (Ab g) s.heap s.heap [] := va_S.rf
  have hW : Wd g lay (put 7 o X E0) s.heap := by rw [putSelf hX]; exact hW
  have hl := lv_entry [.ref o, .int p1] (n := 4) (Nat.le_of_ble_eq_true rfl)
  rw [lg_entry_eq]
  generalize (lg_sl [.ref o, .int p1] ++ List.replicate (4 - (lg_sl [.ref o, .int p1]).length) Slot.unset).toArray = ls at hl ⊢
  have hl : lv_has ls 4 [(0, .ref o), (1, .int p1)] := hl
  unfold wp_X5_ring at hw
  refine lv_aload_n hx hb dX5_ring_0 rfl (lv_at hl 0 rfl) ?_
  refine lv_iload_n hx hb dX5_ring_1 rfl (lv_at hl 1 rfl) ?_
  refine lv_iconst (v := 2) hx hb dX5_ring_2 (by decide) ?_
  refine w_cvi (As := [.int p1, .int 2]) (rest := []) hx hb hml hown hts hK hW hS hl.1 (c_X5_ofFinder hA HB (fun k hk => putAt hk)  hw) (k_X5_41 hts ⟨Nat.le_of_ble_eq_true rfl, Nat.le_of_ble_eq_true rfl⟩) (w_recv hK hW HB.1 (putAt (k := 0) (by decide)) rfl rfl) rfl rfl (Nat.le_of_ble_eq_true rfl) dX5_ring_3 ⟨Nat.zero_le _, Nat.zero_le _⟩ (fun r_1 Ez H locs hw2 hW hS => ?_)
  obtain ⟨ez, hw⟩ := hw2
  rw [ez] at hW
  refine lv_istore_n (lv' := [(2, .int r_1), (0, .ref o), (1, .int p1)]) hx hb dX5_ring_6 rfl hl (by decide) rfl (fun ls hl => ?_)
  refine lv_aload_n hx hb dX5_ring_7 rfl (lv_at hl 1 rfl) ?_
  refine lv_iload_n hx hb dX5_ring_8 rfl (lv_at hl 2 rfl) ?_
  refine lv_bipush (v := 9) hx hb dX5_ring_9 (by decide) ?_
  refine w_cvi (As := [.int p1, .int 9]) (rest := []) hx hb hml hown hts hK hW hS hl.1 (c_X5_ofFinder hA HB (fun k hk => putAt hk)  hw) (k_X5_41 hts ⟨Nat.le_of_ble_eq_true rfl, Nat.le_of_ble_eq_true rfl⟩) (w_recv hK hW HB.1 (putAt (k := 0) (by decide)) rfl rfl) rfl rfl (Nat.le_of_ble_eq_true rfl) dX5_ring_11 ⟨Nat.zero_le _, Nat.zero_le _⟩ (fun r_2 Ez H locs hw2 hW hS => ?_)
  obtain ⟨ez, hw⟩ := hw2
  rw [ez] at hW
  refine lv_istore_n (lv' := [(3, .int r_2), (2, .int r_1), (0, .ref o), (1, .int p1)]) hx hb dX5_ring_14 rfl hl (by decide) rfl (fun ls hl => ?_)
  refine lv_aload_n hx hb dX5_ring_15 rfl (lv_at hl 2 rfl) ?_
  refine lv_iload_n hx hb dX5_ring_16 rfl (lv_at hl 0 rfl) ?_
  refine lv_iconst (v := 1) hx hb dX5_ring_17 (by decide) ?_
  refine w_cvi (As := [.int r_2, .int 1]) (rest := []) hx hb hml hown hts hK hW hS hl.1 (c_X5_of hA HB (fun k hk => putAt hk)  hw) (k_X5_67 hts ⟨Nat.le_of_ble_eq_true rfl, Nat.le_of_ble_eq_true rfl⟩) (w_recv hK hW HB.1 (putAt (k := 0) (by decide)) rfl rfl) rfl rfl (Nat.le_of_ble_eq_true rfl) dX5_ring_18 ⟨Nat.zero_le _, Nat.zero_le _⟩ (fun r_3 Ez H locs hw2 hW hS => ?_)
  obtain ⟨ez, hw⟩ := hw2
  rw [ez] at hW
  refine lv_iconst (v := 1) hx hb dX5_ring_21 (by decide) ?_
  refine lv_icmp_ne (tgt := 78) hx hb dX5_ring_22 (by decide) (fun c_4 => ?_) (fun c_4 => ?_)
  · have hw := hw.2 c_4
    refine lv_aload_n hx hb dX5_ring_78 rfl (lv_at hl 2 rfl) ?_
    refine lv_iload_n hx hb dX5_ring_79 rfl (lv_at hl 3 rfl) ?_
    refine lv_bipush (v := 7) hx hb dX5_ring_80 (by decide) ?_
    refine lv_aload_n hx hb dX5_ring_82 rfl (lv_at hl 2 rfl) ?_
    refine lv_iconst (v := 1) hx hb dX5_ring_83 (by decide) ?_
    refine w_cvi (As := [.int 1]) (rest := [.int 7, .int p1, .ref o]) hx hb hml hown hts hK hW hS hl.1 (c_X5_setting hA HB (fun k hk => putAt hk)  hw) (k_X5_53 hts ⟨Nat.le_of_ble_eq_true rfl, Nat.le_of_ble_eq_true rfl⟩) (w_recv hK hW HB.1 (putAt (k := 0) (by decide)) rfl rfl) rfl rfl (Nat.le_of_ble_eq_true rfl) dX5_ring_84 ⟨Nat.zero_le _, Nat.zero_le _⟩ (fun r_5 Ez H locs hw2 hW hS => ?_)
    obtain ⟨ez, hw⟩ := hw2
    rw [ez] at hW
    refine w_cvi (As := [.int p1, .int 7, .int r_5]) (rest := []) hx hb hml hown hts hK hW hS hl.1 (c_X5_reaches hA HB (fun k hk => putAt hk)  hw) (k_X5_85 hts ⟨Nat.le_of_ble_eq_true rfl, Nat.le_of_ble_eq_true rfl⟩) (w_recv hK hW HB.1 (putAt (k := 0) (by decide)) rfl rfl) rfl rfl (Nat.le_of_ble_eq_true rfl) dX5_ring_87 ⟨Nat.zero_le _, Nat.zero_le _⟩ (fun r_6 Ez H locs hw2 hW hS => ?_)
    obtain ⟨X_8, ez, z_7, hw⟩ := hw2
    rw [ez, putPut] at hW
    refine lv_if_eq (tgt := 108) hx hb dX5_ring_90 (by decide) (fun c_9 => ?_) (fun c_9 => ?_)
    · have hw := hw.1 c_9
      exact w_vret hx hb hr hlocks hW hS ⟨X_8, rfl, hw⟩ dX5_ring_108
    · have hw := hw.2 c_9
      refine lv_aload_n hx hb dX5_ring_93 rfl (lv_at hl 2 rfl) ?_
      refine lv_iload_n hx hb dX5_ring_94 rfl (lv_at hl 3 rfl) ?_
      refine lv_bipush (v := 8) hx hb dX5_ring_95 (by decide) ?_
      refine lv_iconst (v := 4) hx hb dX5_ring_97 (by decide) ?_
      refine w_cvv (As := [.int p1, .int 8, .int 4]) (rest := []) hx hb hml hown hts hK hW hS hl.1 (c_X5_sound hA HB (fun k hk => putAt hk)  hw) (k_X5_91 hts ⟨Nat.le_of_ble_eq_true rfl, Nat.le_of_ble_eq_true rfl⟩) (w_recv hK hW HB.1 (putAt (k := 0) (by decide)) rfl rfl) rfl rfl (Nat.le_of_ble_eq_true rfl) dX5_ring_98 ⟨Nat.zero_le _, Nat.zero_le _⟩ (fun Ez H locs hw2 hW hS => ?_)
      obtain ⟨X_10, ez, hw⟩ := hw2
      rw [ez, putPut] at hW
      refine lv_aload_n hx hb dX5_ring_101 rfl (lv_at hl 2 rfl) ?_
      refine lv_iload_n hx hb dX5_ring_102 rfl (lv_at hl 0 rfl) ?_
      refine lv_iconst (v := 0) hx hb dX5_ring_103 (by decide) ?_
      refine lv_iconst (v := 0) hx hb dX5_ring_104 (by decide) ?_
      refine w_cvv (As := [.int r_2, .int 0, .int 0]) (rest := []) hx hb hml hown hts hK hW hS hl.1 (c_X5_lay hA HB (fun k hk => putAt hk)  hw) (k_X5_61 hts ⟨Nat.le_of_ble_eq_true rfl, Nat.le_of_ble_eq_true rfl⟩) (w_recv hK hW HB.1 (putAt (k := 0) (by decide)) rfl rfl) rfl rfl (Nat.le_of_ble_eq_true rfl) dX5_ring_105 ⟨Nat.zero_le _, Nat.zero_le _⟩ (fun Ez H locs hw2 hW hS => ?_)
      obtain ⟨X_11, ez, hw⟩ := hw2
      rw [ez, putPut] at hW
      exact w_vret hx hb hr hlocks hW hS ⟨X_11, rfl, hw⟩ dX5_ring_108
  · have hw := hw.1 c_4
    refine lv_aload_n hx hb dX5_ring_25 rfl (lv_at hl 2 rfl) ?_
    refine lv_iload_n hx hb dX5_ring_26 rfl (lv_at hl 3 rfl) ?_
    refine lv_iconst (v := 0) hx hb dX5_ring_27 (by decide) ?_
    refine lv_bipush (v := 8) hx hb dX5_ring_28 (by decide) ?_
    refine w_cvv (As := [.int p1, .int 0, .int 8]) (rest := []) hx hb hml hown hts hK hW hS hl.1 (c_X5_layFinder hA HB (fun k hk => putAt hk)  hw) (k_X5_45 hts ⟨Nat.le_of_ble_eq_true rfl, Nat.le_of_ble_eq_true rfl⟩) (w_recv hK hW HB.1 (putAt (k := 0) (by decide)) rfl rfl) rfl rfl (Nat.le_of_ble_eq_true rfl) dX5_ring_30 ⟨Nat.zero_le _, Nat.zero_le _⟩ (fun Ez H locs hw2 hW hS => ?_)
    obtain ⟨X_12, ez, hw⟩ := hw2
    rw [ez, putPut] at hW
    refine lv_aload_n hx hb dX5_ring_33 rfl (lv_at hl 2 rfl) ?_
    refine lv_iload_n hx hb dX5_ring_34 rfl (lv_at hl 3 rfl) ?_
    refine lv_bipush (v := 7) hx hb dX5_ring_35 (by decide) ?_
    refine lv_iconst (v := 0) hx hb dX5_ring_37 (by decide) ?_
    refine w_cvv (As := [.int p1, .int 7, .int 0]) (rest := []) hx hb hml hown hts hK hW hS hl.1 (c_X5_layFinder hA HB (fun k hk => putAt hk)  hw) (k_X5_45 hts ⟨Nat.le_of_ble_eq_true rfl, Nat.le_of_ble_eq_true rfl⟩) (w_recv hK hW HB.1 (putAt (k := 0) (by decide)) rfl rfl) rfl rfl (Nat.le_of_ble_eq_true rfl) dX5_ring_38 ⟨Nat.zero_le _, Nat.zero_le _⟩ (fun Ez H locs hw2 hW hS => ?_)
    obtain ⟨X_13, ez, hw⟩ := hw2
    rw [ez, putPut] at hW
    refine lv_aload_n hx hb dX5_ring_41 rfl (lv_at hl 2 rfl) ?_
    refine lv_iload_n hx hb dX5_ring_42 rfl (lv_at hl 3 rfl) ?_
    refine lv_bipush (v := 8) hx hb dX5_ring_43 (by decide) ?_
    refine lv_iconst (v := 0) hx hb dX5_ring_45 (by decide) ?_
    refine w_cvv (As := [.int p1, .int 8, .int 0]) (rest := []) hx hb hml hown hts hK hW hS hl.1 (c_X5_layFinder hA HB (fun k hk => putAt hk)  hw) (k_X5_45 hts ⟨Nat.le_of_ble_eq_true rfl, Nat.le_of_ble_eq_true rfl⟩) (w_recv hK hW HB.1 (putAt (k := 0) (by decide)) rfl rfl) rfl rfl (Nat.le_of_ble_eq_true rfl) dX5_ring_46 ⟨Nat.zero_le _, Nat.zero_le _⟩ (fun Ez H locs hw2 hW hS => ?_)
    obtain ⟨X_14, ez, hw⟩ := hw2
    rw [ez, putPut] at hW
    refine lv_aload_n hx hb dX5_ring_49 rfl (lv_at hl 2 rfl) ?_
    refine lv_iload_n hx hb dX5_ring_50 rfl (lv_at hl 1 rfl) ?_
    refine lv_iconst (v := 0) hx hb dX5_ring_51 (by decide) ?_
    refine lv_bipush (v := 6) hx hb dX5_ring_52 (by decide) ?_
    refine w_cvv (As := [.int r_1, .int 0, .int 6]) (rest := []) hx hb hml hown hts hK hW hS hl.1 (c_X5_lay hA HB (fun k hk => putAt hk)  hw) (k_X5_61 hts ⟨Nat.le_of_ble_eq_true rfl, Nat.le_of_ble_eq_true rfl⟩) (w_recv hK hW HB.1 (putAt (k := 0) (by decide)) rfl rfl) rfl rfl (Nat.le_of_ble_eq_true rfl) dX5_ring_54 ⟨Nat.zero_le _, Nat.zero_le _⟩ (fun Ez H locs hw2 hW hS => ?_)
    obtain ⟨X_15, ez, hw⟩ := hw2
    rw [ez, putPut] at hW
    refine lv_aload_n hx hb dX5_ring_57 rfl (lv_at hl 2 rfl) ?_
    refine lv_iload_n hx hb dX5_ring_58 rfl (lv_at hl 0 rfl) ?_
    refine lv_iconst (v := 0) hx hb dX5_ring_59 (by decide) ?_
    refine lv_bipush (v := 7) hx hb dX5_ring_60 (by decide) ?_
    refine w_cvv (As := [.int r_2, .int 0, .int 7]) (rest := []) hx hb hml hown hts hK hW hS hl.1 (c_X5_lay hA HB (fun k hk => putAt hk)  hw) (k_X5_61 hts ⟨Nat.le_of_ble_eq_true rfl, Nat.le_of_ble_eq_true rfl⟩) (w_recv hK hW HB.1 (putAt (k := 0) (by decide)) rfl rfl) rfl rfl (Nat.le_of_ble_eq_true rfl) dX5_ring_62 ⟨Nat.zero_le _, Nat.zero_le _⟩ (fun Ez H locs hw2 hW hS => ?_)
    obtain ⟨X_16, ez, hw⟩ := hw2
    rw [ez, putPut] at hW
    refine lv_aload_n hx hb dX5_ring_65 rfl (lv_at hl 2 rfl) ?_
    refine lv_iload_n hx hb dX5_ring_66 rfl (lv_at hl 1 rfl) ?_
    refine w_cvv (As := [.int r_1]) (rest := []) hx hb hml hown hts hK hW hS hl.1 (c_X5_meter hA HB (fun k hk => putAt hk)  hw) (k_X5_100 hts ⟨Nat.le_of_ble_eq_true rfl, Nat.le_of_ble_eq_true rfl⟩) (w_recv hK hW HB.1 (putAt (k := 0) (by decide)) rfl rfl) rfl rfl (Nat.le_of_ble_eq_true rfl) dX5_ring_67 ⟨Nat.zero_le _, Nat.zero_le _⟩ (fun Ez H locs hw2 hW hS => ?_)
    obtain ⟨X_17, ez, hw⟩ := hw2
    rw [ez, putPut] at hW
    refine lv_aload_n hx hb dX5_ring_70 rfl (lv_at hl 2 rfl) ?_
    refine lv_iconst (v := 3) hx hb dX5_ring_71 (by decide) ?_
    refine w_cvv (As := [.int 3]) (rest := []) hx hb hml hown hts hK hW hS hl.1 (c_X5_countOne hA HB (fun k hk => putAt hk)  hw) (k_X5_70 hts ⟨Nat.le_of_ble_eq_true rfl, Nat.le_of_ble_eq_true rfl⟩) (w_recv hK hW HB.1 (putAt (k := 0) (by decide)) rfl rfl) rfl rfl (Nat.le_of_ble_eq_true rfl) dX5_ring_72 ⟨Nat.zero_le _, Nat.zero_le _⟩ (fun Ez H locs hw2 hW hS => ?_)
    obtain ⟨X_18, ez, hw⟩ := hw2
    rw [ez, putPut] at hW
    refine lv_goto (tgt := 108) hx hb dX5_ring_75 (by decide) ?_
    exact w_vret hx hb hr hlocks hW hS ⟨X_18, rfl, hw⟩ dX5_ring_108
set_option maxHeartbeats 4000000 in
set_option maxRecDepth 100000 in
theorem c_X5_talk {l : Launch} {g : GG} {lay : LY} {E0 : ES} {o : Nat} {X : ES} {p1 : Int32} {K : ES → Prop} (hA : okL g lay) (HB : ML g lay o) (hX : ∀ k, k < 7 → E0 (o + k) = X k) (hw : wp_X5_talk X p1 K) : JMv l g lay yX5_talk wsX5_talk rmX5_talk [.ref o, .int p1] E0 (fun E1 => ∃ X1 : ES, E1 = put 7 o X1 E0 ∧ K X1) := by
  refine Met.ofW (cc := cX5_talk) (maxL := 4) (ret := none) (by decide) rfl ?_
  intro p e s m args below meth c s₁ B hml hv
  obtain ⟨rfl, hK, hW⟩ := hv
  have hx := B.exec
  have hb := B.bytes
  have hr := B.returns
  have hts := gd_of (atoms_spec (ws := wsX5_talk) B.pre)
  have hown : s.vm.findClass RX5 = some m.cls := findClass_of_methodNamed B.named
  have hlocks := B.notSynchronized
  have hS : va_S (Ab g) s.heap s.heap [] := va_S.rf
  have hW : Wd g lay (put 7 o X E0) s.heap := by rw [putSelf hX]; exact hW
  have hl := lv_entry [.ref o, .int p1] (n := 4) (Nat.le_of_ble_eq_true rfl)
  rw [lg_entry_eq]
  generalize (lg_sl [.ref o, .int p1] ++ List.replicate (4 - (lg_sl [.ref o, .int p1]).length) Slot.unset).toArray = ls at hl ⊢
  have hl : lv_has ls 4 [(0, .ref o), (1, .int p1)] := hl
  unfold wp_X5_talk at hw
  refine lv_aload_n hx hb dX5_talk_0 rfl (lv_at hl 0 rfl) ?_
  refine lv_iload_n hx hb dX5_talk_1 rfl (lv_at hl 1 rfl) ?_
  refine lv_iconst (v := 2) hx hb dX5_talk_2 (by decide) ?_
  refine w_cvi (As := [.int p1, .int 2]) (rest := []) hx hb hml hown hts hK hW hS hl.1 (c_X5_ofFinder hA HB (fun k hk => putAt hk)  hw) (k_X5_41 hts ⟨Nat.le_of_ble_eq_true rfl, Nat.le_of_ble_eq_true rfl⟩) (w_recv hK hW HB.1 (putAt (k := 0) (by decide)) rfl rfl) rfl rfl (Nat.le_of_ble_eq_true rfl) dX5_talk_3 ⟨Nat.zero_le _, Nat.zero_le _⟩ (fun r_1 Ez H locs hw2 hW hS => ?_)
  obtain ⟨ez, hw⟩ := hw2
  rw [ez] at hW
  refine lv_istore_n (lv' := [(2, .int r_1), (0, .ref o), (1, .int p1)]) hx hb dX5_talk_6 rfl hl (by decide) rfl (fun ls hl => ?_)
  refine lv_aload_n hx hb dX5_talk_7 rfl (lv_at hl 1 rfl) ?_
  refine lv_iload_n hx hb dX5_talk_8 rfl (lv_at hl 2 rfl) ?_
  refine lv_bipush (v := 9) hx hb dX5_talk_9 (by decide) ?_
  refine w_cvi (As := [.int p1, .int 9]) (rest := []) hx hb hml hown hts hK hW hS hl.1 (c_X5_ofFinder hA HB (fun k hk => putAt hk)  hw) (k_X5_41 hts ⟨Nat.le_of_ble_eq_true rfl, Nat.le_of_ble_eq_true rfl⟩) (w_recv hK hW HB.1 (putAt (k := 0) (by decide)) rfl rfl) rfl rfl (Nat.le_of_ble_eq_true rfl) dX5_talk_11 ⟨Nat.zero_le _, Nat.zero_le _⟩ (fun r_2 Ez H locs hw2 hW hS => ?_)
  obtain ⟨ez, hw⟩ := hw2
  rw [ez] at hW
  refine lv_istore_n (lv' := [(3, .int r_2), (2, .int r_1), (0, .ref o), (1, .int p1)]) hx hb dX5_talk_14 rfl hl (by decide) rfl (fun ls hl => ?_)
  refine lv_aload_n hx hb dX5_talk_15 rfl (lv_at hl 2 rfl) ?_
  refine lv_iload_n hx hb dX5_talk_16 rfl (lv_at hl 0 rfl) ?_
  refine lv_iconst (v := 1) hx hb dX5_talk_17 (by decide) ?_
  refine w_cvi (As := [.int r_2, .int 1]) (rest := []) hx hb hml hown hts hK hW hS hl.1 (c_X5_of hA HB (fun k hk => putAt hk)  hw) (k_X5_67 hts ⟨Nat.le_of_ble_eq_true rfl, Nat.le_of_ble_eq_true rfl⟩) (w_recv hK hW HB.1 (putAt (k := 0) (by decide)) rfl rfl) rfl rfl (Nat.le_of_ble_eq_true rfl) dX5_talk_18 ⟨Nat.zero_le _, Nat.zero_le _⟩ (fun r_3 Ez H locs hw2 hW hS => ?_)
  obtain ⟨ez, hw⟩ := hw2
  rw [ez] at hW
  refine lv_iconst (v := 1) hx hb dX5_talk_21 (by decide) ?_
  refine lv_icmp_ne (tgt := 36) hx hb dX5_talk_22 (by decide) (fun c_4 => ?_) (fun c_4 => ?_)
  · have hw := hw.2 c_4
    refine lv_aload_n hx hb dX5_talk_36 rfl (lv_at hl 2 rfl) ?_
    refine lv_iload_n hx hb dX5_talk_37 rfl (lv_at hl 3 rfl) ?_
    refine lv_bipush (v := 8) hx hb dX5_talk_38 (by decide) ?_
    refine lv_aload_n hx hb dX5_talk_40 rfl (lv_at hl 2 rfl) ?_
    refine lv_iconst (v := 3) hx hb dX5_talk_41 (by decide) ?_
    refine w_cvi (As := [.int 3]) (rest := [.int 8, .int p1, .ref o]) hx hb hml hown hts hK hW hS hl.1 (c_X5_setting hA HB (fun k hk => putAt hk)  hw) (k_X5_53 hts ⟨Nat.le_of_ble_eq_true rfl, Nat.le_of_ble_eq_true rfl⟩) (w_recv hK hW HB.1 (putAt (k := 0) (by decide)) rfl rfl) rfl rfl (Nat.le_of_ble_eq_true rfl) dX5_talk_42 ⟨Nat.zero_le _, Nat.zero_le _⟩ (fun r_5 Ez H locs hw2 hW hS => ?_)
    obtain ⟨ez, hw⟩ := hw2
    rw [ez] at hW
    refine w_cvi (As := [.int p1, .int 8, .int r_5]) (rest := []) hx hb hml hown hts hK hW hS hl.1 (c_X5_reaches hA HB (fun k hk => putAt hk)  hw) (k_X5_85 hts ⟨Nat.le_of_ble_eq_true rfl, Nat.le_of_ble_eq_true rfl⟩) (w_recv hK hW HB.1 (putAt (k := 0) (by decide)) rfl rfl) rfl rfl (Nat.le_of_ble_eq_true rfl) dX5_talk_45 ⟨Nat.zero_le _, Nat.zero_le _⟩ (fun r_6 Ez H locs hw2 hW hS => ?_)
    obtain ⟨X_8, ez, z_7, hw⟩ := hw2
    rw [ez, putPut] at hW
    refine lv_if_eq (tgt := 77) hx hb dX5_talk_48 (by decide) (fun c_9 => ?_) (fun c_9 => ?_)
    · have hw := hw.1 c_9
      refine lv_aload_n hx hb dX5_talk_77 rfl (lv_at hl 2 rfl) ?_
      refine lv_iload_n hx hb dX5_talk_78 rfl (lv_at hl 3 rfl) ?_
      refine lv_bipush (v := 7) hx hb dX5_talk_79 (by decide) ?_
      refine lv_aload_n hx hb dX5_talk_81 rfl (lv_at hl 2 rfl) ?_
      refine lv_iload_n hx hb dX5_talk_82 rfl (lv_at hl 3 rfl) ?_
      refine lv_bipush (v := 7) hx hb dX5_talk_83 (by decide) ?_
      refine w_cvi (As := [.int p1, .int 7]) (rest := [.int 7, .int p1, .ref o]) hx hb hml hown hts hK hW hS hl.1 (c_X5_ofFinder hA HB (fun k hk => putAt hk)  hw) (k_X5_41 hts ⟨Nat.le_of_ble_eq_true rfl, Nat.le_of_ble_eq_true rfl⟩) (w_recv hK hW HB.1 (putAt (k := 0) (by decide)) rfl rfl) rfl rfl (Nat.le_of_ble_eq_true rfl) dX5_talk_85 ⟨Nat.zero_le _, Nat.zero_le _⟩ (fun r_10 Ez H locs hw2 hW hS => ?_)
      obtain ⟨ez, hw⟩ := hw2
      rw [ez] at hW
      refine lv_iconst (v := 1) hx hb dX5_talk_88 (by decide) ?_
      refine lv_iadd hx hb dX5_talk_89 ?_
      refine w_cvv (As := [.int p1, .int 7, .int (r_10 + 1)]) (rest := []) hx hb hml hown hts hK hW hS hl.1 (c_X5_layFinder hA HB (fun k hk => putAt hk)  hw) (k_X5_45 hts ⟨Nat.le_of_ble_eq_true rfl, Nat.le_of_ble_eq_true rfl⟩) (w_recv hK hW HB.1 (putAt (k := 0) (by decide)) rfl rfl) rfl rfl (Nat.le_of_ble_eq_true rfl) dX5_talk_90 ⟨Nat.zero_le _, Nat.zero_le _⟩ (fun Ez H locs hw2 hW hS => ?_)
      obtain ⟨X_11, ez, hw⟩ := hw2
      rw [ez, putPut] at hW
      refine lv_aload_n hx hb dX5_talk_93 rfl (lv_at hl 2 rfl) ?_
      refine lv_iload_n hx hb dX5_talk_94 rfl (lv_at hl 3 rfl) ?_
      refine lv_bipush (v := 7) hx hb dX5_talk_95 (by decide) ?_
      refine w_cvi (As := [.int p1, .int 7]) (rest := []) hx hb hml hown hts hK hW hS hl.1 (c_X5_ofFinder hA HB (fun k hk => putAt hk)  hw) (k_X5_41 hts ⟨Nat.le_of_ble_eq_true rfl, Nat.le_of_ble_eq_true rfl⟩) (w_recv hK hW HB.1 (putAt (k := 0) (by decide)) rfl rfl) rfl rfl (Nat.le_of_ble_eq_true rfl) dX5_talk_97 ⟨Nat.zero_le _, Nat.zero_le _⟩ (fun r_12 Ez H locs hw2 hW hS => ?_)
      obtain ⟨ez, hw⟩ := hw2
      rw [ez] at hW
      refine lv_aload_n hx hb dX5_talk_100 rfl (lv_at hl 2 rfl) ?_
      refine lv_iconst (v := 2) hx hb dX5_talk_101 (by decide) ?_
      refine w_cvi (As := [.int 2]) (rest := [.int r_12]) hx hb hml hown hts hK hW hS hl.1 (c_X5_setting hA HB (fun k hk => putAt hk)  hw) (k_X5_53 hts ⟨Nat.le_of_ble_eq_true rfl, Nat.le_of_ble_eq_true rfl⟩) (w_recv hK hW HB.1 (putAt (k := 0) (by decide)) rfl rfl) rfl rfl (Nat.le_of_ble_eq_true rfl) dX5_talk_102 ⟨Nat.zero_le _, Nat.zero_le _⟩ (fun r_13 Ez H locs hw2 hW hS => ?_)
      obtain ⟨ez, hw⟩ := hw2
      rw [ez] at hW
      obtain ⟨hnz, hw⟩ := hw
      refine lv_irem hx hb dX5_talk_105 hnz ?_
      refine lv_if_ne (tgt := 114) hx hb dX5_talk_106 (by decide) (fun c_14 => ?_) (fun c_14 => ?_)
      · have hw := hw.2 c_14
        exact w_vret hx hb hr hlocks hW hS ⟨X_11, rfl, hw⟩ dX5_talk_114
      · have hw := hw.1 c_14
        refine lv_aload_n hx hb dX5_talk_109 rfl (lv_at hl 2 rfl) ?_
        refine lv_iload_n hx hb dX5_talk_110 rfl (lv_at hl 1 rfl) ?_
        refine w_cvv (As := [.int r_1]) (rest := []) hx hb hml hown hts hK hW hS hl.1 (c_X5_meter hA HB (fun k hk => putAt hk)  hw) (k_X5_100 hts ⟨Nat.le_of_ble_eq_true rfl, Nat.le_of_ble_eq_true rfl⟩) (w_recv hK hW HB.1 (putAt (k := 0) (by decide)) rfl rfl) rfl rfl (Nat.le_of_ble_eq_true rfl) dX5_talk_111 ⟨Nat.zero_le _, Nat.zero_le _⟩ (fun Ez H locs hw2 hW hS => ?_)
        obtain ⟨X_15, ez, hw⟩ := hw2
        rw [ez, putPut] at hW
        exact w_vret hx hb hr hlocks hW hS ⟨X_15, rfl, hw⟩ dX5_talk_114
    · have hw := hw.2 c_9
      refine lv_aload_n hx hb dX5_talk_51 rfl (lv_at hl 2 rfl) ?_
      refine lv_iload_n hx hb dX5_talk_52 rfl (lv_at hl 3 rfl) ?_
      refine w_cvv (As := [.int p1]) (rest := []) hx hb hml hown hts hK hW hS hl.1 (c_X5_free hA HB (fun k hk => putAt hk)  hw) (k_X5_37 hts ⟨Nat.le_of_ble_eq_true rfl, Nat.le_of_ble_eq_true rfl⟩) (w_recv hK hW HB.1 (putAt (k := 0) (by decide)) rfl rfl) rfl rfl (Nat.le_of_ble_eq_true rfl) dX5_talk_53 ⟨Nat.zero_le _, Nat.zero_le _⟩ (fun Ez H locs hw2 hW hS => ?_)
      obtain ⟨X_16, ez, hw⟩ := hw2
      rw [ez, putPut] at hW
      refine lv_aload_n hx hb dX5_talk_56 rfl (lv_at hl 2 rfl) ?_
      refine lv_iload_n hx hb dX5_talk_57 rfl (lv_at hl 1 rfl) ?_
      refine w_cvv (As := [.int r_1]) (rest := []) hx hb hml hown hts hK hW hS hl.1 (c_X5_park hA HB (fun k hk => putAt hk)  hw) (k_X5_76 hts ⟨Nat.le_of_ble_eq_true rfl, Nat.le_of_ble_eq_true rfl⟩) (w_recv hK hW HB.1 (putAt (k := 0) (by decide)) rfl rfl) rfl rfl (Nat.le_of_ble_eq_true rfl) dX5_talk_58 ⟨Nat.zero_le _, Nat.zero_le _⟩ (fun Ez H locs hw2 hW hS => ?_)
      obtain ⟨X_17, ez, hw⟩ := hw2
      rw [ez, putPut] at hW
      refine lv_aload_n hx hb dX5_talk_61 rfl (lv_at hl 2 rfl) ?_
      refine lv_iload_n hx hb dX5_talk_62 rfl (lv_at hl 1 rfl) ?_
      refine lv_iconst (v := 3) hx hb dX5_talk_63 (by decide) ?_
      refine lv_bipush (v := 6) hx hb dX5_talk_64 (by decide) ?_
      refine w_cvv (As := [.int r_1, .int 3, .int 6]) (rest := []) hx hb hml hown hts hK hW hS hl.1 (c_X5_lay hA HB (fun k hk => putAt hk)  hw) (k_X5_61 hts ⟨Nat.le_of_ble_eq_true rfl, Nat.le_of_ble_eq_true rfl⟩) (w_recv hK hW HB.1 (putAt (k := 0) (by decide)) rfl rfl) rfl rfl (Nat.le_of_ble_eq_true rfl) dX5_talk_66 ⟨Nat.zero_le _, Nat.zero_le _⟩ (fun Ez H locs hw2 hW hS => ?_)
      obtain ⟨X_18, ez, hw⟩ := hw2
      rw [ez, putPut] at hW
      refine lv_aload_n hx hb dX5_talk_69 rfl (lv_at hl 2 rfl) ?_
      refine lv_iload_n hx hb dX5_talk_70 rfl (lv_at hl 0 rfl) ?_
      refine lv_iconst (v := 0) hx hb dX5_talk_71 (by decide) ?_
      refine lv_iconst (v := 0) hx hb dX5_talk_72 (by decide) ?_
      refine w_cvv (As := [.int r_2, .int 0, .int 0]) (rest := []) hx hb hml hown hts hK hW hS hl.1 (c_X5_lay hA HB (fun k hk => putAt hk)  hw) (k_X5_61 hts ⟨Nat.le_of_ble_eq_true rfl, Nat.le_of_ble_eq_true rfl⟩) (w_recv hK hW HB.1 (putAt (k := 0) (by decide)) rfl rfl) rfl rfl (Nat.le_of_ble_eq_true rfl) dX5_talk_73 ⟨Nat.zero_le _, Nat.zero_le _⟩ (fun Ez H locs hw2 hW hS => ?_)
      obtain ⟨X_19, ez, hw⟩ := hw2
      rw [ez, putPut] at hW
      exact w_vret hx hb hr hlocks hW hS ⟨X_19, rfl, hw⟩ dX5_talk_76
  · have hw := hw.1 c_4
    refine lv_aload_n hx hb dX5_talk_25 rfl (lv_at hl 2 rfl) ?_
    refine lv_iload_n hx hb dX5_talk_26 rfl (lv_at hl 3 rfl) ?_
    refine lv_bipush (v := 8) hx hb dX5_talk_27 (by decide) ?_
    refine lv_iconst (v := 0) hx hb dX5_talk_29 (by decide) ?_
    refine w_cvv (As := [.int p1, .int 8, .int 0]) (rest := []) hx hb hml hown hts hK hW hS hl.1 (c_X5_layFinder hA HB (fun k hk => putAt hk)  hw) (k_X5_45 hts ⟨Nat.le_of_ble_eq_true rfl, Nat.le_of_ble_eq_true rfl⟩) (w_recv hK hW HB.1 (putAt (k := 0) (by decide)) rfl rfl) rfl rfl (Nat.le_of_ble_eq_true rfl) dX5_talk_30 ⟨Nat.zero_le _, Nat.zero_le _⟩ (fun Ez H locs hw2 hW hS => ?_)
    obtain ⟨X_20, ez, hw⟩ := hw2
    rw [ez, putPut] at hW
    refine lv_goto (tgt := 77) hx hb dX5_talk_33 (by decide) ?_
    refine lv_aload_n hx hb dX5_talk_77 rfl (lv_at hl 2 rfl) ?_
    refine lv_iload_n hx hb dX5_talk_78 rfl (lv_at hl 3 rfl) ?_
    refine lv_bipush (v := 7) hx hb dX5_talk_79 (by decide) ?_
    refine lv_aload_n hx hb dX5_talk_81 rfl (lv_at hl 2 rfl) ?_
    refine lv_iload_n hx hb dX5_talk_82 rfl (lv_at hl 3 rfl) ?_
    refine lv_bipush (v := 7) hx hb dX5_talk_83 (by decide) ?_
    refine w_cvi (As := [.int p1, .int 7]) (rest := [.int 7, .int p1, .ref o]) hx hb hml hown hts hK hW hS hl.1 (c_X5_ofFinder hA HB (fun k hk => putAt hk)  hw) (k_X5_41 hts ⟨Nat.le_of_ble_eq_true rfl, Nat.le_of_ble_eq_true rfl⟩) (w_recv hK hW HB.1 (putAt (k := 0) (by decide)) rfl rfl) rfl rfl (Nat.le_of_ble_eq_true rfl) dX5_talk_85 ⟨Nat.zero_le _, Nat.zero_le _⟩ (fun r_21 Ez H locs hw2 hW hS => ?_)
    obtain ⟨ez, hw⟩ := hw2
    rw [ez] at hW
    refine lv_iconst (v := 1) hx hb dX5_talk_88 (by decide) ?_
    refine lv_iadd hx hb dX5_talk_89 ?_
    refine w_cvv (As := [.int p1, .int 7, .int (r_21 + 1)]) (rest := []) hx hb hml hown hts hK hW hS hl.1 (c_X5_layFinder hA HB (fun k hk => putAt hk)  hw) (k_X5_45 hts ⟨Nat.le_of_ble_eq_true rfl, Nat.le_of_ble_eq_true rfl⟩) (w_recv hK hW HB.1 (putAt (k := 0) (by decide)) rfl rfl) rfl rfl (Nat.le_of_ble_eq_true rfl) dX5_talk_90 ⟨Nat.zero_le _, Nat.zero_le _⟩ (fun Ez H locs hw2 hW hS => ?_)
    obtain ⟨X_22, ez, hw⟩ := hw2
    rw [ez, putPut] at hW
    refine lv_aload_n hx hb dX5_talk_93 rfl (lv_at hl 2 rfl) ?_
    refine lv_iload_n hx hb dX5_talk_94 rfl (lv_at hl 3 rfl) ?_
    refine lv_bipush (v := 7) hx hb dX5_talk_95 (by decide) ?_
    refine w_cvi (As := [.int p1, .int 7]) (rest := []) hx hb hml hown hts hK hW hS hl.1 (c_X5_ofFinder hA HB (fun k hk => putAt hk)  hw) (k_X5_41 hts ⟨Nat.le_of_ble_eq_true rfl, Nat.le_of_ble_eq_true rfl⟩) (w_recv hK hW HB.1 (putAt (k := 0) (by decide)) rfl rfl) rfl rfl (Nat.le_of_ble_eq_true rfl) dX5_talk_97 ⟨Nat.zero_le _, Nat.zero_le _⟩ (fun r_23 Ez H locs hw2 hW hS => ?_)
    obtain ⟨ez, hw⟩ := hw2
    rw [ez] at hW
    refine lv_aload_n hx hb dX5_talk_100 rfl (lv_at hl 2 rfl) ?_
    refine lv_iconst (v := 2) hx hb dX5_talk_101 (by decide) ?_
    refine w_cvi (As := [.int 2]) (rest := [.int r_23]) hx hb hml hown hts hK hW hS hl.1 (c_X5_setting hA HB (fun k hk => putAt hk)  hw) (k_X5_53 hts ⟨Nat.le_of_ble_eq_true rfl, Nat.le_of_ble_eq_true rfl⟩) (w_recv hK hW HB.1 (putAt (k := 0) (by decide)) rfl rfl) rfl rfl (Nat.le_of_ble_eq_true rfl) dX5_talk_102 ⟨Nat.zero_le _, Nat.zero_le _⟩ (fun r_24 Ez H locs hw2 hW hS => ?_)
    obtain ⟨ez, hw⟩ := hw2
    rw [ez] at hW
    obtain ⟨hnz, hw⟩ := hw
    refine lv_irem hx hb dX5_talk_105 hnz ?_
    refine lv_if_ne (tgt := 114) hx hb dX5_talk_106 (by decide) (fun c_25 => ?_) (fun c_25 => ?_)
    · have hw := hw.2 c_25
      exact w_vret hx hb hr hlocks hW hS ⟨X_22, rfl, hw⟩ dX5_talk_114
    · have hw := hw.1 c_25
      refine lv_aload_n hx hb dX5_talk_109 rfl (lv_at hl 2 rfl) ?_
      refine lv_iload_n hx hb dX5_talk_110 rfl (lv_at hl 1 rfl) ?_
      refine w_cvv (As := [.int r_1]) (rest := []) hx hb hml hown hts hK hW hS hl.1 (c_X5_meter hA HB (fun k hk => putAt hk)  hw) (k_X5_100 hts ⟨Nat.le_of_ble_eq_true rfl, Nat.le_of_ble_eq_true rfl⟩) (w_recv hK hW HB.1 (putAt (k := 0) (by decide)) rfl rfl) rfl rfl (Nat.le_of_ble_eq_true rfl) dX5_talk_111 ⟨Nat.zero_le _, Nat.zero_le _⟩ (fun Ez H locs hw2 hW hS => ?_)
      obtain ⟨X_26, ez, hw⟩ := hw2
      rw [ez, putPut] at hW
      exact w_vret hx hb hr hlocks hW hS ⟨X_26, rfl, hw⟩ dX5_talk_114
set_option maxHeartbeats 4000000 in
set_option maxRecDepth 100000 in
theorem c_X5_soundOn {l : Launch} {g : GG} {lay : LY} {E0 : ES} {o : Nat} {X : ES} {p1 : Int32} {K : ES → Prop} (hA : okL g lay) (HB : ML g lay o) (hX : ∀ k, k < 7 → E0 (o + k) = X k) (hw : wp_X5_soundOn X p1 K) : JMv l g lay yX5_soundOn wsX5_soundOn rmX5_soundOn [.ref o, .int p1] E0 (fun E1 => ∃ X1 : ES, E1 = put 7 o X1 E0 ∧ K X1) := by
  refine Met.ofW (cc := cX5_soundOn) (maxL := 3) (ret := none) (by decide) rfl ?_
  intro p e s m args below meth c s₁ B hml hv
  obtain ⟨rfl, hK, hW⟩ := hv
  have hx := B.exec
  have hb := B.bytes
  have hr := B.returns
  have hts := gd_of (atoms_spec (ws := wsX5_soundOn) B.pre)
  have hown : s.vm.findClass RX5 = some m.cls := findClass_of_methodNamed B.named
  have hlocks := B.notSynchronized
  have hS : va_S (Ab g) s.heap s.heap [] := va_S.rf
  have hW : Wd g lay (put 7 o X E0) s.heap := by rw [putSelf hX]; exact hW
  have hl := lv_entry [.ref o, .int p1] (n := 3) (Nat.le_of_ble_eq_true rfl)
  rw [lg_entry_eq]
  generalize (lg_sl [.ref o, .int p1] ++ List.replicate (3 - (lg_sl [.ref o, .int p1]).length) Slot.unset).toArray = ls at hl ⊢
  have hl : lv_has ls 3 [(0, .ref o), (1, .int p1)] := hl
  unfold wp_X5_soundOn at hw
  refine lv_aload_n hx hb dX5_soundOn_0 rfl (lv_at hl 0 rfl) ?_
  refine lv_iload_n hx hb dX5_soundOn_1 rfl (lv_at hl 1 rfl) ?_
  refine lv_iconst (v := 2) hx hb dX5_soundOn_2 (by decide) ?_
  refine w_cvi (As := [.int p1, .int 2]) (rest := []) hx hb hml hown hts hK hW hS hl.1 (c_X5_ofFinder hA HB (fun k hk => putAt hk)  hw) (k_X5_41 hts ⟨Nat.le_of_ble_eq_true rfl, Nat.le_of_ble_eq_true rfl⟩) (w_recv hK hW HB.1 (putAt (k := 0) (by decide)) rfl rfl) rfl rfl (Nat.le_of_ble_eq_true rfl) dX5_soundOn_3 ⟨Nat.zero_le _, Nat.zero_le _⟩ (fun r_1 Ez H locs hw2 hW hS => ?_)
  obtain ⟨ez, hw⟩ := hw2
  rw [ez] at hW
  refine lv_istore_n (lv' := [(2, .int r_1), (0, .ref o), (1, .int p1)]) hx hb dX5_soundOn_6 rfl hl (by decide) rfl (fun ls hl => ?_)
  refine lv_aload_n hx hb dX5_soundOn_7 rfl (lv_at hl 1 rfl) ?_
  refine lv_iload_n hx hb dX5_soundOn_8 rfl (lv_at hl 2 rfl) ?_
  refine lv_bipush (v := 7) hx hb dX5_soundOn_9 (by decide) ?_
  refine lv_aload_n hx hb dX5_soundOn_11 rfl (lv_at hl 1 rfl) ?_
  refine lv_iconst (v := 0) hx hb dX5_soundOn_12 (by decide) ?_
  refine w_cvi (As := [.int 0]) (rest := [.int 7, .int p1, .ref o]) hx hb hml hown hts hK hW hS hl.1 (c_X5_setting hA HB (fun k hk => putAt hk)  hw) (k_X5_53 hts ⟨Nat.le_of_ble_eq_true rfl, Nat.le_of_ble_eq_true rfl⟩) (w_recv hK hW HB.1 (putAt (k := 0) (by decide)) rfl rfl) rfl rfl (Nat.le_of_ble_eq_true rfl) dX5_soundOn_13 ⟨Nat.zero_le _, Nat.zero_le _⟩ (fun r_2 Ez H locs hw2 hW hS => ?_)
  obtain ⟨ez, hw⟩ := hw2
  rw [ez] at hW
  refine w_cvi (As := [.int p1, .int 7, .int r_2]) (rest := []) hx hb hml hown hts hK hW hS hl.1 (c_X5_reaches hA HB (fun k hk => putAt hk)  hw) (k_X5_85 hts ⟨Nat.le_of_ble_eq_true rfl, Nat.le_of_ble_eq_true rfl⟩) (w_recv hK hW HB.1 (putAt (k := 0) (by decide)) rfl rfl) rfl rfl (Nat.le_of_ble_eq_true rfl) dX5_soundOn_16 ⟨Nat.zero_le _, Nat.zero_le _⟩ (fun r_3 Ez H locs hw2 hW hS => ?_)
  obtain ⟨X_5, ez, z_4, hw⟩ := hw2
  rw [ez, putPut] at hW
  refine lv_if_eq (tgt := 32) hx hb dX5_soundOn_19 (by decide) (fun c_6 => ?_) (fun c_6 => ?_)
  · have hw := hw.1 c_6
    exact w_vret hx hb hr hlocks hW hS ⟨X_5, rfl, hw⟩ dX5_soundOn_32
  · have hw := hw.2 c_6
    refine lv_aload_n hx hb dX5_soundOn_22 rfl (lv_at hl 1 rfl) ?_
    refine lv_iload_n hx hb dX5_soundOn_23 rfl (lv_at hl 2 rfl) ?_
    refine w_cvv (As := [.int p1]) (rest := []) hx hb hml hown hts hK hW hS hl.1 (c_X5_free hA HB (fun k hk => putAt hk)  hw) (k_X5_37 hts ⟨Nat.le_of_ble_eq_true rfl, Nat.le_of_ble_eq_true rfl⟩) (w_recv hK hW HB.1 (putAt (k := 0) (by decide)) rfl rfl) rfl rfl (Nat.le_of_ble_eq_true rfl) dX5_soundOn_24 ⟨Nat.zero_le _, Nat.zero_le _⟩ (fun Ez H locs hw2 hW hS => ?_)
    obtain ⟨X_7, ez, hw⟩ := hw2
    rw [ez, putPut] at hW
    refine lv_aload_n hx hb dX5_soundOn_27 rfl (lv_at hl 1 rfl) ?_
    refine lv_iload_n hx hb dX5_soundOn_28 rfl (lv_at hl 0 rfl) ?_
    refine w_cvv (As := [.int r_1]) (rest := []) hx hb hml hown hts hK hW hS hl.1 (c_X5_park hA HB (fun k hk => putAt hk)  hw) (k_X5_76 hts ⟨Nat.le_of_ble_eq_true rfl, Nat.le_of_ble_eq_true rfl⟩) (w_recv hK hW HB.1 (putAt (k := 0) (by decide)) rfl rfl) rfl rfl (Nat.le_of_ble_eq_true rfl) dX5_soundOn_29 ⟨Nat.zero_le _, Nat.zero_le _⟩ (fun Ez H locs hw2 hW hS => ?_)
    obtain ⟨X_8, ez, hw⟩ := hw2
    rw [ez, putPut] at hW
    exact w_vret hx hb hr hlocks hW hS ⟨X_8, rfl, hw⟩ dX5_soundOn_32
set_option maxHeartbeats 4000000 in
set_option maxRecDepth 100000 in
theorem c_X5_stepFinder {l : Launch} {g : GG} {lay : LY} {E0 : ES} {o : Nat} {X : ES} {p1 : Int32} {K : ES → Prop} (hA : okL g lay) (HB : ML g lay o) (hX : ∀ k, k < 7 → E0 (o + k) = X k) (hw : wp_X5_stepFinder X p1 K) : JMv l g lay yX5_stepFinder wsX5_stepFinder rmX5_stepFinder [.ref o, .int p1] E0 (fun E1 => ∃ X1 : ES, E1 = put 7 o X1 E0 ∧ K X1) := by
  refine Met.ofW (cc := cX5_stepFinder) (maxL := 2) (ret := none) (by decide) rfl ?_
  intro p e s m args below meth c s₁ B hml hv
  obtain ⟨rfl, hK, hW⟩ := hv
  have hx := B.exec
  have hb := B.bytes
  have hr := B.returns
  have hts := gd_of (atoms_spec (ws := wsX5_stepFinder) B.pre)
  have hown : s.vm.findClass RX5 = some m.cls := findClass_of_methodNamed B.named
  have hlocks := B.notSynchronized
  have hS : va_S (Ab g) s.heap s.heap [] := va_S.rf
  have hW : Wd g lay (put 7 o X E0) s.heap := by rw [putSelf hX]; exact hW
  have hl := lv_entry [.ref o, .int p1] (n := 2) (Nat.le_of_ble_eq_true rfl)
  rw [lg_entry_eq]
  generalize (lg_sl [.ref o, .int p1] ++ List.replicate (2 - (lg_sl [.ref o, .int p1]).length) Slot.unset).toArray = ls at hl ⊢
  have hl : lv_has ls 2 [(0, .ref o), (1, .int p1)] := hl
  unfold wp_X5_stepFinder at hw
  refine lv_aload_n hx hb dX5_stepFinder_0 rfl (lv_at hl 0 rfl) ?_
  refine lv_iload_n hx hb dX5_stepFinder_1 rfl (lv_at hl 1 rfl) ?_
  refine lv_iconst (v := 0) hx hb dX5_stepFinder_2 (by decide) ?_
  refine w_cvi (As := [.int p1, .int 0]) (rest := []) hx hb hml hown hts hK hW hS hl.1 (c_X5_ofFinder hA HB (fun k hk => putAt hk)  hw) (k_X5_41 hts ⟨Nat.le_of_ble_eq_true rfl, Nat.le_of_ble_eq_true rfl⟩) (w_recv hK hW HB.1 (putAt (k := 0) (by decide)) rfl rfl) rfl rfl (Nat.le_of_ble_eq_true rfl) dX5_stepFinder_3 ⟨Nat.zero_le _, Nat.zero_le _⟩ (fun r_1 Ez H locs hw2 hW hS => ?_)
  obtain ⟨ez, hw⟩ := hw2
  rw [ez] at hW
  by_cases c_2 : r_1 = 1
  · have hw := hw.1 c_2
    refine lv_tableIn (tgt := 56) hx hb dX5_stepFinder_6 (by rw [c_2]; decide) (by rw [c_2]; decide) (by rw [c_2] <;> rfl) (by decide) ?_
    refine lv_aload_n hx hb dX5_stepFinder_56 rfl (lv_at hl 0 rfl) ?_
    refine lv_iload_n hx hb dX5_stepFinder_57 rfl (lv_at hl 1 rfl) ?_
    refine w_cvv (As := [.int p1]) (rest := []) hx hb hml hown hts hK hW hS hl.1 (c_X5_seek hA HB (fun k hk => putAt hk)  hw) (k_X5_103 hts ⟨Nat.le_of_ble_eq_true rfl, Nat.le_of_ble_eq_true rfl⟩) (w_recv hK hW HB.1 (putAt (k := 0) (by decide)) rfl rfl) rfl rfl (Nat.le_of_ble_eq_true rfl) dX5_stepFinder_58 ⟨Nat.zero_le _, Nat.zero_le _⟩ (fun Ez H locs hw2 hW hS => ?_)
    obtain ⟨X_3, ez, hw⟩ := hw2
    rw [ez, putPut] at hW
    refine lv_goto (tgt := 120) hx hb dX5_stepFinder_61 (by decide) ?_
    exact w_vret hx hb hr hlocks hW hS ⟨X_3, rfl, hw⟩ dX5_stepFinder_120
  · have hw := hw.2 c_2
    by_cases c_4 : r_1 = 2
    · have hw := hw.1 c_4
      refine lv_tableIn (tgt := 64) hx hb dX5_stepFinder_6 (by rw [c_4]; decide) (by rw [c_4]; decide) (by rw [c_4] <;> rfl) (by decide) ?_
      refine lv_aload_n hx hb dX5_stepFinder_64 rfl (lv_at hl 0 rfl) ?_
      refine lv_iload_n hx hb dX5_stepFinder_65 rfl (lv_at hl 1 rfl) ?_
      refine w_cvv (As := [.int p1]) (rest := []) hx hb hml hown hts hK hW hS hl.1 (c_X5_waitForDigit hA HB (fun k hk => putAt hk)  hw) (k_X5_106 hts ⟨Nat.le_of_ble_eq_true rfl, Nat.le_of_ble_eq_true rfl⟩) (w_recv hK hW HB.1 (putAt (k := 0) (by decide)) rfl rfl) rfl rfl (Nat.le_of_ble_eq_true rfl) dX5_stepFinder_66 ⟨Nat.zero_le _, Nat.zero_le _⟩ (fun Ez H locs hw2 hW hS => ?_)
      obtain ⟨X_5, ez, hw⟩ := hw2
      rw [ez, putPut] at hW
      refine lv_goto (tgt := 120) hx hb dX5_stepFinder_69 (by decide) ?_
      exact w_vret hx hb hr hlocks hW hS ⟨X_5, rfl, hw⟩ dX5_stepFinder_120
    · have hw := hw.2 c_4
      by_cases c_6 : r_1 = 3
      · have hw := hw.1 c_6
        refine lv_tableIn (tgt := 72) hx hb dX5_stepFinder_6 (by rw [c_6]; decide) (by rw [c_6]; decide) (by rw [c_6] <;> rfl) (by decide) ?_
        refine lv_aload_n hx hb dX5_stepFinder_72 rfl (lv_at hl 0 rfl) ?_
        refine lv_iload_n hx hb dX5_stepFinder_73 rfl (lv_at hl 1 rfl) ?_
        refine w_cvv (As := [.int p1]) (rest := []) hx hb hml hown hts hK hW hS hl.1 (c_X5_rise hA HB (fun k hk => putAt hk)  hw) (k_X5_109 hts ⟨Nat.le_of_ble_eq_true rfl, Nat.le_of_ble_eq_true rfl⟩) (w_recv hK hW HB.1 (putAt (k := 0) (by decide)) rfl rfl) rfl rfl (Nat.le_of_ble_eq_true rfl) dX5_stepFinder_74 ⟨Nat.zero_le _, Nat.zero_le _⟩ (fun Ez H locs hw2 hW hS => ?_)
        obtain ⟨X_7, ez, hw⟩ := hw2
        rw [ez, putPut] at hW
        refine lv_goto (tgt := 120) hx hb dX5_stepFinder_77 (by decide) ?_
        exact w_vret hx hb hr hlocks hW hS ⟨X_7, rfl, hw⟩ dX5_stepFinder_120
      · have hw := hw.2 c_6
        by_cases c_8 : r_1 = 4
        · have hw := hw.1 c_8
          refine lv_tableIn (tgt := 80) hx hb dX5_stepFinder_6 (by rw [c_8]; decide) (by rw [c_8]; decide) (by rw [c_8] <;> rfl) (by decide) ?_
          refine lv_aload_n hx hb dX5_stepFinder_80 rfl (lv_at hl 0 rfl) ?_
          refine lv_iload_n hx hb dX5_stepFinder_81 rfl (lv_at hl 1 rfl) ?_
          refine w_cvv (As := [.int p1]) (rest := []) hx hb hml hown hts hK hW hS hl.1 (c_X5_hunt hA HB (fun k hk => putAt hk)  hw) (k_X5_112 hts ⟨Nat.le_of_ble_eq_true rfl, Nat.le_of_ble_eq_true rfl⟩) (w_recv hK hW HB.1 (putAt (k := 0) (by decide)) rfl rfl) rfl rfl (Nat.le_of_ble_eq_true rfl) dX5_stepFinder_82 ⟨Nat.zero_le _, Nat.zero_le _⟩ (fun Ez H locs hw2 hW hS => ?_)
          obtain ⟨X_9, ez, hw⟩ := hw2
          rw [ez, putPut] at hW
          refine lv_goto (tgt := 120) hx hb dX5_stepFinder_85 (by decide) ?_
          exact w_vret hx hb hr hlocks hW hS ⟨X_9, rfl, hw⟩ dX5_stepFinder_120
        · have hw := hw.2 c_8
          by_cases c_10 : r_1 = 5
          · have hw := hw.1 c_10
            refine lv_tableIn (tgt := 64) hx hb dX5_stepFinder_6 (by rw [c_10]; decide) (by rw [c_10]; decide) (by rw [c_10] <;> rfl) (by decide) ?_
            refine lv_aload_n hx hb dX5_stepFinder_64 rfl (lv_at hl 0 rfl) ?_
            refine lv_iload_n hx hb dX5_stepFinder_65 rfl (lv_at hl 1 rfl) ?_
            refine w_cvv (As := [.int p1]) (rest := []) hx hb hml hown hts hK hW hS hl.1 (c_X5_waitForDigit hA HB (fun k hk => putAt hk)  hw) (k_X5_106 hts ⟨Nat.le_of_ble_eq_true rfl, Nat.le_of_ble_eq_true rfl⟩) (w_recv hK hW HB.1 (putAt (k := 0) (by decide)) rfl rfl) rfl rfl (Nat.le_of_ble_eq_true rfl) dX5_stepFinder_66 ⟨Nat.zero_le _, Nat.zero_le _⟩ (fun Ez H locs hw2 hW hS => ?_)
            obtain ⟨X_11, ez, hw⟩ := hw2
            rw [ez, putPut] at hW
            refine lv_goto (tgt := 120) hx hb dX5_stepFinder_69 (by decide) ?_
            exact w_vret hx hb hr hlocks hW hS ⟨X_11, rfl, hw⟩ dX5_stepFinder_120
          · have hw := hw.2 c_10
            by_cases c_12 : r_1 = 6
            · have hw := hw.1 c_12
              refine lv_tableIn (tgt := 88) hx hb dX5_stepFinder_6 (by rw [c_12]; decide) (by rw [c_12]; decide) (by rw [c_12] <;> rfl) (by decide) ?_
              refine lv_aload_n hx hb dX5_stepFinder_88 rfl (lv_at hl 0 rfl) ?_
              refine lv_iload_n hx hb dX5_stepFinder_89 rfl (lv_at hl 1 rfl) ?_
              refine w_cvv (As := [.int p1]) (rest := []) hx hb hml hown hts hK hW hS hl.1 (c_X5_step hA HB (fun k hk => putAt hk)  hw) (k_X5_115 hts ⟨Nat.le_of_ble_eq_true rfl, Nat.le_of_ble_eq_true rfl⟩) (w_recv hK hW HB.1 (putAt (k := 0) (by decide)) rfl rfl) rfl rfl (Nat.le_of_ble_eq_true rfl) dX5_stepFinder_90 ⟨Nat.zero_le _, Nat.zero_le _⟩ (fun Ez H locs hw2 hW hS => ?_)
              obtain ⟨X_13, ez, hw⟩ := hw2
              rw [ez, putPut] at hW
              refine lv_goto (tgt := 120) hx hb dX5_stepFinder_93 (by decide) ?_
              exact w_vret hx hb hr hlocks hW hS ⟨X_13, rfl, hw⟩ dX5_stepFinder_120
            · have hw := hw.2 c_12
              by_cases c_14 : r_1 = 7
              · have hw := hw.1 c_14
                refine lv_tableIn (tgt := 96) hx hb dX5_stepFinder_6 (by rw [c_14]; decide) (by rw [c_14]; decide) (by rw [c_14] <;> rfl) (by decide) ?_
                refine lv_aload_n hx hb dX5_stepFinder_96 rfl (lv_at hl 0 rfl) ?_
                refine lv_iload_n hx hb dX5_stepFinder_97 rfl (lv_at hl 1 rfl) ?_
                refine w_cvv (As := [.int p1]) (rest := []) hx hb hml hown hts hK hW hS hl.1 (c_X5_ring hA HB (fun k hk => putAt hk)  hw) (k_X5_118 hts ⟨Nat.le_of_ble_eq_true rfl, Nat.le_of_ble_eq_true rfl⟩) (w_recv hK hW HB.1 (putAt (k := 0) (by decide)) rfl rfl) rfl rfl (Nat.le_of_ble_eq_true rfl) dX5_stepFinder_98 ⟨Nat.zero_le _, Nat.zero_le _⟩ (fun Ez H locs hw2 hW hS => ?_)
                obtain ⟨X_15, ez, hw⟩ := hw2
                rw [ez, putPut] at hW
                refine lv_goto (tgt := 120) hx hb dX5_stepFinder_101 (by decide) ?_
                exact w_vret hx hb hr hlocks hW hS ⟨X_15, rfl, hw⟩ dX5_stepFinder_120
              · have hw := hw.2 c_14
                by_cases c_16 : r_1 = 8
                · have hw := hw.1 c_16
                  refine lv_tableIn (tgt := 104) hx hb dX5_stepFinder_6 (by rw [c_16]; decide) (by rw [c_16]; decide) (by rw [c_16] <;> rfl) (by decide) ?_
                  refine lv_aload_n hx hb dX5_stepFinder_104 rfl (lv_at hl 0 rfl) ?_
                  refine lv_iload_n hx hb dX5_stepFinder_105 rfl (lv_at hl 1 rfl) ?_
                  refine w_cvv (As := [.int p1]) (rest := []) hx hb hml hown hts hK hW hS hl.1 (c_X5_talk hA HB (fun k hk => putAt hk)  hw) (k_X5_121 hts ⟨Nat.le_of_ble_eq_true rfl, Nat.le_of_ble_eq_true rfl⟩) (w_recv hK hW HB.1 (putAt (k := 0) (by decide)) rfl rfl) rfl rfl (Nat.le_of_ble_eq_true rfl) dX5_stepFinder_106 ⟨Nat.zero_le _, Nat.zero_le _⟩ (fun Ez H locs hw2 hW hS => ?_)
                  obtain ⟨X_17, ez, hw⟩ := hw2
                  rw [ez, putPut] at hW
                  refine lv_goto (tgt := 120) hx hb dX5_stepFinder_109 (by decide) ?_
                  exact w_vret hx hb hr hlocks hW hS ⟨X_17, rfl, hw⟩ dX5_stepFinder_120
                · have hw := hw.2 c_16
                  by_cases c_18 : r_1 = 9
                  · have hw := hw.1 c_18
                    refine lv_tableIn (tgt := 112) hx hb dX5_stepFinder_6 (by rw [c_18]; decide) (by rw [c_18]; decide) (by rw [c_18] <;> rfl) (by decide) ?_
                    refine lv_aload_n hx hb dX5_stepFinder_112 rfl (lv_at hl 0 rfl) ?_
                    refine lv_iload_n hx hb dX5_stepFinder_113 rfl (lv_at hl 1 rfl) ?_
                    refine w_cvv (As := [.int p1]) (rest := []) hx hb hml hown hts hK hW hS hl.1 (c_X5_soundOn hA HB (fun k hk => putAt hk)  hw) (k_X5_124 hts ⟨Nat.le_of_ble_eq_true rfl, Nat.le_of_ble_eq_true rfl⟩) (w_recv hK hW HB.1 (putAt (k := 0) (by decide)) rfl rfl) rfl rfl (Nat.le_of_ble_eq_true rfl) dX5_stepFinder_114 ⟨Nat.zero_le _, Nat.zero_le _⟩ (fun Ez H locs hw2 hW hS => ?_)
                    obtain ⟨X_19, ez, hw⟩ := hw2
                    rw [ez, putPut] at hW
                    refine lv_goto (tgt := 120) hx hb dX5_stepFinder_117 (by decide) ?_
                    exact w_vret hx hb hr hlocks hW hS ⟨X_19, rfl, hw⟩ dX5_stepFinder_120
                  · have hw := hw.2 c_18
                    refine lv_tableOut (tgt := 120) hx hb dX5_stepFinder_6 (by have zc_2 := lv_neT (a := 1) c_2 rfl; have zc_4 := lv_neT (a := 2) c_4 rfl; have zc_6 := lv_neT (a := 3) c_6 rfl; have zc_8 := lv_neT (a := 4) c_8 rfl; have zc_10 := lv_neT (a := 5) c_10 rfl; have zc_12 := lv_neT (a := 6) c_12 rfl; have zc_14 := lv_neT (a := 7) c_14 rfl; have zc_16 := lv_neT (a := 8) c_16 rfl; have zc_18 := lv_neT (a := 9) c_18 rfl; omega) (by decide) ?_
                    exact w_vret hx hb hr hlocks hW hS ⟨X, rfl, hw⟩ dX5_stepFinder_120
set_option maxHeartbeats 4000000 in
set_option maxRecDepth 100000 in
theorem c_X5_isQueued {l : Launch} {g : GG} {lay : LY} {E0 : ES} {o : Nat} {X : ES} {p1 : Int32} {K : Int32 → Prop} (hA : okL g lay) (HB : ML g lay o) (hX : ∀ k, k < 7 → E0 (o + k) = X k) (hw : wp_X5_isQueued X p1 K) : JMi l g lay yX5_isQueued wsX5_isQueued rmX5_isQueued [.ref o, .int p1] E0 (fun r E1 => E1 = E0 ∧ (r = 0 ∨ r = 1) ∧ K r) := by
  refine Met.ofW (cc := cX5_isQueued) (maxL := 2) (ret := (some .boolean)) (by decide) rfl ?_
  intro p e s m args below meth c s₁ B hml hv
  obtain ⟨rfl, hK, hW⟩ := hv
  have hx := B.exec
  have hb := B.bytes
  have hr := B.returns
  have hts := gd_of (atoms_spec (ws := wsX5_isQueued) B.pre)
  have hown : s.vm.findClass RX5 = some m.cls := findClass_of_methodNamed B.named
  have hlocks := B.notSynchronized
  have hS : va_S (Ab g) s.heap s.heap [] := va_S.rf
  have hl := lv_entry [.ref o, .int p1] (n := 2) (Nat.le_of_ble_eq_true rfl)
  rw [lg_entry_eq]
  generalize (lg_sl [.ref o, .int p1] ++ List.replicate (2 - (lg_sl [.ref o, .int p1]).length) Slot.unset).toArray = ls at hl ⊢
  have hl : lv_has ls 2 [(0, .ref o), (1, .int p1)] := hl
  unfold wp_X5_isQueued at hw
  refine lv_aload_n hx hb dX5_isQueued_0 rfl (lv_at hl 0 rfl) ?_
  refine lv_iload_n hx hb dX5_isQueued_1 rfl (lv_at hl 1 rfl) ?_
  refine lv_iconst (v := 0) hx hb dX5_isQueued_2 (by decide) ?_
  refine w_cvi (As := [.int p1, .int 0]) (rest := []) hx hb hml hown hts hK hW hS hl.1 (c_X5_of hA HB hX  hw) (k_X5_67 hts ⟨Nat.le_of_ble_eq_true rfl, Nat.le_of_ble_eq_true rfl⟩) (w_recv hK hW HB.1 (hX 0 (by decide)) rfl rfl) rfl rfl (Nat.le_of_ble_eq_true rfl) dX5_isQueued_3 ⟨Nat.zero_le _, Nat.zero_le _⟩ (fun r_1 Ez H locs hw2 hW hS => ?_)
  obtain ⟨ez, hw⟩ := hw2
  rw [ez] at hW
  refine lv_iconst (v := 1) hx hb dX5_isQueued_6 (by decide) ?_
  refine lv_icmp_ne (tgt := 22) hx hb dX5_isQueued_7 (by decide) (fun c_2 => ?_) (fun c_2 => ?_)
  · have hw := hw.2 c_2
    refine lv_iconst (v := 0) hx hb dX5_isQueued_22 (by decide) ?_
    exact w_zret hx hb hr hlocks hW hS (Or.inl rfl) ⟨rfl, (Or.inl rfl), hw⟩ dX5_isQueued_23
  · have hw := hw.1 c_2
    refine lv_aload_n hx hb dX5_isQueued_10 rfl (lv_at hl 0 rfl) ?_
    refine lv_iload_n hx hb dX5_isQueued_11 rfl (lv_at hl 1 rfl) ?_
    refine w_cvi (As := [.int p1]) (rest := []) hx hb hml hown hts hK hW hS hl.1 (c_X5_finderOf hA HB hX  hw) (k_X5_73 hts ⟨Nat.le_of_ble_eq_true rfl, Nat.le_of_ble_eq_true rfl⟩) (w_recv hK hW HB.1 (hX 0 (by decide)) rfl rfl) rfl rfl (Nat.le_of_ble_eq_true rfl) dX5_isQueued_12 ⟨Nat.zero_le _, Nat.zero_le _⟩ (fun r_3 Ez H locs hw2 hW hS => ?_)
    obtain ⟨ez, hw⟩ := hw2
    rw [ez] at hW
    refine lv_if_ge (tgt := 22) hx hb dX5_isQueued_15 (by decide) (fun c_4 => ?_) (fun c_4 => ?_)
    · have hw := hw.1 c_4
      refine lv_iconst (v := 0) hx hb dX5_isQueued_22 (by decide) ?_
      exact w_zret hx hb hr hlocks hW hS (Or.inl rfl) ⟨rfl, (Or.inl rfl), hw⟩ dX5_isQueued_23
    · have hw := hw.2 c_4
      refine lv_iconst (v := 1) hx hb dX5_isQueued_18 (by decide) ?_
      refine lv_goto (tgt := 23) hx hb dX5_isQueued_19 (by decide) ?_
      exact w_zret hx hb hr hlocks hW hS (Or.inr rfl) ⟨rfl, (Or.inr rfl), hw⟩ dX5_isQueued_23
set_option maxHeartbeats 4000000 in
set_option maxRecDepth 100000 in
theorem c_X5_allot {l : Launch} {g : GG} {lay : LY} {E0 : ES} {o : Nat} {X : ES} {K : ES → Prop} (hA : okL g lay) (HB : ML g lay o) (hX : ∀ k, k < 7 → E0 (o + k) = X k) (hw : wp_X5_allot X K) : JMv l g lay yX5_allot wsX5_allot rmX5_allot [.ref o] E0 (fun E1 => ∃ X1 : ES, E1 = put 7 o X1 E0 ∧ K X1) := by
  refine Met.ofW (cc := cX5_allot) (maxL := 6) (ret := none) (by decide) rfl ?_
  intro p e s m args below meth c s₁ B hml hv
  obtain ⟨rfl, hK, hW⟩ := hv
  have hx := B.exec
  have hb := B.bytes
  have hr := B.returns
  have hts := gd_of (atoms_spec (ws := wsX5_allot) B.pre)
  have hown : s.vm.findClass RX5 = some m.cls := findClass_of_methodNamed B.named
  have hlocks := B.notSynchronized
  have hS : va_S (Ab g) s.heap s.heap [] := va_S.rf
  have hW : Wd g lay (put 7 o X E0) s.heap := by rw [putSelf hX]; exact hW
  have hl := lv_entry [.ref o] (n := 6) (Nat.le_of_ble_eq_true rfl)
  rw [lg_entry_eq]
  generalize (lg_sl [.ref o] ++ List.replicate (6 - (lg_sl [.ref o]).length) Slot.unset).toArray = ls at hl ⊢
  have hl : lv_has ls 6 [(0, .ref o)] := hl
  unfold wp_X5_allot at hw
  refine lv_bipush (v := (-6)) hx hb dX5_allot_0 (by decide) ?_
  refine lv_istore_n (lv' := [(1, .int ((-6))), (0, .ref o)]) hx hb dX5_allot_2 rfl hl (by decide) rfl (fun ls hl => ?_)
  refine lv_iconst (v := 0) hx hb dX5_allot_3 (by decide) ?_
  refine lv_istore_n (lv' := [(2, .int 0), (1, .int ((-6))), (0, .ref o)]) hx hb dX5_allot_4 rfl hl (by decide) rfl (fun ls hl => ?_)
  obtain ⟨n_245, hw⟩ := hw
  refine w_loop (KT := Int32 → Int32 → Prop) (σ := Int32 × Int32) (Wl := fun Kx_5 n_5 q => wpl_X5_allot_5 X K Kx_5 n_5 q.1 q.2) (Pw := fun q => Wd g lay (put 7 o X E0)) (lvf := fun q => [(0, .ref o), (1, .int q.1), (2, .int q.2)]) (nL := 6) n_245 ((-6), 0) hw hW hS (lv_sub hl [2, 1, 0] rfl) (fun _ h => h) (fun Kx_5 eK_5 n_5 q H locs ls hw hW hS hl ih_5 => ?_)
  obtain ⟨i_1, i_2⟩ := q
  try dsimp only at hw
  rw [wpl_X5_allot_5] at hw
  have hl : lv_has ls 6 [(0, .ref o), (1, .int i_1), (2, .int i_2)] := hl
  have hW : Wd g lay (put 7 o X E0) H := hW
  refine lv_iload_n hx hb dX5_allot_5 rfl (lv_at hl 2 rfl) ?_
  refine lv_bipush (v := 16) hx hb dX5_allot_6 (by decide) ?_
  refine lv_icmp_ge (tgt := 50) hx hb dX5_allot_8 (by decide) (fun c_161 => ?_) (fun c_161 => ?_)
  · have hw := hw.1 c_161
    rw [eK_5] at hw
    refine lv_aload_n hx hb dX5_allot_50 rfl (lv_at hl 0 rfl) ?_
    refine g_X5_7 hx hb hown hts hK hW HB.1 (putAt (k := 0) (by decide)) dX5_allot_51 ?_
    refine lv_iconst (v := 3) hx hb dX5_allot_54 (by decide) ?_
    obtain ⟨hin, hw⟩ := hw
    refine w_iald hx hb hK hW HB.2.1 (putAt (k := 1) (by decide)) hin dX5_allot_55 ?_
    refine lv_if_ge (tgt := 63) hx hb dX5_allot_56 (by decide) (fun c_162 => ?_) (fun c_162 => ?_)
    · have hw := hw.1 c_162
      refine lv_aload_n hx hb dX5_allot_63 rfl (lv_at hl 0 rfl) ?_
      refine g_X5_7 hx hb hown hts hK hW HB.1 (putAt (k := 0) (by decide)) dX5_allot_64 ?_
      refine lv_iconst (v := 3) hx hb dX5_allot_67 (by decide) ?_
      obtain ⟨hin, hw⟩ := hw
      refine w_iald hx hb hK hW HB.2.1 (putAt (k := 1) (by decide)) hin dX5_allot_68 ?_
      refine lv_iconst (v := 1) hx hb dX5_allot_69 (by decide) ?_
      refine lv_iadd hx hb dX5_allot_70 ?_
      refine lv_topi (fun v_163 ev_163 => ?_)
      have hw := hw v_163 ev_163
      refine lv_istore_n (lv' := [(2, .int v_163), (0, .ref o), (1, .int i_1)]) hx hb dX5_allot_71 rfl hl (by decide) rfl (fun ls hl => ?_)
      refine lv_bipush (v := (-6)) hx hb dX5_allot_72 (by decide) ?_
      refine lv_istore_n (lv' := [(3, .int ((-6))), (2, .int v_163), (0, .ref o), (1, .int i_1)]) hx hb dX5_allot_74 rfl hl (by decide) rfl (fun ls hl => ?_)
      refine lv_aload_n hx hb dX5_allot_75 rfl (lv_at hl 2 rfl) ?_
      refine g_X5_7 hx hb hown hts hK hW HB.1 (putAt (k := 0) (by decide)) dX5_allot_76 ?_
      refine lv_iconst (v := 1) hx hb dX5_allot_79 (by decide) ?_
      obtain ⟨hin, hw⟩ := hw
      refine w_iald hx hb hK hW HB.2.1 (putAt (k := 1) (by decide)) hin dX5_allot_80 ?_
      refine lv_iconst (v := 1) hx hb dX5_allot_81 (by decide) ?_
      refine lv_isub hx hb dX5_allot_82 ?_
      refine lv_topi (fun v_164 ev_164 => ?_)
      have hw := hw v_164 ev_164
      refine lv_istore (lv' := [(4, .int v_164), (3, .int ((-6))), (2, .int v_163), (0, .ref o), (1, .int i_1)]) hx hb dX5_allot_83 hl (by decide) rfl (fun ls hl => ?_)
      obtain ⟨n_198, hw⟩ := hw
      refine w_loop (KT := Int32 → Int32 → Prop) (σ := Int32 × Int32) (Wl := fun Kx_85 n_85 q => wpl_X5_allot_85 X v_163 K Kx_85 n_85 q.1 q.2) (Pw := fun q => Wd g lay (put 7 o X E0)) (lvf := fun q => [(0, .ref o), (1, .int i_1), (2, .int v_163), (3, .int q.1), (4, .int q.2)]) (nL := 6) n_198 ((-6), v_164) hw hW hS (lv_sub hl [3, 4, 2, 1, 0] rfl) (fun _ h => h) (fun Kx_85 eK_85 n_85 q H locs ls hw hW hS hl ih_85 => ?_)
      obtain ⟨i_165, i_166⟩ := q
      try dsimp only at hw
      rw [wpl_X5_allot_85] at hw
      have hl : lv_has ls 6 [(0, .ref o), (1, .int i_1), (2, .int v_163), (3, .int i_165), (4, .int i_166)] := hl
      have hW : Wd g lay (put 7 o X E0) H := hW
      refine lv_iload hx hb dX5_allot_85 (lv_at hl 4 rfl) ?_
      refine lv_if_lt (tgt := 126) hx hb dX5_allot_87 (by decide) (fun c_187 => ?_) (fun c_187 => ?_)
      · have hw := hw.1 c_187
        rw [eK_85] at hw
        refine lv_iload_n hx hb dX5_allot_126 rfl (lv_at hl 1 rfl) ?_
        refine lv_if_lt (tgt := 155) hx hb dX5_allot_127 (by decide) (fun c_188 => ?_) (fun c_188 => ?_)
        · have hw := hw.1 c_188
          exact w_vret hx hb hr hlocks hW hS ⟨X, rfl, hw⟩ dX5_allot_155
        · have hw := hw.2 c_188
          refine lv_iload_n hx hb dX5_allot_130 rfl (lv_at hl 3 rfl) ?_
          refine lv_if_lt (tgt := 155) hx hb dX5_allot_131 (by decide) (fun c_189 => ?_) (fun c_189 => ?_)
          · have hw := hw.1 c_189
            exact w_vret hx hb hr hlocks hW hS ⟨X, rfl, hw⟩ dX5_allot_155
          · have hw := hw.2 c_189
            refine lv_aload_n hx hb dX5_allot_134 rfl (lv_at hl 0 rfl) ?_
            refine lv_iload_n hx hb dX5_allot_135 rfl (lv_at hl 3 rfl) ?_
            refine lv_iconst (v := 0) hx hb dX5_allot_136 (by decide) ?_
            refine lv_iconst (v := 1) hx hb dX5_allot_137 (by decide) ?_
            refine w_cvv (As := [.int i_165, .int 0, .int 1]) (rest := []) hx hb hml hown hts hK hW hS hl.1 (c_X5_layFinder hA HB (fun k hk => putAt hk)  hw) (k_X5_45 hts ⟨Nat.le_of_ble_eq_true rfl, Nat.le_of_ble_eq_true rfl⟩) (w_recv hK hW HB.1 (putAt (k := 0) (by decide)) rfl rfl) rfl rfl (Nat.le_of_ble_eq_true rfl) dX5_allot_138 ⟨Nat.zero_le _, Nat.zero_le _⟩ (fun Ez H locs hw2 hW hS => ?_)
            obtain ⟨X_190, ez, hw⟩ := hw2
            rw [ez, putPut] at hW
            refine lv_aload_n hx hb dX5_allot_141 rfl (lv_at hl 0 rfl) ?_
            refine lv_iload_n hx hb dX5_allot_142 rfl (lv_at hl 3 rfl) ?_
            refine lv_iconst (v := 2) hx hb dX5_allot_143 (by decide) ?_
            refine lv_iload_n hx hb dX5_allot_144 rfl (lv_at hl 1 rfl) ?_
            refine w_cvv (As := [.int i_165, .int 2, .int i_1]) (rest := []) hx hb hml hown hts hK hW hS hl.1 (c_X5_layFinder hA HB (fun k hk => putAt hk)  hw) (k_X5_45 hts ⟨Nat.le_of_ble_eq_true rfl, Nat.le_of_ble_eq_true rfl⟩) (w_recv hK hW HB.1 (putAt (k := 0) (by decide)) rfl rfl) rfl rfl (Nat.le_of_ble_eq_true rfl) dX5_allot_145 ⟨Nat.zero_le _, Nat.zero_le _⟩ (fun Ez H locs hw2 hW hS => ?_)
            obtain ⟨X_191, ez, hw⟩ := hw2
            rw [ez, putPut] at hW
            refine lv_aload_n hx hb dX5_allot_148 rfl (lv_at hl 0 rfl) ?_
            refine g_X5_7 hx hb hown hts hK hW HB.1 (putAt (k := 0) (by decide)) dX5_allot_149 ?_
            refine lv_iconst (v := 3) hx hb dX5_allot_152 (by decide) ?_
            refine lv_iload_n hx hb dX5_allot_153 rfl (lv_at hl 3 rfl) ?_
            obtain ⟨hin, hw⟩ := hw
            obtain ⟨X_192, eX_192⟩ : ∃ z : ES, z = va_up X_191 1 (upd (X_191 1) (3 : Int32).toNatClampNeg i_165) := ⟨_, rfl⟩
            have hw := hw X_192 eX_192
            refine w_iast (E1 := put 7 o X_192 E0) hx hb hK hA hW hS HB.2.1 (putAt (k := 1) (by decide)) hin dX5_allot_154 (puE (k := 1) (by decide) eX_192) (fun H locs hW hS => ?_)
            exact w_vret hx hb hr hlocks hW hS ⟨X_192, rfl, hw⟩ dX5_allot_155
      · have hw := hw.2 c_187
        refine lv_iload_n hx hb dX5_allot_90 rfl (lv_at hl 2 rfl) ?_
        refine lv_iload hx hb dX5_allot_91 (lv_at hl 4 rfl) ?_
        refine lv_iadd hx hb dX5_allot_93 ?_
        refine lv_aload_n hx hb dX5_allot_94 rfl (lv_at hl 0 rfl) ?_
        refine g_X5_7 hx hb hown hts hK hW HB.1 (putAt (k := 0) (by decide)) dX5_allot_95 ?_
        refine lv_iconst (v := 1) hx hb dX5_allot_98 (by decide) ?_
        obtain ⟨hin, hw⟩ := hw
        refine w_iald hx hb hK hW HB.2.1 (putAt (k := 1) (by decide)) hin dX5_allot_99 ?_
        obtain ⟨hnz, hw⟩ := hw
        refine lv_irem hx hb dX5_allot_100 hnz ?_
        refine lv_topi (fun v_193 ev_193 => ?_)
        have hw := hw v_193 ev_193
        refine lv_istore (lv' := [(5, .int v_193), (0, .ref o), (1, .int i_1), (2, .int v_163), (3, .int i_165), (4, .int i_166)]) hx hb dX5_allot_101 hl (by decide) rfl (fun ls hl => ?_)
        refine lv_aload_n hx hb dX5_allot_103 rfl (lv_at hl 1 rfl) ?_
        refine lv_iload hx hb dX5_allot_104 (lv_at hl 0 rfl) ?_
        refine lv_iconst (v := 0) hx hb dX5_allot_106 (by decide) ?_
        refine w_cvi (As := [.int v_193, .int 0]) (rest := []) hx hb hml hown hts hK hW hS hl.1 (c_X5_ofFinder hA HB (fun k hk => putAt hk)  hw) (k_X5_41 hts ⟨Nat.le_of_ble_eq_true rfl, Nat.le_of_ble_eq_true rfl⟩) (w_recv hK hW HB.1 (putAt (k := 0) (by decide)) rfl rfl) rfl rfl (Nat.le_of_ble_eq_true rfl) dX5_allot_107 ⟨Nat.zero_le _, Nat.zero_le _⟩ (fun r_194 Ez H locs hw2 hW hS => ?_)
        obtain ⟨ez, hw⟩ := hw2
        rw [ez] at hW
        refine lv_if_ne (tgt := 118) hx hb dX5_allot_110 (by decide) (fun c_195 => ?_) (fun c_195 => ?_)
        · have hw := hw.2 c_195
          refine lv_iload_n hx hb dX5_allot_118 rfl (lv_at hl 4 rfl) ?_
          refine lv_istore_n (lv' := [(3, .int i_165), (5, .int v_193), (0, .ref o), (1, .int i_1), (2, .int v_163), (4, .int i_166)]) hx hb dX5_allot_119 rfl hl (by decide) rfl (fun ls hl => ?_)
          obtain ⟨v_196, ev_196⟩ : ∃ z : Int32, z = i_166 + (-1) := ⟨_, rfl⟩
          have hw := hw v_196 ev_196
          refine lv_iinc (v := v_196) (lv' := [(4, .int v_196), (3, .int i_165), (5, .int v_193), (0, .ref o), (1, .int i_1), (2, .int v_163)]) hx hb dX5_allot_120 hl (k := 5) rfl (by rw [ev_196]; rfl) (by decide) rfl (fun ls hl => ?_)
          refine lv_goto (tgt := 85) hx hb dX5_allot_123 (by decide) ?_
          exact ih_85 (i_165, v_196) _ _ _ hw hW hS (lv_sub hl [3, 4, 5, 1, 0] rfl)
        · have hw := hw.1 c_195
          refine lv_iload hx hb dX5_allot_113 (lv_at hl 0 rfl) ?_
          refine lv_goto (tgt := 119) hx hb dX5_allot_115 (by decide) ?_
          refine lv_istore_n (lv' := [(3, .int v_193), (5, .int v_193), (0, .ref o), (1, .int i_1), (2, .int v_163), (4, .int i_166)]) hx hb dX5_allot_119 rfl hl (by decide) rfl (fun ls hl => ?_)
          obtain ⟨v_197, ev_197⟩ : ∃ z : Int32, z = i_166 + (-1) := ⟨_, rfl⟩
          have hw := hw v_197 ev_197
          refine lv_iinc (v := v_197) (lv' := [(4, .int v_197), (3, .int v_193), (5, .int v_193), (0, .ref o), (1, .int i_1), (2, .int v_163)]) hx hb dX5_allot_120 hl (k := 5) rfl (by rw [ev_197]; rfl) (by decide) rfl (fun ls hl => ?_)
          refine lv_goto (tgt := 85) hx hb dX5_allot_123 (by decide) ?_
          exact ih_85 (v_193, v_197) _ _ _ hw hW hS (lv_sub hl [3, 4, 5, 1, 0] rfl)
    · have hw := hw.2 c_162
      refine lv_iconst (v := 0) hx hb dX5_allot_59 (by decide) ?_
      refine lv_goto (tgt := 71) hx hb dX5_allot_60 (by decide) ?_
      refine lv_istore_n (lv' := [(2, .int 0), (0, .ref o), (1, .int i_1)]) hx hb dX5_allot_71 rfl hl (by decide) rfl (fun ls hl => ?_)
      refine lv_bipush (v := (-6)) hx hb dX5_allot_72 (by decide) ?_
      refine lv_istore_n (lv' := [(3, .int ((-6))), (2, .int 0), (0, .ref o), (1, .int i_1)]) hx hb dX5_allot_74 rfl hl (by decide) rfl (fun ls hl => ?_)
      refine lv_aload_n hx hb dX5_allot_75 rfl (lv_at hl 2 rfl) ?_
      refine g_X5_7 hx hb hown hts hK hW HB.1 (putAt (k := 0) (by decide)) dX5_allot_76 ?_
      refine lv_iconst (v := 1) hx hb dX5_allot_79 (by decide) ?_
      obtain ⟨hin, hw⟩ := hw
      refine w_iald hx hb hK hW HB.2.1 (putAt (k := 1) (by decide)) hin dX5_allot_80 ?_
      refine lv_iconst (v := 1) hx hb dX5_allot_81 (by decide) ?_
      refine lv_isub hx hb dX5_allot_82 ?_
      refine lv_topi (fun v_199 ev_199 => ?_)
      have hw := hw v_199 ev_199
      refine lv_istore (lv' := [(4, .int v_199), (3, .int ((-6))), (2, .int 0), (0, .ref o), (1, .int i_1)]) hx hb dX5_allot_83 hl (by decide) rfl (fun ls hl => ?_)
      obtain ⟨n_233, hw⟩ := hw
      refine w_loop (KT := Int32 → Int32 → Prop) (σ := Int32 × Int32) (Wl := fun Kx_85 n_85 q => wpl_X5_allot_85 X 0 K Kx_85 n_85 q.1 q.2) (Pw := fun q => Wd g lay (put 7 o X E0)) (lvf := fun q => [(0, .ref o), (1, .int i_1), (2, .int 0), (3, .int q.1), (4, .int q.2)]) (nL := 6) n_233 ((-6), v_199) hw hW hS (lv_sub hl [3, 4, 2, 1, 0] rfl) (fun _ h => h) (fun Kx_85 eK_85 n_85 q H locs ls hw hW hS hl ih_85 => ?_)
      obtain ⟨i_200, i_201⟩ := q
      try dsimp only at hw
      rw [wpl_X5_allot_85] at hw
      have hl : lv_has ls 6 [(0, .ref o), (1, .int i_1), (2, .int 0), (3, .int i_200), (4, .int i_201)] := hl
      have hW : Wd g lay (put 7 o X E0) H := hW
      refine lv_iload hx hb dX5_allot_85 (lv_at hl 4 rfl) ?_
      refine lv_if_lt (tgt := 126) hx hb dX5_allot_87 (by decide) (fun c_222 => ?_) (fun c_222 => ?_)
      · have hw := hw.1 c_222
        rw [eK_85] at hw
        refine lv_iload_n hx hb dX5_allot_126 rfl (lv_at hl 1 rfl) ?_
        refine lv_if_lt (tgt := 155) hx hb dX5_allot_127 (by decide) (fun c_223 => ?_) (fun c_223 => ?_)
        · have hw := hw.1 c_223
          exact w_vret hx hb hr hlocks hW hS ⟨X, rfl, hw⟩ dX5_allot_155
        · have hw := hw.2 c_223
          refine lv_iload_n hx hb dX5_allot_130 rfl (lv_at hl 3 rfl) ?_
          refine lv_if_lt (tgt := 155) hx hb dX5_allot_131 (by decide) (fun c_224 => ?_) (fun c_224 => ?_)
          · have hw := hw.1 c_224
            exact w_vret hx hb hr hlocks hW hS ⟨X, rfl, hw⟩ dX5_allot_155
          · have hw := hw.2 c_224
            refine lv_aload_n hx hb dX5_allot_134 rfl (lv_at hl 0 rfl) ?_
            refine lv_iload_n hx hb dX5_allot_135 rfl (lv_at hl 3 rfl) ?_
            refine lv_iconst (v := 0) hx hb dX5_allot_136 (by decide) ?_
            refine lv_iconst (v := 1) hx hb dX5_allot_137 (by decide) ?_
            refine w_cvv (As := [.int i_200, .int 0, .int 1]) (rest := []) hx hb hml hown hts hK hW hS hl.1 (c_X5_layFinder hA HB (fun k hk => putAt hk)  hw) (k_X5_45 hts ⟨Nat.le_of_ble_eq_true rfl, Nat.le_of_ble_eq_true rfl⟩) (w_recv hK hW HB.1 (putAt (k := 0) (by decide)) rfl rfl) rfl rfl (Nat.le_of_ble_eq_true rfl) dX5_allot_138 ⟨Nat.zero_le _, Nat.zero_le _⟩ (fun Ez H locs hw2 hW hS => ?_)
            obtain ⟨X_225, ez, hw⟩ := hw2
            rw [ez, putPut] at hW
            refine lv_aload_n hx hb dX5_allot_141 rfl (lv_at hl 0 rfl) ?_
            refine lv_iload_n hx hb dX5_allot_142 rfl (lv_at hl 3 rfl) ?_
            refine lv_iconst (v := 2) hx hb dX5_allot_143 (by decide) ?_
            refine lv_iload_n hx hb dX5_allot_144 rfl (lv_at hl 1 rfl) ?_
            refine w_cvv (As := [.int i_200, .int 2, .int i_1]) (rest := []) hx hb hml hown hts hK hW hS hl.1 (c_X5_layFinder hA HB (fun k hk => putAt hk)  hw) (k_X5_45 hts ⟨Nat.le_of_ble_eq_true rfl, Nat.le_of_ble_eq_true rfl⟩) (w_recv hK hW HB.1 (putAt (k := 0) (by decide)) rfl rfl) rfl rfl (Nat.le_of_ble_eq_true rfl) dX5_allot_145 ⟨Nat.zero_le _, Nat.zero_le _⟩ (fun Ez H locs hw2 hW hS => ?_)
            obtain ⟨X_226, ez, hw⟩ := hw2
            rw [ez, putPut] at hW
            refine lv_aload_n hx hb dX5_allot_148 rfl (lv_at hl 0 rfl) ?_
            refine g_X5_7 hx hb hown hts hK hW HB.1 (putAt (k := 0) (by decide)) dX5_allot_149 ?_
            refine lv_iconst (v := 3) hx hb dX5_allot_152 (by decide) ?_
            refine lv_iload_n hx hb dX5_allot_153 rfl (lv_at hl 3 rfl) ?_
            obtain ⟨hin, hw⟩ := hw
            obtain ⟨X_227, eX_227⟩ : ∃ z : ES, z = va_up X_226 1 (upd (X_226 1) (3 : Int32).toNatClampNeg i_200) := ⟨_, rfl⟩
            have hw := hw X_227 eX_227
            refine w_iast (E1 := put 7 o X_227 E0) hx hb hK hA hW hS HB.2.1 (putAt (k := 1) (by decide)) hin dX5_allot_154 (puE (k := 1) (by decide) eX_227) (fun H locs hW hS => ?_)
            exact w_vret hx hb hr hlocks hW hS ⟨X_227, rfl, hw⟩ dX5_allot_155
      · have hw := hw.2 c_222
        refine lv_iload_n hx hb dX5_allot_90 rfl (lv_at hl 2 rfl) ?_
        refine lv_iload hx hb dX5_allot_91 (lv_at hl 4 rfl) ?_
        refine lv_iadd hx hb dX5_allot_93 ?_
        refine lv_aload_n hx hb dX5_allot_94 rfl (lv_at hl 0 rfl) ?_
        refine g_X5_7 hx hb hown hts hK hW HB.1 (putAt (k := 0) (by decide)) dX5_allot_95 ?_
        refine lv_iconst (v := 1) hx hb dX5_allot_98 (by decide) ?_
        obtain ⟨hin, hw⟩ := hw
        refine w_iald hx hb hK hW HB.2.1 (putAt (k := 1) (by decide)) hin dX5_allot_99 ?_
        obtain ⟨hnz, hw⟩ := hw
        refine lv_irem hx hb dX5_allot_100 hnz ?_
        refine lv_topi (fun v_228 ev_228 => ?_)
        have hw := hw v_228 ev_228
        refine lv_istore (lv' := [(5, .int v_228), (0, .ref o), (1, .int i_1), (2, .int 0), (3, .int i_200), (4, .int i_201)]) hx hb dX5_allot_101 hl (by decide) rfl (fun ls hl => ?_)
        refine lv_aload_n hx hb dX5_allot_103 rfl (lv_at hl 1 rfl) ?_
        refine lv_iload hx hb dX5_allot_104 (lv_at hl 0 rfl) ?_
        refine lv_iconst (v := 0) hx hb dX5_allot_106 (by decide) ?_
        refine w_cvi (As := [.int v_228, .int 0]) (rest := []) hx hb hml hown hts hK hW hS hl.1 (c_X5_ofFinder hA HB (fun k hk => putAt hk)  hw) (k_X5_41 hts ⟨Nat.le_of_ble_eq_true rfl, Nat.le_of_ble_eq_true rfl⟩) (w_recv hK hW HB.1 (putAt (k := 0) (by decide)) rfl rfl) rfl rfl (Nat.le_of_ble_eq_true rfl) dX5_allot_107 ⟨Nat.zero_le _, Nat.zero_le _⟩ (fun r_229 Ez H locs hw2 hW hS => ?_)
        obtain ⟨ez, hw⟩ := hw2
        rw [ez] at hW
        refine lv_if_ne (tgt := 118) hx hb dX5_allot_110 (by decide) (fun c_230 => ?_) (fun c_230 => ?_)
        · have hw := hw.2 c_230
          refine lv_iload_n hx hb dX5_allot_118 rfl (lv_at hl 4 rfl) ?_
          refine lv_istore_n (lv' := [(3, .int i_200), (5, .int v_228), (0, .ref o), (1, .int i_1), (2, .int 0), (4, .int i_201)]) hx hb dX5_allot_119 rfl hl (by decide) rfl (fun ls hl => ?_)
          obtain ⟨v_231, ev_231⟩ : ∃ z : Int32, z = i_201 + (-1) := ⟨_, rfl⟩
          have hw := hw v_231 ev_231
          refine lv_iinc (v := v_231) (lv' := [(4, .int v_231), (3, .int i_200), (5, .int v_228), (0, .ref o), (1, .int i_1), (2, .int 0)]) hx hb dX5_allot_120 hl (k := 5) rfl (by rw [ev_231]; rfl) (by decide) rfl (fun ls hl => ?_)
          refine lv_goto (tgt := 85) hx hb dX5_allot_123 (by decide) ?_
          exact ih_85 (i_200, v_231) _ _ _ hw hW hS (lv_sub hl [3, 4, 5, 1, 0] rfl)
        · have hw := hw.1 c_230
          refine lv_iload hx hb dX5_allot_113 (lv_at hl 0 rfl) ?_
          refine lv_goto (tgt := 119) hx hb dX5_allot_115 (by decide) ?_
          refine lv_istore_n (lv' := [(3, .int v_228), (5, .int v_228), (0, .ref o), (1, .int i_1), (2, .int 0), (4, .int i_201)]) hx hb dX5_allot_119 rfl hl (by decide) rfl (fun ls hl => ?_)
          obtain ⟨v_232, ev_232⟩ : ∃ z : Int32, z = i_201 + (-1) := ⟨_, rfl⟩
          have hw := hw v_232 ev_232
          refine lv_iinc (v := v_232) (lv' := [(4, .int v_232), (3, .int v_228), (5, .int v_228), (0, .ref o), (1, .int i_1), (2, .int 0)]) hx hb dX5_allot_120 hl (k := 5) rfl (by rw [ev_232]; rfl) (by decide) rfl (fun ls hl => ?_)
          refine lv_goto (tgt := 85) hx hb dX5_allot_123 (by decide) ?_
          exact ih_85 (v_228, v_232) _ _ _ hw hW hS (lv_sub hl [3, 4, 5, 1, 0] rfl)
  · have hw := hw.2 c_161
    refine lv_aload_n hx hb dX5_allot_11 rfl (lv_at hl 0 rfl) ?_
    refine lv_iload_n hx hb dX5_allot_12 rfl (lv_at hl 2 rfl) ?_
    refine w_cvi (As := [.int i_2]) (rest := []) hx hb hml hown hts hK hW hS hl.1 (c_X5_isQueued hA HB (fun k hk => putAt hk)  hw) (k_X5_127 hts ⟨Nat.le_of_ble_eq_true rfl, Nat.le_of_ble_eq_true rfl⟩) (w_recv hK hW HB.1 (putAt (k := 0) (by decide)) rfl rfl) rfl rfl (Nat.le_of_ble_eq_true rfl) dX5_allot_13 ⟨Nat.zero_le _, Nat.zero_le _⟩ (fun r_234 Ez H locs hw2 hW hS => ?_)
    obtain ⟨ez, z_235, hw⟩ := hw2
    rw [ez] at hW
    refine lv_if_eq (tgt := 42) hx hb dX5_allot_16 (by decide) (fun c_236 => ?_) (fun c_236 => ?_)
    · have hw := hw.1 c_236
      refine lv_iload_n hx hb dX5_allot_42 rfl (lv_at hl 1 rfl) ?_
      refine lv_istore_n (lv' := [(1, .int i_1), (0, .ref o), (2, .int i_2)]) hx hb dX5_allot_43 rfl hl (by decide) rfl (fun ls hl => ?_)
      obtain ⟨v_237, ev_237⟩ : ∃ z : Int32, z = i_2 + 1 := ⟨_, rfl⟩
      have hw := hw v_237 ev_237
      refine lv_iinc (v := v_237) (lv' := [(2, .int v_237), (1, .int i_1), (0, .ref o)]) hx hb dX5_allot_44 hl (k := 2) rfl (by rw [ev_237]; rfl) (by decide) rfl (fun ls hl => ?_)
      refine lv_goto (tgt := 5) hx hb dX5_allot_47 (by decide) ?_
      exact ih_5 (i_1, v_237) _ _ _ hw hW hS (lv_sub hl [2, 1, 0] rfl)
    · have hw := hw.2 c_236
      refine lv_iload_n hx hb dX5_allot_19 rfl (lv_at hl 1 rfl) ?_
      refine lv_if_lt (tgt := 38) hx hb dX5_allot_20 (by decide) (fun c_238 => ?_) (fun c_238 => ?_)
      · have hw := hw.1 c_238
        refine lv_iload_n hx hb dX5_allot_38 rfl (lv_at hl 2 rfl) ?_
        refine lv_goto (tgt := 43) hx hb dX5_allot_39 (by decide) ?_
        refine lv_istore_n (lv' := [(1, .int i_2), (0, .ref o), (2, .int i_2)]) hx hb dX5_allot_43 rfl hl (by decide) rfl (fun ls hl => ?_)
        obtain ⟨v_239, ev_239⟩ : ∃ z : Int32, z = i_2 + 1 := ⟨_, rfl⟩
        have hw := hw v_239 ev_239
        refine lv_iinc (v := v_239) (lv' := [(2, .int v_239), (1, .int i_2), (0, .ref o)]) hx hb dX5_allot_44 hl (k := 2) rfl (by rw [ev_239]; rfl) (by decide) rfl (fun ls hl => ?_)
        refine lv_goto (tgt := 5) hx hb dX5_allot_47 (by decide) ?_
        exact ih_5 (i_2, v_239) _ _ _ hw hW hS (lv_sub hl [2, 1, 0] rfl)
      · have hw := hw.2 c_238
        refine lv_aload_n hx hb dX5_allot_23 rfl (lv_at hl 0 rfl) ?_
        refine lv_iload_n hx hb dX5_allot_24 rfl (lv_at hl 2 rfl) ?_
        refine lv_iconst (v := 4) hx hb dX5_allot_25 (by decide) ?_
        refine w_cvi (As := [.int i_2, .int 4]) (rest := []) hx hb hml hown hts hK hW hS hl.1 (c_X5_of hA HB (fun k hk => putAt hk)  hw) (k_X5_67 hts ⟨Nat.le_of_ble_eq_true rfl, Nat.le_of_ble_eq_true rfl⟩) (w_recv hK hW HB.1 (putAt (k := 0) (by decide)) rfl rfl) rfl rfl (Nat.le_of_ble_eq_true rfl) dX5_allot_26 ⟨Nat.zero_le _, Nat.zero_le _⟩ (fun r_240 Ez H locs hw2 hW hS => ?_)
        obtain ⟨ez, hw⟩ := hw2
        rw [ez] at hW
        refine lv_aload_n hx hb dX5_allot_29 rfl (lv_at hl 0 rfl) ?_
        refine lv_iload_n hx hb dX5_allot_30 rfl (lv_at hl 1 rfl) ?_
        refine lv_iconst (v := 4) hx hb dX5_allot_31 (by decide) ?_
        refine w_cvi (As := [.int i_1, .int 4]) (rest := [.int r_240]) hx hb hml hown hts hK hW hS hl.1 (c_X5_of hA HB (fun k hk => putAt hk)  hw) (k_X5_67 hts ⟨Nat.le_of_ble_eq_true rfl, Nat.le_of_ble_eq_true rfl⟩) (w_recv hK hW HB.1 (putAt (k := 0) (by decide)) rfl rfl) rfl rfl (Nat.le_of_ble_eq_true rfl) dX5_allot_32 ⟨Nat.zero_le _, Nat.zero_le _⟩ (fun r_241 Ez H locs hw2 hW hS => ?_)
        obtain ⟨ez, hw⟩ := hw2
        rw [ez] at hW
        refine lv_icmp_ge (tgt := 42) hx hb dX5_allot_35 (by decide) (fun c_242 => ?_) (fun c_242 => ?_)
        · have hw := hw.1 c_242
          refine lv_iload_n hx hb dX5_allot_42 rfl (lv_at hl 1 rfl) ?_
          refine lv_istore_n (lv' := [(1, .int i_1), (0, .ref o), (2, .int i_2)]) hx hb dX5_allot_43 rfl hl (by decide) rfl (fun ls hl => ?_)
          obtain ⟨v_243, ev_243⟩ : ∃ z : Int32, z = i_2 + 1 := ⟨_, rfl⟩
          have hw := hw v_243 ev_243
          refine lv_iinc (v := v_243) (lv' := [(2, .int v_243), (1, .int i_1), (0, .ref o)]) hx hb dX5_allot_44 hl (k := 2) rfl (by rw [ev_243]; rfl) (by decide) rfl (fun ls hl => ?_)
          refine lv_goto (tgt := 5) hx hb dX5_allot_47 (by decide) ?_
          exact ih_5 (i_1, v_243) _ _ _ hw hW hS (lv_sub hl [2, 1, 0] rfl)
        · have hw := hw.2 c_242
          refine lv_iload_n hx hb dX5_allot_38 rfl (lv_at hl 2 rfl) ?_
          refine lv_goto (tgt := 43) hx hb dX5_allot_39 (by decide) ?_
          refine lv_istore_n (lv' := [(1, .int i_2), (0, .ref o), (2, .int i_2)]) hx hb dX5_allot_43 rfl hl (by decide) rfl (fun ls hl => ?_)
          obtain ⟨v_244, ev_244⟩ : ∃ z : Int32, z = i_2 + 1 := ⟨_, rfl⟩
          have hw := hw v_244 ev_244
          refine lv_iinc (v := v_244) (lv' := [(2, .int v_244), (1, .int i_2), (0, .ref o)]) hx hb dX5_allot_44 hl (k := 2) rfl (by rw [ev_244]; rfl) (by decide) rfl (fun ls hl => ?_)
          refine lv_goto (tgt := 5) hx hb dX5_allot_47 (by decide) ?_
          exact ih_5 (i_2, v_244) _ _ _ hw hW hS (lv_sub hl [2, 1, 0] rfl)
set_option maxHeartbeats 4000000 in
set_option maxRecDepth 100000 in
theorem c_X5_makeTick {l : Launch} {g : GG} {lay : LY} {E0 : ES} {o : Nat} {X : ES} {K : ES → Prop} (hA : okL g lay) (HB : ML g lay o) (hX : ∀ k, k < 7 → E0 (o + k) = X k) (hw : wp_X5_makeTick X K) : JMv l g lay yX5_makeTick wsX5_makeTick rmX5_makeTick [.ref o] E0 (fun E1 => ∃ X1 : ES, E1 = put 7 o X1 E0 ∧ K X1) := by
  refine Met.ofW (cc := cX5_makeTick) (maxL := 2) (ret := none) (by decide) rfl ?_
  intro p e s m args below meth c s₁ B hml hv
  obtain ⟨rfl, hK, hW⟩ := hv
  have hx := B.exec
  have hb := B.bytes
  have hr := B.returns
  have hts := gd_of (atoms_spec (ws := wsX5_makeTick) B.pre)
  have hown : s.vm.findClass RX5 = some m.cls := findClass_of_methodNamed B.named
  have hlocks := B.notSynchronized
  have hS : va_S (Ab g) s.heap s.heap [] := va_S.rf
  have hW : Wd g lay (put 7 o X E0) s.heap := by rw [putSelf hX]; exact hW
  have hl := lv_entry [.ref o] (n := 2) (Nat.le_of_ble_eq_true rfl)
  rw [lg_entry_eq]
  generalize (lg_sl [.ref o] ++ List.replicate (2 - (lg_sl [.ref o]).length) Slot.unset).toArray = ls at hl ⊢
  have hl : lv_has ls 2 [(0, .ref o)] := hl
  unfold wp_X5_makeTick at hw
  refine lv_iconst (v := 0) hx hb dX5_makeTick_0 (by decide) ?_
  refine lv_istore_n (lv' := [(1, .int 0), (0, .ref o)]) hx hb dX5_makeTick_1 rfl hl (by decide) rfl (fun ls hl => ?_)
  obtain ⟨n_116, hw⟩ := hw
  refine w_loop (KT := Int32 → ES → Prop) (σ := Int32 × ES) (Wl := fun Kx_2 n_2 q => wpl_X5_makeTick_2 K Kx_2 n_2 q.1 q.2) (Pw := fun q => Wd g lay (put 7 o q.2 E0)) (lvf := fun q => [(0, .ref o), (1, .int q.1)]) (nL := 2) n_116 (0, X) hw hW hS (lv_sub hl [1, 0] rfl) (fun _ h => h) (fun Kx_2 eK_2 n_2 q H locs ls hw hW hS hl ih_2 => ?_)
  obtain ⟨i_1, X_2⟩ := q
  try dsimp only at hw
  rw [wpl_X5_makeTick_2] at hw
  have hl : lv_has ls 2 [(0, .ref o), (1, .int i_1)] := hl
  have hW : Wd g lay (put 7 o X_2 E0) H := hW
  refine lv_iload_n hx hb dX5_makeTick_2 rfl (lv_at hl 1 rfl) ?_
  refine lv_aload_n hx hb dX5_makeTick_3 rfl (lv_at hl 0 rfl) ?_
  refine g_X5_7 hx hb hown hts hK hW HB.1 (putAt (k := 0) (by decide)) dX5_makeTick_4 ?_
  refine lv_iconst (v := 1) hx hb dX5_makeTick_7 (by decide) ?_
  obtain ⟨hin, hw⟩ := hw
  refine w_iald hx hb hK hW HB.2.1 (putAt (k := 1) (by decide)) hin dX5_makeTick_8 ?_
  refine lv_icmp_ge (tgt := 23) hx hb dX5_makeTick_9 (by decide) (fun c_78 => ?_) (fun c_78 => ?_)
  · have hw := hw.1 c_78
    rw [eK_2] at hw
    refine lv_aload_n hx hb dX5_makeTick_23 rfl (lv_at hl 0 rfl) ?_
    refine w_cvv (As := []) (rest := []) hx hb hml hown hts hK hW hS hl.1 (c_X5_allot hA HB (fun k hk => putAt hk)  hw) (k_X5_133 hts ⟨Nat.le_of_ble_eq_true rfl, Nat.le_of_ble_eq_true rfl⟩) (w_recv hK hW HB.1 (putAt (k := 0) (by decide)) rfl rfl) rfl rfl (Nat.le_of_ble_eq_true rfl) dX5_makeTick_24 ⟨Nat.zero_le _, Nat.zero_le _⟩ (fun Ez H locs hw2 hW hS => ?_)
    obtain ⟨X_79, ez, hw⟩ := hw2
    rw [ez, putPut] at hW
    refine lv_iconst (v := 0) hx hb dX5_makeTick_27 (by decide) ?_
    refine lv_istore_n (lv' := [(1, .int 0), (0, .ref o)]) hx hb dX5_makeTick_28 rfl hl (by decide) rfl (fun ls hl => ?_)
    obtain ⟨n_113, hw⟩ := hw
    refine w_loop (KT := Int32 → ES → Prop) (σ := Int32 × ES) (Wl := fun Kx_29 n_29 q => wpl_X5_makeTick_29 K Kx_29 n_29 q.1 q.2) (Pw := fun q => Wd g lay (put 7 o q.2 E0)) (lvf := fun q => [(0, .ref o), (1, .int q.1)]) (nL := 2) n_113 (0, X_79) hw hW hS (lv_sub hl [1, 0] rfl) (fun _ h => h) (fun Kx_29 eK_29 n_29 q H locs ls hw hW hS hl ih_29 => ?_)
    obtain ⟨i_80, X_81⟩ := q
    try dsimp only at hw
    rw [wpl_X5_makeTick_29] at hw
    have hl : lv_has ls 2 [(0, .ref o), (1, .int i_80)] := hl
    have hW : Wd g lay (put 7 o X_81 E0) H := hW
    refine lv_iload_n hx hb dX5_makeTick_29 rfl (lv_at hl 1 rfl) ?_
    refine lv_bipush (v := 16) hx hb dX5_makeTick_30 (by decide) ?_
    refine lv_icmp_ge (tgt := 93) hx hb dX5_makeTick_32 (by decide) (fun c_99 => ?_) (fun c_99 => ?_)
    · have hw := hw.1 c_99
      rw [eK_29] at hw
      refine lv_aload_n hx hb dX5_makeTick_93 rfl (lv_at hl 0 rfl) ?_
      refine g_X5_7 hx hb hown hts hK hW HB.1 (putAt (k := 0) (by decide)) dX5_makeTick_94 ?_
      refine lv_iconst (v := 0) hx hb dX5_makeTick_97 (by decide) ?_
      refine lv_dup2_11 hx hb dX5_makeTick_98 rfl rfl ?_
      obtain ⟨hin, hw⟩ := hw
      refine w_iald hx hb hK hW HB.2.1 (putAt (k := 1) (by decide)) hin dX5_makeTick_99 ?_
      refine lv_iconst (v := 1) hx hb dX5_makeTick_100 (by decide) ?_
      refine lv_iadd hx hb dX5_makeTick_101 ?_
      obtain ⟨hin, hw⟩ := hw
      obtain ⟨X_100, eX_100⟩ : ∃ z : ES, z = va_up X_81 1 (upd (X_81 1) (0 : Int32).toNatClampNeg (((X_81 1) (0 : Int32).toNatClampNeg) + 1)) := ⟨_, rfl⟩
      have hw := hw X_100 eX_100
      refine w_iast (E1 := put 7 o X_100 E0) hx hb hK hA hW hS HB.2.1 (putAt (k := 1) (by decide)) hin dX5_makeTick_102 (puE (k := 1) (by decide) eX_100) (fun H locs hW hS => ?_)
      exact w_vret hx hb hr hlocks hW hS ⟨X_100, rfl, hw⟩ dX5_makeTick_103
    · have hw := hw.2 c_99
      refine lv_aload_n hx hb dX5_makeTick_35 rfl (lv_at hl 0 rfl) ?_
      refine lv_iload_n hx hb dX5_makeTick_36 rfl (lv_at hl 1 rfl) ?_
      refine lv_iconst (v := 0) hx hb dX5_makeTick_37 (by decide) ?_
      refine w_cvi (As := [.int i_80, .int 0]) (rest := []) hx hb hml hown hts hK hW hS hl.1 (c_X5_of hA HB (fun k hk => putAt hk)  hw) (k_X5_67 hts ⟨Nat.le_of_ble_eq_true rfl, Nat.le_of_ble_eq_true rfl⟩) (w_recv hK hW HB.1 (putAt (k := 0) (by decide)) rfl rfl) rfl rfl (Nat.le_of_ble_eq_true rfl) dX5_makeTick_38 ⟨Nat.zero_le _, Nat.zero_le _⟩ (fun r_101 Ez H locs hw2 hW hS => ?_)
      obtain ⟨ez, hw⟩ := hw2
      rw [ez] at hW
      refine lv_bipush (v := 10) hx hb dX5_makeTick_41 (by decide) ?_
      refine lv_icmp_ne (tgt := 87) hx hb dX5_makeTick_43 (by decide) (fun c_102 => ?_) (fun c_102 => ?_)
      · have hw := hw.2 c_102
        obtain ⟨v_103, ev_103⟩ : ∃ z : Int32, z = i_80 + 1 := ⟨_, rfl⟩
        have hw := hw v_103 ev_103
        refine lv_iinc (v := v_103) (lv' := [(1, .int v_103), (0, .ref o)]) hx hb dX5_makeTick_87 hl (k := 1) rfl (by rw [ev_103]; rfl) (by decide) rfl (fun ls hl => ?_)
        refine lv_goto (tgt := 29) hx hb dX5_makeTick_90 (by decide) ?_
        exact ih_29 (v_103, X_81) _ _ _ hw hW hS (lv_sub hl [1, 0] rfl)
      · have hw := hw.1 c_102
        refine lv_aload_n hx hb dX5_makeTick_46 rfl (lv_at hl 0 rfl) ?_
        refine lv_iload_n hx hb dX5_makeTick_47 rfl (lv_at hl 1 rfl) ?_
        refine lv_iconst (v := 5) hx hb dX5_makeTick_48 (by decide) ?_
        refine lv_aload_n hx hb dX5_makeTick_49 rfl (lv_at hl 0 rfl) ?_
        refine lv_iload_n hx hb dX5_makeTick_50 rfl (lv_at hl 1 rfl) ?_
        refine lv_iconst (v := 5) hx hb dX5_makeTick_51 (by decide) ?_
        refine w_cvi (As := [.int i_80, .int 5]) (rest := [.int 5, .int i_80, .ref o]) hx hb hml hown hts hK hW hS hl.1 (c_X5_of hA HB (fun k hk => putAt hk)  hw) (k_X5_67 hts ⟨Nat.le_of_ble_eq_true rfl, Nat.le_of_ble_eq_true rfl⟩) (w_recv hK hW HB.1 (putAt (k := 0) (by decide)) rfl rfl) rfl rfl (Nat.le_of_ble_eq_true rfl) dX5_makeTick_52 ⟨Nat.zero_le _, Nat.zero_le _⟩ (fun r_104 Ez H locs hw2 hW hS => ?_)
        obtain ⟨ez, hw⟩ := hw2
        rw [ez] at hW
        refine lv_iconst (v := 1) hx hb dX5_makeTick_55 (by decide) ?_
        refine lv_iadd hx hb dX5_makeTick_56 ?_
        refine w_cvv (As := [.int i_80, .int 5, .int (r_104 + 1)]) (rest := []) hx hb hml hown hts hK hW hS hl.1 (c_X5_lay hA HB (fun k hk => putAt hk)  hw) (k_X5_61 hts ⟨Nat.le_of_ble_eq_true rfl, Nat.le_of_ble_eq_true rfl⟩) (w_recv hK hW HB.1 (putAt (k := 0) (by decide)) rfl rfl) rfl rfl (Nat.le_of_ble_eq_true rfl) dX5_makeTick_57 ⟨Nat.zero_le _, Nat.zero_le _⟩ (fun Ez H locs hw2 hW hS => ?_)
        obtain ⟨X_105, ez, hw⟩ := hw2
        rw [ez, putPut] at hW
        refine lv_aload_n hx hb dX5_makeTick_60 rfl (lv_at hl 0 rfl) ?_
        refine lv_iload_n hx hb dX5_makeTick_61 rfl (lv_at hl 1 rfl) ?_
        refine lv_iconst (v := 0) hx hb dX5_makeTick_62 (by decide) ?_
        refine lv_aload_n hx hb dX5_makeTick_63 rfl (lv_at hl 0 rfl) ?_
        refine lv_iload_n hx hb dX5_makeTick_64 rfl (lv_at hl 1 rfl) ?_
        refine lv_iconst (v := 5) hx hb dX5_makeTick_65 (by decide) ?_
        refine w_cvi (As := [.int i_80, .int 5]) (rest := [.int 0, .int i_80, .ref o]) hx hb hml hown hts hK hW hS hl.1 (c_X5_of hA HB (fun k hk => putAt hk)  hw) (k_X5_67 hts ⟨Nat.le_of_ble_eq_true rfl, Nat.le_of_ble_eq_true rfl⟩) (w_recv hK hW HB.1 (putAt (k := 0) (by decide)) rfl rfl) rfl rfl (Nat.le_of_ble_eq_true rfl) dX5_makeTick_66 ⟨Nat.zero_le _, Nat.zero_le _⟩ (fun r_106 Ez H locs hw2 hW hS => ?_)
        obtain ⟨ez, hw⟩ := hw2
        rw [ez] at hW
        refine lv_aload_n hx hb dX5_makeTick_69 rfl (lv_at hl 0 rfl) ?_
        refine lv_iconst (v := 4) hx hb dX5_makeTick_70 (by decide) ?_
        refine w_cvi (As := [.int 4]) (rest := [.int r_106, .int 0, .int i_80, .ref o]) hx hb hml hown hts hK hW hS hl.1 (c_X5_setting hA HB (fun k hk => putAt hk)  hw) (k_X5_53 hts ⟨Nat.le_of_ble_eq_true rfl, Nat.le_of_ble_eq_true rfl⟩) (w_recv hK hW HB.1 (putAt (k := 0) (by decide)) rfl rfl) rfl rfl (Nat.le_of_ble_eq_true rfl) dX5_makeTick_71 ⟨Nat.zero_le _, Nat.zero_le _⟩ (fun r_107 Ez H locs hw2 hW hS => ?_)
        obtain ⟨ez, hw⟩ := hw2
        rw [ez] at hW
        refine lv_icmp_lt (tgt := 82) hx hb dX5_makeTick_74 (by decide) (fun c_108 => ?_) (fun c_108 => ?_)
        · have hw := hw.1 c_108
          refine lv_bipush (v := 10) hx hb dX5_makeTick_82 (by decide) ?_
          refine w_cvv (As := [.int i_80, .int 0, .int 10]) (rest := []) hx hb hml hown hts hK hW hS hl.1 (c_X5_lay hA HB (fun k hk => putAt hk)  hw) (k_X5_61 hts ⟨Nat.le_of_ble_eq_true rfl, Nat.le_of_ble_eq_true rfl⟩) (w_recv hK hW HB.1 (putAt (k := 0) (by decide)) rfl rfl) rfl rfl (Nat.le_of_ble_eq_true rfl) dX5_makeTick_84 ⟨Nat.zero_le _, Nat.zero_le _⟩ (fun Ez H locs hw2 hW hS => ?_)
          obtain ⟨X_109, ez, hw⟩ := hw2
          rw [ez, putPut] at hW
          obtain ⟨v_110, ev_110⟩ : ∃ z : Int32, z = i_80 + 1 := ⟨_, rfl⟩
          have hw := hw v_110 ev_110
          refine lv_iinc (v := v_110) (lv' := [(1, .int v_110), (0, .ref o)]) hx hb dX5_makeTick_87 hl (k := 1) rfl (by rw [ev_110]; rfl) (by decide) rfl (fun ls hl => ?_)
          refine lv_goto (tgt := 29) hx hb dX5_makeTick_90 (by decide) ?_
          exact ih_29 (v_110, X_109) _ _ _ hw hW hS (lv_sub hl [1, 0] rfl)
        · have hw := hw.2 c_108
          refine lv_bipush (v := 11) hx hb dX5_makeTick_77 (by decide) ?_
          refine lv_goto (tgt := 84) hx hb dX5_makeTick_79 (by decide) ?_
          refine w_cvv (As := [.int i_80, .int 0, .int 11]) (rest := []) hx hb hml hown hts hK hW hS hl.1 (c_X5_lay hA HB (fun k hk => putAt hk)  hw) (k_X5_61 hts ⟨Nat.le_of_ble_eq_true rfl, Nat.le_of_ble_eq_true rfl⟩) (w_recv hK hW HB.1 (putAt (k := 0) (by decide)) rfl rfl) rfl rfl (Nat.le_of_ble_eq_true rfl) dX5_makeTick_84 ⟨Nat.zero_le _, Nat.zero_le _⟩ (fun Ez H locs hw2 hW hS => ?_)
          obtain ⟨X_111, ez, hw⟩ := hw2
          rw [ez, putPut] at hW
          obtain ⟨v_112, ev_112⟩ : ∃ z : Int32, z = i_80 + 1 := ⟨_, rfl⟩
          have hw := hw v_112 ev_112
          refine lv_iinc (v := v_112) (lv' := [(1, .int v_112), (0, .ref o)]) hx hb dX5_makeTick_87 hl (k := 1) rfl (by rw [ev_112]; rfl) (by decide) rfl (fun ls hl => ?_)
          refine lv_goto (tgt := 29) hx hb dX5_makeTick_90 (by decide) ?_
          exact ih_29 (v_112, X_111) _ _ _ hw hW hS (lv_sub hl [1, 0] rfl)
  · have hw := hw.2 c_78
    refine lv_aload_n hx hb dX5_makeTick_12 rfl (lv_at hl 0 rfl) ?_
    refine lv_iload_n hx hb dX5_makeTick_13 rfl (lv_at hl 1 rfl) ?_
    refine w_cvv (As := [.int i_1]) (rest := []) hx hb hml hown hts hK hW hS hl.1 (c_X5_stepFinder hA HB (fun k hk => putAt hk)  hw) (k_X5_130 hts ⟨Nat.le_of_ble_eq_true rfl, Nat.le_of_ble_eq_true rfl⟩) (w_recv hK hW HB.1 (putAt (k := 0) (by decide)) rfl rfl) rfl rfl (Nat.le_of_ble_eq_true rfl) dX5_makeTick_14 ⟨Nat.zero_le _, Nat.zero_le _⟩ (fun Ez H locs hw2 hW hS => ?_)
    obtain ⟨X_114, ez, hw⟩ := hw2
    rw [ez, putPut] at hW
    obtain ⟨v_115, ev_115⟩ : ∃ z : Int32, z = i_1 + 1 := ⟨_, rfl⟩
    have hw := hw v_115 ev_115
    refine lv_iinc (v := v_115) (lv' := [(1, .int v_115), (0, .ref o)]) hx hb dX5_makeTick_17 hl (k := 1) rfl (by rw [ev_115]; rfl) (by decide) rfl (fun ls hl => ?_)
    refine lv_goto (tgt := 2) hx hb dX5_makeTick_20 (by decide) ?_
    exact ih_2 (v_115, X_114) _ _ _ hw hW hS (lv_sub hl [1, 0] rfl)
set_option maxHeartbeats 4000000 in
set_option maxRecDepth 100000 in
theorem c_X5_tick {l : Launch} {g : GG} {lay : LY} {E0 : ES} {o : Nat} {X : ES} {p1 : Int32} {K : Int32 → ES → Prop} (hA : okL g lay) (HB : ML g lay o) (hX : ∀ k, k < 7 → E0 (o + k) = X k) (hw : wp_X5_tick X p1 K) : JMi l g lay yX5_tick wsX5_tick rmX5_tick [.ref o, .int p1] E0 (fun r E1 => ∃ X1 : ES, E1 = put 7 o X1 E0 ∧ K r X1) := by
  refine Met.ofW (cc := cX5_tick) (maxL := 3) (ret := (some .int)) (by decide) rfl ?_
  intro p e s m args below meth c s₁ B hml hv
  obtain ⟨rfl, hK, hW⟩ := hv
  have hx := B.exec
  have hb := B.bytes
  have hr := B.returns
  have hts := gd_of (atoms_spec (ws := wsX5_tick) B.pre)
  have hown : s.vm.findClass RX5 = some m.cls := findClass_of_methodNamed B.named
  have hlocks := B.notSynchronized
  have hS : va_S (Ab g) s.heap s.heap [] := va_S.rf
  have hW : Wd g lay (put 7 o X E0) s.heap := by rw [putSelf hX]; exact hW
  have hl := lv_entry [.ref o, .int p1] (n := 3) (Nat.le_of_ble_eq_true rfl)
  rw [lg_entry_eq]
  generalize (lg_sl [.ref o, .int p1] ++ List.replicate (3 - (lg_sl [.ref o, .int p1]).length) Slot.unset).toArray = ls at hl ⊢
  have hl : lv_has ls 3 [(0, .ref o), (1, .int p1)] := hl
  unfold wp_X5_tick at hw
  refine lv_iload_n hx hb dX5_tick_0 rfl (lv_at hl 1 rfl) ?_
  refine lv_iconst (v := 1) hx hb dX5_tick_1 (by decide) ?_
  refine lv_sipush (v := 1000) hx hb dX5_tick_2 (by decide) ?_
  refine w_csi (As := [.int p1, .int 1, .int 1000]) (rest := []) hx hb hml hown hts hK hW hS hl.1 (c_X5_in hw) (k_X5_33 hts ⟨Nat.le_of_ble_eq_true rfl, Nat.le_of_ble_eq_true rfl⟩) rfl rfl (Nat.le_of_ble_eq_true rfl) dX5_tick_5 ⟨Nat.zero_le _, Nat.zero_le _⟩ (fun r_1 Ez H locs hw2 hW hS => ?_)
  obtain ⟨ez, z_2, hw⟩ := hw2
  rw [ez] at hW
  refine lv_if_ne (tgt := 14) hx hb dX5_tick_8 (by decide) (fun c_3 => ?_) (fun c_3 => ?_)
  · have hw := hw.2 c_3
    refine lv_aload_n hx hb dX5_tick_14 rfl (lv_at hl 0 rfl) ?_
    refine g_X5_7 hx hb hown hts hK hW HB.1 (putAt (k := 0) (by decide)) dX5_tick_15 ?_
    refine lv_iconst (v := 0) hx hb dX5_tick_18 (by decide) ?_
    obtain ⟨hin, hw⟩ := hw
    refine w_iald hx hb hK hW HB.2.1 (putAt (k := 1) (by decide)) hin dX5_tick_19 ?_
    refine lv_iload_n hx hb dX5_tick_20 rfl (lv_at hl 1 rfl) ?_
    refine lv_iadd hx hb dX5_tick_21 ?_
    refine lv_ldc hx hb hown (hts _ wd_757) dX5_tick_22 ?_
    refine lv_icmp_le (tgt := 30) hx hb dX5_tick_24 (by decide) (fun c_4 => ?_) (fun c_4 => ?_)
    · have hw := hw.1 c_4
      refine lv_iconst (v := 0) hx hb dX5_tick_30 (by decide) ?_
      refine lv_istore_n (lv' := [(2, .int 0), (0, .ref o), (1, .int p1)]) hx hb dX5_tick_31 rfl hl (by decide) rfl (fun ls hl => ?_)
      obtain ⟨n_16, hw⟩ := hw
      refine w_loop (KT := Int32 → ES → Prop) (σ := Int32 × ES) (Wl := fun Kx_32 n_32 q => wpl_X5_tick_32 p1 K Kx_32 n_32 q.1 q.2) (Pw := fun q => Wd g lay (put 7 o q.2 E0)) (lvf := fun q => [(0, .ref o), (1, .int p1), (2, .int q.1)]) (nL := 3) n_16 (0, X) hw hW hS (lv_sub hl [1, 2, 0] rfl) (fun _ h => h) (fun Kx_32 eK_32 n_32 q H locs ls hw hW hS hl ih_32 => ?_)
      obtain ⟨i_5, X_6⟩ := q
      try dsimp only at hw
      rw [wpl_X5_tick_32] at hw
      have hl : lv_has ls 3 [(0, .ref o), (1, .int p1), (2, .int i_5)] := hl
      have hW : Wd g lay (put 7 o X_6 E0) H := hW
      refine lv_iload_n hx hb dX5_tick_32 rfl (lv_at hl 2 rfl) ?_
      refine lv_iload_n hx hb dX5_tick_33 rfl (lv_at hl 1 rfl) ?_
      refine lv_icmp_ge (tgt := 47) hx hb dX5_tick_34 (by decide) (fun c_13 => ?_) (fun c_13 => ?_)
      · have hw := hw.1 c_13
        rw [eK_32] at hw
        refine lv_aload_n hx hb dX5_tick_47 rfl (lv_at hl 0 rfl) ?_
        refine g_X5_7 hx hb hown hts hK hW HB.1 (putAt (k := 0) (by decide)) dX5_tick_48 ?_
        refine lv_iconst (v := 0) hx hb dX5_tick_51 (by decide) ?_
        obtain ⟨hin, hw⟩ := hw
        refine w_iald hx hb hK hW HB.2.1 (putAt (k := 1) (by decide)) hin dX5_tick_52 ?_
        exact w_iret hx hb hr hlocks hW hS ⟨X_6, rfl, hw⟩ dX5_tick_53
      · have hw := hw.2 c_13
        refine lv_aload_n hx hb dX5_tick_37 rfl (lv_at hl 0 rfl) ?_
        refine w_cvv (As := []) (rest := []) hx hb hml hown hts hK hW hS hl.1 (c_X5_makeTick hA HB (fun k hk => putAt hk)  hw) (k_X5_137 hts ⟨Nat.le_of_ble_eq_true rfl, Nat.le_of_ble_eq_true rfl⟩) (w_recv hK hW HB.1 (putAt (k := 0) (by decide)) rfl rfl) rfl rfl (Nat.le_of_ble_eq_true rfl) dX5_tick_38 ⟨Nat.zero_le _, Nat.zero_le _⟩ (fun Ez H locs hw2 hW hS => ?_)
        obtain ⟨X_14, ez, hw⟩ := hw2
        rw [ez, putPut] at hW
        obtain ⟨v_15, ev_15⟩ : ∃ z : Int32, z = i_5 + 1 := ⟨_, rfl⟩
        have hw := hw v_15 ev_15
        refine lv_iinc (v := v_15) (lv' := [(2, .int v_15), (0, .ref o), (1, .int p1)]) hx hb dX5_tick_41 hl (k := 2) rfl (by rw [ev_15]; rfl) (by decide) rfl (fun ls hl => ?_)
        refine lv_goto (tgt := 32) hx hb dX5_tick_44 (by decide) ?_
        exact ih_32 (v_15, X_14) _ _ _ hw hW hS (lv_sub hl [1, 2, 0] rfl)
    · have hw := hw.2 c_4
      refine lv_bipush (v := (-5)) hx hb dX5_tick_27 (by decide) ?_
      exact w_iret hx hb hr hlocks hW hS ⟨X, rfl, hw⟩ dX5_tick_29
  · have hw := hw.1 c_3
    refine lv_bipush (v := (-2)) hx hb dX5_tick_11 (by decide) ?_
    exact w_iret hx hb hr hlocks hW hS ⟨X, rfl, hw⟩ dX5_tick_13
set_option maxHeartbeats 4000000 in
set_option maxRecDepth 100000 in
theorem c_X5_pathOf {l : Launch} {g : GG} {lay : LY} {E0 : ES} {o : Nat} {X : ES} {p1 : Int32} {K : Int32 → Prop} (hA : okL g lay) (HB : ML g lay o) (hX : ∀ k, k < 7 → E0 (o + k) = X k) (hw : wp_X5_pathOf X p1 K) : JMi l g lay yX5_pathOf wsX5_pathOf rmX5_pathOf [.ref o, .int p1] E0 (fun r E1 => E1 = E0 ∧ K r) := by
  refine Met.ofW (cc := cX5_pathOf) (maxL := 2) (ret := (some .int)) (by decide) rfl ?_
  intro p e s m args below meth c s₁ B hml hv
  obtain ⟨rfl, hK, hW⟩ := hv
  have hx := B.exec
  have hb := B.bytes
  have hr := B.returns
  have hts := gd_of (atoms_spec (ws := wsX5_pathOf) B.pre)
  have hown : s.vm.findClass RX5 = some m.cls := findClass_of_methodNamed B.named
  have hlocks := B.notSynchronized
  have hS : va_S (Ab g) s.heap s.heap [] := va_S.rf
  have hl := lv_entry [.ref o, .int p1] (n := 2) (Nat.le_of_ble_eq_true rfl)
  rw [lg_entry_eq]
  generalize (lg_sl [.ref o, .int p1] ++ List.replicate (2 - (lg_sl [.ref o, .int p1]).length) Slot.unset).toArray = ls at hl ⊢
  have hl : lv_has ls 2 [(0, .ref o), (1, .int p1)] := hl
  unfold wp_X5_pathOf at hw
  refine lv_aload_n hx hb dX5_pathOf_0 rfl (lv_at hl 0 rfl) ?_
  refine lv_iload_n hx hb dX5_pathOf_1 rfl (lv_at hl 1 rfl) ?_
  refine lv_iconst (v := 0) hx hb dX5_pathOf_2 (by decide) ?_
  refine w_cvi (As := [.int p1, .int 0]) (rest := []) hx hb hml hown hts hK hW hS hl.1 (c_X5_of hA HB hX  hw) (k_X5_67 hts ⟨Nat.le_of_ble_eq_true rfl, Nat.le_of_ble_eq_true rfl⟩) (w_recv hK hW HB.1 (hX 0 (by decide)) rfl rfl) rfl rfl (Nat.le_of_ble_eq_true rfl) dX5_pathOf_3 ⟨Nat.zero_le _, Nat.zero_le _⟩ (fun r_1 Ez H locs hw2 hW hS => ?_)
  obtain ⟨ez, hw⟩ := hw2
  rw [ez] at hW
  refine lv_iconst (v := 5) hx hb dX5_pathOf_6 (by decide) ?_
  refine lv_iconst (v := 5) hx hb dX5_pathOf_7 (by decide) ?_
  refine w_csi (As := [.int r_1, .int 5, .int 5]) (rest := []) hx hb hml hown hts hK hW hS hl.1 (c_X5_in hw) (k_X5_33 hts ⟨Nat.le_of_ble_eq_true rfl, Nat.le_of_ble_eq_true rfl⟩) rfl rfl (Nat.le_of_ble_eq_true rfl) dX5_pathOf_8 ⟨Nat.zero_le _, Nat.zero_le _⟩ (fun r_2 Ez H locs hw2 hW hS => ?_)
  obtain ⟨ez, z_3, hw⟩ := hw2
  rw [ez] at hW
  refine lv_if_ne (tgt := 25) hx hb dX5_pathOf_11 (by decide) (fun c_4 => ?_) (fun c_4 => ?_)
  · have hw := hw.2 c_4
    refine lv_aload_n hx hb dX5_pathOf_25 rfl (lv_at hl 0 rfl) ?_
    refine lv_iload_n hx hb dX5_pathOf_26 rfl (lv_at hl 1 rfl) ?_
    refine w_cvi (As := [.int p1]) (rest := []) hx hb hml hown hts hK hW hS hl.1 (c_X5_finderTo hA HB hX  hw) (k_X5_140 hts ⟨Nat.le_of_ble_eq_true rfl, Nat.le_of_ble_eq_true rfl⟩) (w_recv hK hW HB.1 (hX 0 (by decide)) rfl rfl) rfl rfl (Nat.le_of_ble_eq_true rfl) dX5_pathOf_27 ⟨Nat.zero_le _, Nat.zero_le _⟩ (fun r_5 Ez H locs hw2 hW hS => ?_)
    obtain ⟨ez, hw⟩ := hw2
    rw [ez] at hW
    refine lv_goto (tgt := 38) hx hb dX5_pathOf_30 (by decide) ?_
    exact w_iret hx hb hr hlocks hW hS ⟨rfl, hw⟩ dX5_pathOf_38
  · have hw := hw.1 c_4
    refine lv_aload_n hx hb dX5_pathOf_14 rfl (lv_at hl 0 rfl) ?_
    refine lv_iload_n hx hb dX5_pathOf_15 rfl (lv_at hl 1 rfl) ?_
    refine lv_iconst (v := 0) hx hb dX5_pathOf_16 (by decide) ?_
    refine w_cvi (As := [.int p1, .int 0]) (rest := []) hx hb hml hown hts hK hW hS hl.1 (c_X5_of hA HB hX  hw) (k_X5_67 hts ⟨Nat.le_of_ble_eq_true rfl, Nat.le_of_ble_eq_true rfl⟩) (w_recv hK hW HB.1 (hX 0 (by decide)) rfl rfl) rfl rfl (Nat.le_of_ble_eq_true rfl) dX5_pathOf_17 ⟨Nat.zero_le _, Nat.zero_le _⟩ (fun r_6 Ez H locs hw2 hW hS => ?_)
    obtain ⟨ez, hw⟩ := hw2
    rw [ez] at hW
    refine lv_bipush (v := 7) hx hb dX5_pathOf_20 (by decide) ?_
    refine lv_icmp_ne (tgt := 33) hx hb dX5_pathOf_22 (by decide) (fun c_7 => ?_) (fun c_7 => ?_)
    · have hw := hw.2 c_7
      refine lv_aload_n hx hb dX5_pathOf_33 rfl (lv_at hl 0 rfl) ?_
      refine lv_iload_n hx hb dX5_pathOf_34 rfl (lv_at hl 1 rfl) ?_
      refine w_cvi (As := [.int p1]) (rest := []) hx hb hml hown hts hK hW hS hl.1 (c_X5_finderOf hA HB hX  hw) (k_X5_73 hts ⟨Nat.le_of_ble_eq_true rfl, Nat.le_of_ble_eq_true rfl⟩) (w_recv hK hW HB.1 (hX 0 (by decide)) rfl rfl) rfl rfl (Nat.le_of_ble_eq_true rfl) dX5_pathOf_35 ⟨Nat.zero_le _, Nat.zero_le _⟩ (fun r_8 Ez H locs hw2 hW hS => ?_)
      obtain ⟨ez, hw⟩ := hw2
      rw [ez] at hW
      exact w_iret hx hb hr hlocks hW hS ⟨rfl, hw⟩ dX5_pathOf_38
    · have hw := hw.1 c_7
      refine lv_aload_n hx hb dX5_pathOf_25 rfl (lv_at hl 0 rfl) ?_
      refine lv_iload_n hx hb dX5_pathOf_26 rfl (lv_at hl 1 rfl) ?_
      refine w_cvi (As := [.int p1]) (rest := []) hx hb hml hown hts hK hW hS hl.1 (c_X5_finderTo hA HB hX  hw) (k_X5_140 hts ⟨Nat.le_of_ble_eq_true rfl, Nat.le_of_ble_eq_true rfl⟩) (w_recv hK hW HB.1 (hX 0 (by decide)) rfl rfl) rfl rfl (Nat.le_of_ble_eq_true rfl) dX5_pathOf_27 ⟨Nat.zero_le _, Nat.zero_le _⟩ (fun r_9 Ez H locs hw2 hW hS => ?_)
      obtain ⟨ez, hw⟩ := hw2
      rw [ez] at hW
      refine lv_goto (tgt := 38) hx hb dX5_pathOf_30 (by decide) ?_
      exact w_iret hx hb hr hlocks hW hS ⟨rfl, hw⟩ dX5_pathOf_38
set_option maxHeartbeats 4000000 in
set_option maxRecDepth 100000 in
theorem c_X5_otherOf {l : Launch} {g : GG} {lay : LY} {E0 : ES} {o : Nat} {X : ES} {p1 : Int32} {K : Int32 → Prop} (hA : okL g lay) (HB : ML g lay o) (hX : ∀ k, k < 7 → E0 (o + k) = X k) (hw : wp_X5_otherOf X p1 K) : JMi l g lay yX5_otherOf wsX5_otherOf rmX5_otherOf [.ref o, .int p1] E0 (fun r E1 => E1 = E0 ∧ K r) := by
  refine Met.ofW (cc := cX5_otherOf) (maxL := 3) (ret := (some .int)) (by decide) rfl ?_
  intro p e s m args below meth c s₁ B hml hv
  obtain ⟨rfl, hK, hW⟩ := hv
  have hx := B.exec
  have hb := B.bytes
  have hr := B.returns
  have hts := gd_of (atoms_spec (ws := wsX5_otherOf) B.pre)
  have hown : s.vm.findClass RX5 = some m.cls := findClass_of_methodNamed B.named
  have hlocks := B.notSynchronized
  have hS : va_S (Ab g) s.heap s.heap [] := va_S.rf
  have hl := lv_entry [.ref o, .int p1] (n := 3) (Nat.le_of_ble_eq_true rfl)
  rw [lg_entry_eq]
  generalize (lg_sl [.ref o, .int p1] ++ List.replicate (3 - (lg_sl [.ref o, .int p1]).length) Slot.unset).toArray = ls at hl ⊢
  have hl : lv_has ls 3 [(0, .ref o), (1, .int p1)] := hl
  unfold wp_X5_otherOf at hw
  refine lv_aload_n hx hb dX5_otherOf_0 rfl (lv_at hl 0 rfl) ?_
  refine lv_iload_n hx hb dX5_otherOf_1 rfl (lv_at hl 1 rfl) ?_
  refine lv_iconst (v := 0) hx hb dX5_otherOf_2 (by decide) ?_
  refine w_cvi (As := [.int p1, .int 0]) (rest := []) hx hb hml hown hts hK hW hS hl.1 (c_X5_of hA HB hX  hw) (k_X5_67 hts ⟨Nat.le_of_ble_eq_true rfl, Nat.le_of_ble_eq_true rfl⟩) (w_recv hK hW HB.1 (hX 0 (by decide)) rfl rfl) rfl rfl (Nat.le_of_ble_eq_true rfl) dX5_otherOf_3 ⟨Nat.zero_le _, Nat.zero_le _⟩ (fun r_1 Ez H locs hw2 hW hS => ?_)
  obtain ⟨ez, hw⟩ := hw2
  rw [ez] at hW
  refine lv_istore_n (lv' := [(2, .int r_1), (0, .ref o), (1, .int p1)]) hx hb dX5_otherOf_6 rfl hl (by decide) rfl (fun ls hl => ?_)
  refine lv_iload_n hx hb dX5_otherOf_7 rfl (lv_at hl 0 rfl) ?_
  refine lv_iconst (v := 4) hx hb dX5_otherOf_8 (by decide) ?_
  refine lv_icmp_eq (tgt := 18) hx hb dX5_otherOf_9 (by decide) (fun c_2 => ?_) (fun c_2 => ?_)
  · have hw := hw.1 c_2
    refine lv_aload_n hx hb dX5_otherOf_18 rfl (lv_at hl 1 rfl) ?_
    refine lv_aload_n hx hb dX5_otherOf_19 rfl (lv_at hl 1 rfl) ?_
    refine lv_iload_n hx hb dX5_otherOf_20 rfl (lv_at hl 2 rfl) ?_
    refine w_cvi (As := [.int p1]) (rest := [.ref o]) hx hb hml hown hts hK hW hS hl.1 (c_X5_finderOf hA HB hX  hw) (k_X5_73 hts ⟨Nat.le_of_ble_eq_true rfl, Nat.le_of_ble_eq_true rfl⟩) (w_recv hK hW HB.1 (hX 0 (by decide)) rfl rfl) rfl rfl (Nat.le_of_ble_eq_true rfl) dX5_otherOf_21 ⟨Nat.zero_le _, Nat.zero_le _⟩ (fun r_3 Ez H locs hw2 hW hS => ?_)
    obtain ⟨ez, hw⟩ := hw2
    rw [ez] at hW
    refine lv_bipush (v := 9) hx hb dX5_otherOf_24 (by decide) ?_
    refine w_cvi (As := [.int r_3, .int 9]) (rest := []) hx hb hml hown hts hK hW hS hl.1 (c_X5_ofFinder hA HB hX  hw) (k_X5_41 hts ⟨Nat.le_of_ble_eq_true rfl, Nat.le_of_ble_eq_true rfl⟩) (w_recv hK hW HB.1 (hX 0 (by decide)) rfl rfl) rfl rfl (Nat.le_of_ble_eq_true rfl) dX5_otherOf_26 ⟨Nat.zero_le _, Nat.zero_le _⟩ (fun r_4 Ez H locs hw2 hW hS => ?_)
    obtain ⟨ez, hw⟩ := hw2
    rw [ez] at hW
    exact w_iret hx hb hr hlocks hW hS ⟨rfl, hw⟩ dX5_otherOf_29
  · have hw := hw.2 c_2
    refine lv_iload_n hx hb dX5_otherOf_12 rfl (lv_at hl 0 rfl) ?_
    refine lv_bipush (v := 6) hx hb dX5_otherOf_13 (by decide) ?_
    refine lv_icmp_ne (tgt := 30) hx hb dX5_otherOf_15 (by decide) (fun c_5 => ?_) (fun c_5 => ?_)
    · have hw := hw.2 c_5
      refine lv_iload_n hx hb dX5_otherOf_30 rfl (lv_at hl 0 rfl) ?_
      refine lv_iconst (v := 5) hx hb dX5_otherOf_31 (by decide) ?_
      refine lv_icmp_eq (tgt := 41) hx hb dX5_otherOf_32 (by decide) (fun c_6 => ?_) (fun c_6 => ?_)
      · have hw := hw.1 c_6
        refine lv_aload_n hx hb dX5_otherOf_41 rfl (lv_at hl 1 rfl) ?_
        refine lv_aload_n hx hb dX5_otherOf_42 rfl (lv_at hl 1 rfl) ?_
        refine lv_iload_n hx hb dX5_otherOf_43 rfl (lv_at hl 2 rfl) ?_
        refine w_cvi (As := [.int p1]) (rest := [.ref o]) hx hb hml hown hts hK hW hS hl.1 (c_X5_finderTo hA HB hX  hw) (k_X5_140 hts ⟨Nat.le_of_ble_eq_true rfl, Nat.le_of_ble_eq_true rfl⟩) (w_recv hK hW HB.1 (hX 0 (by decide)) rfl rfl) rfl rfl (Nat.le_of_ble_eq_true rfl) dX5_otherOf_44 ⟨Nat.zero_le _, Nat.zero_le _⟩ (fun r_7 Ez H locs hw2 hW hS => ?_)
        obtain ⟨ez, hw⟩ := hw2
        rw [ez] at hW
        refine lv_iconst (v := 2) hx hb dX5_otherOf_47 (by decide) ?_
        refine w_cvi (As := [.int r_7, .int 2]) (rest := []) hx hb hml hown hts hK hW hS hl.1 (c_X5_ofFinder hA HB hX  hw) (k_X5_41 hts ⟨Nat.le_of_ble_eq_true rfl, Nat.le_of_ble_eq_true rfl⟩) (w_recv hK hW HB.1 (hX 0 (by decide)) rfl rfl) rfl rfl (Nat.le_of_ble_eq_true rfl) dX5_otherOf_48 ⟨Nat.zero_le _, Nat.zero_le _⟩ (fun r_8 Ez H locs hw2 hW hS => ?_)
        obtain ⟨ez, hw⟩ := hw2
        rw [ez] at hW
        refine lv_goto (tgt := 56) hx hb dX5_otherOf_51 (by decide) ?_
        exact w_iret hx hb hr hlocks hW hS ⟨rfl, hw⟩ dX5_otherOf_56
      · have hw := hw.2 c_6
        refine lv_iload_n hx hb dX5_otherOf_35 rfl (lv_at hl 0 rfl) ?_
        refine lv_bipush (v := 7) hx hb dX5_otherOf_36 (by decide) ?_
        refine lv_icmp_ne (tgt := 54) hx hb dX5_otherOf_38 (by decide) (fun c_9 => ?_) (fun c_9 => ?_)
        · have hw := hw.2 c_9
          refine lv_bipush (v := (-6)) hx hb dX5_otherOf_54 (by decide) ?_
          exact w_iret hx hb hr hlocks hW hS ⟨rfl, hw⟩ dX5_otherOf_56
        · have hw := hw.1 c_9
          refine lv_aload_n hx hb dX5_otherOf_41 rfl (lv_at hl 1 rfl) ?_
          refine lv_aload_n hx hb dX5_otherOf_42 rfl (lv_at hl 1 rfl) ?_
          refine lv_iload_n hx hb dX5_otherOf_43 rfl (lv_at hl 2 rfl) ?_
          refine w_cvi (As := [.int p1]) (rest := [.ref o]) hx hb hml hown hts hK hW hS hl.1 (c_X5_finderTo hA HB hX  hw) (k_X5_140 hts ⟨Nat.le_of_ble_eq_true rfl, Nat.le_of_ble_eq_true rfl⟩) (w_recv hK hW HB.1 (hX 0 (by decide)) rfl rfl) rfl rfl (Nat.le_of_ble_eq_true rfl) dX5_otherOf_44 ⟨Nat.zero_le _, Nat.zero_le _⟩ (fun r_10 Ez H locs hw2 hW hS => ?_)
          obtain ⟨ez, hw⟩ := hw2
          rw [ez] at hW
          refine lv_iconst (v := 2) hx hb dX5_otherOf_47 (by decide) ?_
          refine w_cvi (As := [.int r_10, .int 2]) (rest := []) hx hb hml hown hts hK hW hS hl.1 (c_X5_ofFinder hA HB hX  hw) (k_X5_41 hts ⟨Nat.le_of_ble_eq_true rfl, Nat.le_of_ble_eq_true rfl⟩) (w_recv hK hW HB.1 (hX 0 (by decide)) rfl rfl) rfl rfl (Nat.le_of_ble_eq_true rfl) dX5_otherOf_48 ⟨Nat.zero_le _, Nat.zero_le _⟩ (fun r_11 Ez H locs hw2 hW hS => ?_)
          obtain ⟨ez, hw⟩ := hw2
          rw [ez] at hW
          refine lv_goto (tgt := 56) hx hb dX5_otherOf_51 (by decide) ?_
          exact w_iret hx hb hr hlocks hW hS ⟨rfl, hw⟩ dX5_otherOf_56
    · have hw := hw.1 c_5
      refine lv_aload_n hx hb dX5_otherOf_18 rfl (lv_at hl 1 rfl) ?_
      refine lv_aload_n hx hb dX5_otherOf_19 rfl (lv_at hl 1 rfl) ?_
      refine lv_iload_n hx hb dX5_otherOf_20 rfl (lv_at hl 2 rfl) ?_
      refine w_cvi (As := [.int p1]) (rest := [.ref o]) hx hb hml hown hts hK hW hS hl.1 (c_X5_finderOf hA HB hX  hw) (k_X5_73 hts ⟨Nat.le_of_ble_eq_true rfl, Nat.le_of_ble_eq_true rfl⟩) (w_recv hK hW HB.1 (hX 0 (by decide)) rfl rfl) rfl rfl (Nat.le_of_ble_eq_true rfl) dX5_otherOf_21 ⟨Nat.zero_le _, Nat.zero_le _⟩ (fun r_12 Ez H locs hw2 hW hS => ?_)
      obtain ⟨ez, hw⟩ := hw2
      rw [ez] at hW
      refine lv_bipush (v := 9) hx hb dX5_otherOf_24 (by decide) ?_
      refine w_cvi (As := [.int r_12, .int 9]) (rest := []) hx hb hml hown hts hK hW hS hl.1 (c_X5_ofFinder hA HB hX  hw) (k_X5_41 hts ⟨Nat.le_of_ble_eq_true rfl, Nat.le_of_ble_eq_true rfl⟩) (w_recv hK hW HB.1 (hX 0 (by decide)) rfl rfl) rfl rfl (Nat.le_of_ble_eq_true rfl) dX5_otherOf_26 ⟨Nat.zero_le _, Nat.zero_le _⟩ (fun r_13 Ez H locs hw2 hW hS => ?_)
      obtain ⟨ez, hw⟩ := hw2
      rw [ez] at hW
      exact w_iret hx hb hr hlocks hW hS ⟨rfl, hw⟩ dX5_otherOf_29
