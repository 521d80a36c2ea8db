set_option maxHeartbeats 4000000 in
set_option maxRecDepth 100000 in
theorem c_X0_lineAt {l : Launch} {g : GG} {lay : LY} {E0 : ES} {o : Nat} (hA : okL g lay) (HB : XL g lay o) (p1 : Int32) : JMr l g lay yX0_lineAt wsX0_lineAt rmX0_lineAt [.ref o, .int p1] E0 (fun a E1 => E1 = E0 ∧ a = o + lix p1) := by
  refine Met.ofW (cc := cX0_lineAt) (maxL := 2) (ret := (some (.object "RotaryExchange$Line"))) (by decide) rfl ?_
  intro p e s m args below meth c s₁ B hml hv
  obtain ⟨rfl, hK, hW⟩ := hv
  have hx := B.exec
  have hb := B.bytes
  have hr := B.returns
  have hts := gd_of (atoms_spec (ws := wsX0_lineAt) B.pre)
  have hown : s.vm.findClass RX0 = some m.cls := findClass_of_methodNamed B.named
  have hlocks := B.notSynchronized
  have hS : va_S (Ab g) s.heap s.heap [] := va_S.rf
  have hl := lv_entry [.ref o, .int p1] (n := 2) (Nat.le_of_ble_eq_true rfl)
  rw [lg_entry_eq]
  generalize (lg_sl [.ref o, .int p1] ++ List.replicate (2 - (lg_sl [.ref o, .int p1]).length) Slot.unset).toArray = ls at hl ⊢
  have hl : lv_has ls 2 [(0, .ref o), (1, .int p1)] := hl
  refine lv_iload_n hx hb dX0_lineAt_0 rfl (lv_at hl 1 rfl) ?_
  refine lv_if_lt (tgt := 22) hx hb dX0_lineAt_1 (by decide) (fun c1 => ?_) (fun c1 => ?_)
  · refine lv_aload_n hx hb dX0_lineAt_22 rfl (lv_at hl 0 rfl) ?_
    refine g_X0_24 hx hb hown hts hK hW HB.1 rfl dX0_lineAt_23 ?_
    exact w_aret hx hb hr (Or.inl ⟨_, rfl⟩) hlocks hW hS ⟨rfl, by rw [lix, if_pos (Or.inl c1)]⟩ dX0_lineAt_26
  · refine lv_iload_n hx hb dX0_lineAt_4 rfl (lv_at hl 1 rfl) ?_
    refine lv_aload_n hx hb dX0_lineAt_5 rfl (lv_at hl 0 rfl) ?_
    refine g_X0_11 hx hb hown hts hK hW HB.1 rfl dX0_lineAt_6 ?_
    refine w_alen (v := 16) hx hb hK hW 4 rfl HB.2.1 rfl rfl rfl dX0_lineAt_9 ?_
    refine lv_icmp_ge (tgt := 22) hx hb dX0_lineAt_10 (by decide) (fun c2 => ?_) (fun c2 => ?_)
    · refine lv_aload_n hx hb dX0_lineAt_22 rfl (lv_at hl 0 rfl) ?_
      refine g_X0_24 hx hb hown hts hK hW HB.1 rfl dX0_lineAt_23 ?_
      exact w_aret hx hb hr (Or.inl ⟨_, rfl⟩) hlocks hW hS ⟨rfl, by rw [lix, if_pos (Or.inr c2)]⟩ dX0_lineAt_26
    · have hin : vp_in p1 16 := fun q => q.elim c1 (fun q => absurd (clamp_lt (n := 16) c1 c2 (by decide)) (by omega))
      refine lv_aload_n hx hb dX0_lineAt_13 rfl (lv_at hl 0 rfl) ?_
      refine g_X0_11 hx hb hown hts hK hW HB.1 rfl dX0_lineAt_14 ?_
      refine lv_iload_n hx hb dX0_lineAt_17 rfl (lv_at hl 1 rfl) ?_
      refine w_aldq hx hb hK hW 4 rfl HB.2.1 hin dX0_lineAt_18 ?_
      refine lv_ifnonnull (tgt := 27) hx hb dX0_lineAt_19 (by decide) ?_
      refine lv_aload_n hx hb dX0_lineAt_27 rfl (lv_at hl 0 rfl) ?_
      refine g_X0_11 hx hb hown hts hK hW HB.1 rfl dX0_lineAt_28 ?_
      refine lv_iload_n hx hb dX0_lineAt_31 rfl (lv_at hl 1 rfl) ?_
      refine w_aldq hx hb hK hW 4 rfl HB.2.1 hin dX0_lineAt_32 ?_
      exact w_aret hx hb hr (Or.inl ⟨_, rfl⟩) hlocks hW hS ⟨rfl, by rw [lix, if_neg (fun q => q.elim c1 c2)]⟩ dX0_lineAt_33
set_option maxHeartbeats 4000000 in
set_option maxRecDepth 100000 in
theorem c_X0_finderAt {l : Launch} {g : GG} {lay : LY} {E0 : ES} {o : Nat} (hA : okL g lay) (HB : XL g lay o) (p1 : Int32) : JMr l g lay yX0_finderAt wsX0_finderAt rmX0_finderAt [.ref o, .int p1] E0 (fun a E1 => E1 = E0 ∧ a = o + fix p1) := by
  refine Met.ofW (cc := cX0_finderAt) (maxL := 2) (ret := (some (.object "RotaryExchange$Finder"))) (by decide) rfl ?_
  intro p e s m args below meth c s₁ B hml hv
  obtain ⟨rfl, hK, hW⟩ := hv
  have hx := B.exec
  have hb := B.bytes
  have hr := B.returns
  have hts := gd_of (atoms_spec (ws := wsX0_finderAt) B.pre)
  have hown : s.vm.findClass RX0 = some m.cls := findClass_of_methodNamed B.named
  have hlocks := B.notSynchronized
  have hS : va_S (Ab g) s.heap s.heap [] := va_S.rf
  have hl := lv_entry [.ref o, .int p1] (n := 2) (Nat.le_of_ble_eq_true rfl)
  rw [lg_entry_eq]
  generalize (lg_sl [.ref o, .int p1] ++ List.replicate (2 - (lg_sl [.ref o, .int p1]).length) Slot.unset).toArray = ls at hl ⊢
  have hl : lv_has ls 2 [(0, .ref o), (1, .int p1)] := hl
  refine lv_iload_n hx hb dX0_finderAt_0 rfl (lv_at hl 1 rfl) ?_
  refine lv_if_lt (tgt := 22) hx hb dX0_finderAt_1 (by decide) (fun c1 => ?_) (fun c1 => ?_)
  · refine lv_aload_n hx hb dX0_finderAt_22 rfl (lv_at hl 0 rfl) ?_
    refine g_X0_29 hx hb hown hts hK hW HB.1 rfl dX0_finderAt_23 ?_
    exact w_aret hx hb hr (Or.inl ⟨_, rfl⟩) hlocks hW hS ⟨rfl, by rw [fix, if_pos (Or.inl c1)]⟩ dX0_finderAt_26
  · refine lv_iload_n hx hb dX0_finderAt_4 rfl (lv_at hl 1 rfl) ?_
    refine lv_aload_n hx hb dX0_finderAt_5 rfl (lv_at hl 0 rfl) ?_
    refine g_X0_19 hx hb hown hts hK hW HB.1 rfl dX0_finderAt_6 ?_
    refine w_alen (v := 4) hx hb hK hW 3 rfl HB.2.2.1 rfl rfl rfl dX0_finderAt_9 ?_
    refine lv_icmp_ge (tgt := 22) hx hb dX0_finderAt_10 (by decide) (fun c2 => ?_) (fun c2 => ?_)
    · refine lv_aload_n hx hb dX0_finderAt_22 rfl (lv_at hl 0 rfl) ?_
      refine g_X0_29 hx hb hown hts hK hW HB.1 rfl dX0_finderAt_23 ?_
      exact w_aret hx hb hr (Or.inl ⟨_, rfl⟩) hlocks hW hS ⟨rfl, by rw [fix, if_pos (Or.inr c2)]⟩ dX0_finderAt_26
    · have hin : vp_in p1 4 := fun q => q.elim c1 (fun q => absurd (clamp_lt (n := 4) c1 c2 (by decide)) (by omega))
      refine lv_aload_n hx hb dX0_finderAt_13 rfl (lv_at hl 0 rfl) ?_
      refine g_X0_19 hx hb hown hts hK hW HB.1 rfl dX0_finderAt_14 ?_
      refine lv_iload_n hx hb dX0_finderAt_17 rfl (lv_at hl 1 rfl) ?_
      refine w_aldq hx hb hK hW 3 rfl HB.2.2.1 hin dX0_finderAt_18 ?_
      refine lv_ifnonnull (tgt := 27) hx hb dX0_finderAt_19 (by decide) ?_
      refine lv_aload_n hx hb dX0_finderAt_27 rfl (lv_at hl 0 rfl) ?_
      refine g_X0_19 hx hb hown hts hK hW HB.1 rfl dX0_finderAt_28 ?_
      refine lv_iload_n hx hb dX0_finderAt_31 rfl (lv_at hl 1 rfl) ?_
      refine w_aldq hx hb hK hW 3 rfl HB.2.2.1 hin dX0_finderAt_32 ?_
      exact w_aret hx hb hr (Or.inl ⟨_, rfl⟩) hlocks hW hS ⟨rfl, by rw [fix, if_neg (fun q => q.elim c1 c2)]⟩ dX0_finderAt_33
