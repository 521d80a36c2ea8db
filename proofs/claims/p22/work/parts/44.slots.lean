theorem wd_266 : Cond.fieldLink RX4 42 RX4 "MOST_SETTINGS" "[I" ∈ lw_gd := gd_in (List.mem_of_getElem? (i := 266) (by decide +kernel)) (by decide +kernel)
-- ===== set, restore, save: the machine =====
theorem win_and {p1 a b : Int32} {K : Int32 → Prop} (h : wp_X4_isWithin p1 a b K) : wp_X4_isWithin p1 a b (fun r => K r ∧ (¬ r = 0 → ¬ p1 < a ∧ ¬ b < p1)) :=
  ⟨fun c => ⟨h.1 c, fun z => absurd rfl z⟩, fun c => ⟨fun d => ⟨(h.2 c).1 d, fun z => absurd rfl z⟩, fun d => ⟨(h.2 c).2 d, fun _ => ⟨c, d⟩⟩⟩⟩
section WO
variable {p : Program} {l : Launch} {e : Env} {R : Room} {s : State} {m : MethodId} {args : Array Value} {below : List Frame} {meth : Method} {c : Code} {H : Heap} {locs : List Loc} {cells slots : Nat} {Q : State → Prop}
variable {cc : ByteArray} {pc : Nat} {ls : Array Slot} {rest : List Value} {g : GG} {lay : LY} {E : ES} {t n : Nat} {f : CS}
theorem w_olen (hx : p.tables.exec = Jvm.exec) (hb : c.code = cc) (hK : KK g s) (hW : Wd g lay E H) (ho : oldA g t n f) {v : Int32} (hv : Int32.ofNat n = v) (hdg : decode cc pc = .ok (.arraylength, 1))
    (kk : W p l e R s m args below meth c H locs cells slots Q (F0 m (pc + 1) ls (.int v :: rest))) : W p l e R s m args below meth c H locs cells slots Q (F0 m pc ls (.ref t :: rest)) := by
  obtain ⟨cell, h1, h2, h3, h4, h5⟩ := ho
  have hH : H[t]? = some cell := by rw [hW.2 t (Array.getElem?_eq_some_iff.mp h1).1]; exact h1
  have hz : cell.slots.size = n := by rw [h3]; exact arrV_size _ _ _
  subst hv
  exact W.alen (n := Int32.ofNat n) hx hb hH ⟨h5, by rw [h2]; exact ((hK.1.2 0 _ rfl).1 0 (fun _ => .null)).2⟩ (by rw [hz] <;> rfl) rfl rfl hdg kk
theorem w_oald (hx : p.tables.exec = Jvm.exec) (hb : c.code = cc) (hK : KK g s) (hW : Wd g lay E H) (ho : oldA g t n f) {i : Int32} (hin : vp_in i n) (hdg : decode cc pc = .ok (.iaload, 1))
    (kk : W p l e R s m args below meth c H locs cells slots Q (F0 m (pc + 1) ls (.int (f i.toNatClampNeg) :: rest))) : W p l e R s m args below meth c H locs cells slots Q (F0 m pc ls (.int i :: .ref t :: rest)) := by
  obtain ⟨cell, h1, h2, h3, h4, h5⟩ := ho
  have hlt : i.toNatClampNeg < n := Nat.not_le.mp fun q => hin (Or.inr q)
  have hH : H[t]? = some cell := by rw [hW.2 t (Array.getElem?_eq_some_iff.mp h1).1]; exact h1
  have hz : cell.slots.size = n := by rw [h3]; exact arrV_size _ _ _
  exact W.iald (v := .int (f i.toNatClampNeg)) hx hb hH ⟨h5, by rw [h2]; exact ((hK.1.2 0 _ rfl).1 0 (fun _ => .null)).2⟩ h4 (by rw [hz]; exact hin) (by rw [h3]; show (arrV _ _ _).slots[_]? = _; rw [arrV_read _ _ hlt]) rfl rfl hdg kk
end WO
theorem in_of {x : Int32} {n : Nat} (h0 : ¬ x < 0) (h1 : ¬ Int32.ofNat n < x) (hn : n + 1 < 2 ^ 31) : x.toNatClampNeg < n + 1 ∧ vp_in x (n + 1) := by
  have h : x.toNatClampNeg < n + 1 := clamp_lt h0 (fun z => h1 (by
    rw [Int32.lt_iff_toInt_lt]
    have h2 := Int32.le_iff_toInt_le.mp z
    have e1 : (Int32.ofNat (n + 1)).toInt = (n + 1 : Nat) := nI_toInt hn
    have e2 : (Int32.ofNat n).toInt = (n : Nat) := nI_toInt (by omega)
    omega)) hn
  exact ⟨h, fun z => z.elim h0 (fun z => absurd h (by omega))⟩
set_option maxHeartbeats 4000000 in
set_option maxRecDepth 100000 in
theorem c_X4_set {l : Launch} {g : GG} {lay : LY} {E0 : ES} {o : Nat} {sv : Nat → Option Nat} {p1 : Int32} {p2 : Int32} {K : Int32 → ES → Prop} (hA : okL g lay) (HR : RL4 g lay o sv) (hw : wp_X4_set o E0 p1 p2 K) : JMi l g lay yX4_set wsX4_set rmX4_set [.ref o, .int p1, .int p2] E0 (fun r E1 => K r E1) := by
  refine Met.ofW (cc := cX4_set) (maxL := 3) (ret := (some .int)) (by decide) rfl ?_
  intro p e s m args below meth c s₁ B hml hv
  obtain ⟨rfl, hK, hW⟩ := hv
  have hx := B.exec
  have hb := B.bytes
  have hr := B.returns
  have hts := gd_of (atoms_spec (ws := wsX4_set) B.pre)
  have hown : s.vm.findClass RX4 = some m.cls := findClass_of_methodNamed B.named
  have hlocks := B.notSynchronized
  have hS : va_S (Ab g) s.heap s.heap [] := va_S.rf
  have hl := lv_entry [.ref o, .int p1, .int p2] (n := 3) (Nat.le_of_ble_eq_true rfl)
  rw [lg_entry_eq]
  generalize (lg_sl [.ref o, .int p1, .int p2] ++ List.replicate (3 - (lg_sl [.ref o, .int p1, .int p2]).length) Slot.unset).toArray = ls at hl ⊢
  have hl : lv_has ls 3 [(0, .ref o), (1, .int p1), (2, .int p2)] := hl
  unfold wp_X4_set at hw
  obtain ⟨t0, t1, -, hz1, -, ⟨f, hf, f0, f1, f2, f3, f4⟩⟩ := hK.2.2
  refine lv_iload_n hx hb dX4_set_0 rfl (lv_at hl 1 rfl) ?_
  refine lv_iconst (v := 0) hx hb dX4_set_1 (by decide) ?_
  refine w_gets (C := RX4) hx hb hown hz1 hW (hts _ wd_266) (fun _ h => h) dX4_set_2 ?_
  refine w_olen (v := 5) hx hb hK hW hf rfl dX4_set_5 ?_
  refine lv_iconst (v := 1) hx hb dX4_set_6 (by decide) ?_
  refine lv_isub hx hb dX4_set_7 ?_
  rw [show (5 : Int32) - 1 = 4 by decide]
  refine w_csi (As := [.int p1, .int 0, .int 4]) (rest := []) hx hb hml hown hts hK hW hS hl.1 (c_X4_isWithin (win_and hw)) (k_X4_30 hts ⟨(Nat.le_of_ble_eq_true rfl), (Nat.le_of_ble_eq_true rfl)⟩) rfl rfl (Nat.le_of_ble_eq_true rfl) dX4_set_8 ⟨Nat.zero_le _, Nat.zero_le _⟩ (fun r_1 Ez H locs hw2 hW hS => ?_)
  obtain ⟨ez, z_2, hw, hbn⟩ := hw2
  rw [ez] at hW
  refine lv_if_eq (tgt := 27) hx hb dX4_set_11 (by decide) (fun c_3 => ?_) (fun c_3 => ?_)
  · have hw := hw.1 c_3
    refine lv_bipush (v := (-2)) hx hb dX4_set_27 (by decide) ?_
    exact w_iret hx hb hr hlocks hW hS hw dX4_set_29
  · have hw := hw.2 c_3
    obtain ⟨hlt, hin⟩ := in_of (n := 4) (hbn c_3).1 (hbn c_3).2 (by decide)
    have hm : f p1.toNatClampNeg = mstA p1.toNatClampNeg := by
      rcases (by omega : p1.toNatClampNeg = 0 ∨ p1.toNatClampNeg = 1 ∨ p1.toNatClampNeg = 2 ∨ p1.toNatClampNeg = 3 ∨ p1.toNatClampNeg = 4) with z | z | z | z | z <;> rw [z]
      · rw [f0]; decide
      · rw [f1]; decide
      · rw [f2]; decide
      · rw [f3]; decide
      · rw [f4]; decide
    refine lv_iload_n hx hb dX4_set_14 rfl (lv_at hl 2 rfl) ?_
    refine lv_iconst (v := 1) hx hb dX4_set_15 (by decide) ?_
    refine w_gets (C := RX4) hx hb hown hz1 hW (hts _ wd_266) (fun _ h => h) dX4_set_16 ?_
    refine lv_iload_n hx hb dX4_set_19 rfl (lv_at hl 1 rfl) ?_
    refine w_oald hx hb hK hW hf hin dX4_set_20 ?_
    rw [hm]
    refine w_csi (As := [.int p2, .int 1, .int (mstA p1.toNatClampNeg)]) (rest := []) hx hb hml hown hts hK hW hS hl.1 (c_X4_isWithin hw) (k_X4_30 hts ⟨(Nat.le_of_ble_eq_true rfl), (Nat.le_of_ble_eq_true rfl)⟩) rfl rfl (Nat.le_of_ble_eq_true rfl) dX4_set_21 ⟨Nat.zero_le _, Nat.zero_le _⟩ (fun r_4 Ez H locs hw2 hW hS => ?_)
    obtain ⟨ez, z_5, hw⟩ := hw2
    rw [ez] at hW
    refine lv_if_ne (tgt := 30) hx hb dX4_set_24 (by decide) (fun c_6 => ?_) (fun c_6 => ?_)
    · have hw := hw.2 c_6
      refine lv_aload_n hx hb dX4_set_30 rfl (lv_at hl 0 rfl) ?_
      refine g_X4_10 hx hb hown hts hK hW HR.1 rfl dX4_set_31 ?_
      refine lv_iload_n hx hb dX4_set_34 rfl (lv_at hl 1 rfl) ?_
      refine lv_iload_n hx hb dX4_set_35 rfl (lv_at hl 2 rfl) ?_
      refine w_cvi (As := [.int p1, .int p2]) (rest := []) hx hb hml hown hts hK hW hS hl.1 (c_X0_changeSetting hA HR.2.1 (fun _ _ => rfl) hw) (k_X4_46 hts ⟨(Nat.le_of_ble_eq_true rfl), (Nat.le_of_ble_eq_true rfl)⟩) (w_recv hK hW HR.2.1.1 rfl rfl rfl) rfl rfl (Nat.le_of_ble_eq_true rfl) dX4_set_36 ⟨Nat.zero_le _, Nat.zero_le _⟩ (fun r_7 Ez H locs hw2 hW hS => ?_)
      obtain ⟨Y_8, ez, hw⟩ := hw2
      rw [ez] at hW
      exact w_iret hx hb hr hlocks hW hS (hw _ rfl) dX4_set_39
    · have hw := hw.1 c_6
      refine lv_bipush (v := (-2)) hx hb dX4_set_27 (by decide) ?_
      exact w_iret hx hb hr hlocks hW hS hw dX4_set_29
/-- where the saved exchanges lie -/
def SL (g : GG) (lay : LY) (o : Nat) (sv : Nat → Option Nat) : Prop := (∀ j a, j < 2 → sv j = some a → XL g lay a ∧ o + 56 ≤ a) ∧ ∀ a0 a1, sv 0 = some a0 → sv 1 = some a1 → a0 + 26 ≤ a1 ∨ a1 + 26 ≤ a0
def wp_X4_restore (o : Nat) (sv : Nat → Option Nat) (E0 : ES) (p1 : Int32) (K : Int32 → ES → Prop) : Prop := wp_X4_isWithin p1 0 1 (fun r => (r = 0 → K (-2) E0) ∧ (¬ r = 0 → (sv p1.toNatClampNeg = none → K (-5) E0) ∧ ∀ a, sv p1.toNatClampNeg = some a → wp_X0_copyFrom (vw (o + 1) E0) (vw a E0) (fun Y => ∀ X2 : ES, X2 = put 26 (o + 1) Y E0 → K (X2 (o + 1) 7) X2)))
set_option maxHeartbeats 4000000 in
set_option maxRecDepth 100000 in
theorem c_X4_restore {l : Launch} {g : GG} {lay : LY} {E0 : ES} {o : Nat} {sv : Nat → Option Nat} {p1 : Int32} {K : Int32 → ES → Prop} (hA : okL g lay) (HR : RL4 g lay o sv) (HS : SL g lay o sv) (hw : wp_X4_restore o sv E0 p1 K) : JMi l g lay yX4_restore wsX4_restore rmX4_restore [.ref o, .int p1] E0 (fun r E1 => K r E1) := by
  refine Met.ofW (cc := cX4_restore) (maxL := 3) (ret := (some .int)) (by decide) rfl ?_
  intro p e s m args below meth c s₁ B hml hv
  obtain ⟨rfl, hK, hW⟩ := hv
  have hx := B.exec
  have hb := B.bytes
  have hr := B.returns
  have hts := gd_of (atoms_spec (ws := wsX4_restore) B.pre)
  have hown : s.vm.findClass RX4 = some m.cls := findClass_of_methodNamed B.named
  have hlocks := B.notSynchronized
  have hS : va_S (Ab g) s.heap s.heap [] := va_S.rf
  have hl := lv_entry [.ref o, .int p1] (n := 3) (Nat.le_of_ble_eq_true rfl)
  rw [lg_entry_eq]
  generalize (lg_sl [.ref o, .int p1] ++ List.replicate (3 - (lg_sl [.ref o, .int p1]).length) Slot.unset).toArray = ls at hl ⊢
  have hl : lv_has ls 3 [(0, .ref o), (1, .int p1)] := hl
  unfold wp_X4_restore at hw
  refine lv_iload_n hx hb dX4_restore_0 rfl (lv_at hl 1 rfl) ?_
  refine lv_iconst (v := 0) hx hb dX4_restore_1 (by decide) ?_
  refine lv_aload_n hx hb dX4_restore_2 rfl (lv_at hl 0 rfl) ?_
  refine g_X4_19 hx hb hown hts hK hW HR.1 rfl dX4_restore_3 ?_
  refine w_alen (v := 2) hx hb hK hW 2 rfl HR.2.2.2.1 rfl rfl rfl dX4_restore_6 ?_
  refine lv_iconst (v := 1) hx hb dX4_restore_7 (by decide) ?_
  refine lv_isub hx hb dX4_restore_8 ?_
  rw [show (2 : Int32) - 1 = 1 by decide]
  refine w_csi (As := [.int p1, .int 0, .int 1]) (rest := []) hx hb hml hown hts hK hW hS hl.1 (c_X4_isWithin (win_and hw)) (k_X4_30 hts ⟨(Nat.le_of_ble_eq_true rfl), (Nat.le_of_ble_eq_true rfl)⟩) rfl rfl (Nat.le_of_ble_eq_true rfl) dX4_restore_9 ⟨Nat.zero_le _, Nat.zero_le _⟩ (fun r_1 Ez H locs hw2 hW hS => ?_)
  obtain ⟨ez, z_2, hw, hbn⟩ := hw2
  rw [ez] at hW
  refine lv_if_ne (tgt := 18) hx hb dX4_restore_12 (by decide) (fun c_3 => ?_) (fun c_3 => ?_)
  rotate_left
  · have hw := hw.1 c_3
    refine lv_bipush (v := (-2)) hx hb dX4_restore_15 (by decide) ?_
    exact w_iret hx hb hr hlocks hW hS hw dX4_restore_17
  have hw := hw.2 c_3
  obtain ⟨hlt, hin⟩ := in_of (n := 1) (hbn c_3).1 (hbn c_3).2 (by decide)
  refine lv_aload_n hx hb dX4_restore_18 rfl (lv_at hl 0 rfl) ?_
  refine g_X4_19 hx hb hown hts hK hW HR.1 rfl dX4_restore_19 ?_
  refine lv_iload_n hx hb dX4_restore_22 rfl (lv_at hl 1 rfl) ?_
  refine w_aldq hx hb hK hW 2 rfl HR.2.2.2.1 hin dX4_restore_23 ?_
  rcases hsv : sv p1.toNatClampNeg with _ | a
  · refine lv_astore_nN (lv' := [(2, .null), (0, .ref o), (1, .int p1)]) hx hb dX4_restore_24 rfl hl (by decide) rfl (fun ls hl => ?_)
    refine lv_aload_nN hx hb dX4_restore_25 rfl (lv_at hl 0 rfl) ?_
    refine lv_ifnonnullN hx hb dX4_restore_26 ?_
    refine lv_bipush (v := (-5)) hx hb dX4_restore_29 (by decide) ?_
    exact w_iret hx hb hr hlocks hW hS (hw.1 hsv) dX4_restore_31
  · obtain ⟨hXa, hoa⟩ := HS.1 _ a hlt hsv
    have hw := hw.2 a hsv
    refine lv_astore_n (lv' := [(2, .ref a), (0, .ref o), (1, .int p1)]) hx hb dX4_restore_24 rfl hl (by decide) rfl (fun ls hl => ?_)
    refine lv_aload_n hx hb dX4_restore_25 rfl (lv_at hl 0 rfl) ?_
    refine lv_ifnonnull (tgt := 32) hx hb dX4_restore_26 (by decide) ?_
    refine lv_aload_n hx hb dX4_restore_32 rfl (lv_at hl 1 rfl) ?_
    refine g_X4_10 hx hb hown hts hK hW HR.1 rfl dX4_restore_33 ?_
    refine lv_aload_n hx hb dX4_restore_36 rfl (lv_at hl 0 rfl) ?_
    refine w_cvv (As := [.ref a]) (rest := []) hx hb hml hown hts hK hW hS hl.1 (c_X0_copyFrom hA HR.2.1 hXa (fun _ _ => rfl) (fun _ _ => rfl) (by omega) hw) (k_X4_99 hts ⟨(Nat.le_of_ble_eq_true rfl), (Nat.le_of_ble_eq_true rfl)⟩) (w_recv hK hW HR.2.1.1 rfl rfl rfl) rfl rfl (Nat.le_of_ble_eq_true rfl) dX4_restore_37 ⟨Nat.zero_le _, Nat.zero_le _⟩ (fun Ez H locs hw2 hW hS => ?_)
    obtain ⟨Y, ez, hw⟩ := hw2
    rw [ez] at hW
    refine lv_aload_n hx hb dX4_restore_40 rfl (lv_at hl 1 rfl) ?_
    refine g_X4_10 hx hb hown hts hK hW HR.1 rfl dX4_restore_41 ?_
    refine g_X4_71 hx hb hown hts hK hW HR.2.1.1 rfl dX4_restore_44 ?_
    exact w_iret hx hb hr hlocks hW hS (hw _ rfl) dX4_restore_47
def wp_X4_save (o : Nat) (sv : Nat → Option Nat) (E0 : ES) (p1 : Int32) (K : Int32 → ES → (Nat → Option Nat) → Prop) : Prop := wp_X4_isWithin p1 0 1 (fun r => (r = 0 → K (-2) E0 sv) ∧ (¬ r = 0 → (sv p1.toNatClampNeg = none → ∀ (b : Nat) (fr : CS) (E1 : ES), o + 56 ≤ b → (∀ j a, j < 2 → sv j = some a → a + 26 ≤ b) → E1 = xbE E0 b 16 4 fr → wp_X0_copyFrom (vw b E1) (vw (o + 1) E1) (fun Y => ∀ X2 : ES, X2 = put 26 b Y E1 → K (X2 (o + 1) 7) X2 (va_up sv p1.toNatClampNeg (some b)))) ∧ ∀ a, sv p1.toNatClampNeg = some a → wp_X0_copyFrom (vw a E0) (vw (o + 1) E0) (fun Y => ∀ X2 : ES, X2 = put 26 a Y E0 → K (X2 (o + 1) 7) X2 sv)))
/-- what save answers: the layout may have grown by one exchange -/
def SvP (g : GG) (lay : LY) (o : Nat) (K : Int32 → ES → (Nat → Option Nat) → Prop) (r : Int32) (u : LY × (Nat → Option Nat) × ES) : Prop := okL g u.1 ∧ RL4 g u.1 o u.2.1 ∧ SL g u.1 o u.2.1 ∧ K r u.2.2 u.2.1
theorem w_svret {p : Program} {l : Launch} {e : Env} {R : Room} {s : State} {m : MethodId} {args : Array Value} {below : List Frame} {meth : Method} {c : Code} {H : Heap} {locs : List Loc} {cc : ByteArray} {pc : Nat} {ls : Array Slot} {g : GG} {lay : LY} {o : Nat} {K : Int32 → ES → (Nat → Option Nat) → Prop} {v : Int32} {u : LY × (Nat → Option Nat) × ES} (hx : p.tables.exec = Jvm.exec) (hb : c.code = cc) (hr : meth.sig.returnType = some .int) (hlocks : meth.locks = false) (hW : Wd g u.1 u.2.2 H) (hS : va_S (Ab g) s.heap H locs) (hq : SvP g lay o K v u) (hdg : decode cc pc = .ok (.ireturn, 1)) : W p l e R s m args below meth c H locs 26 244 (MQ below (va_Qi (S := LY × (Nat → Option Nat) × ES) (SvP g lay o K) (fun u t => Wd g u.1 u.2.2 t.heap) (Ab g)) args s 26 244 (Ab g)) (F0 m pc ls [.int v]) :=
  W.iret hx hb hr (fun t ht _ => ⟨⟨v, u, rfl, hq, (by show Wd g u.1 u.2.2 t.heap; rw [ht]; exact hW)⟩, hS.F ht⟩) hS.2.2 hdg hlocks
set_option maxHeartbeats 4000000 in
set_option maxRecDepth 100000 in
theorem c_X4_save {l : Launch} {g : GG} {lay : LY} {E0 : ES} {o : Nat} {sv : Nat → Option Nat} {p1 : Int32} {K : Int32 → ES → (Nat → Option Nat) → Prop} (hA : okL g lay) (HR : RL4 g lay o sv) (HS : SL g lay o sv) (hw : wp_X4_save o sv E0 p1 K) : Met l yX4_save wsX4_save rmX4_save (va_Pc [.ref o, .int p1] (fun U => KK g U ∧ Wd g lay E0 U.heap)) (va_Qi (S := LY × (Nat → Option Nat) × ES) (SvP g lay o K) (fun u t => Wd g u.1 u.2.2 t.heap) (Ab g)) 26 244 (Ab g) := by
  refine Met.ofW (cc := cX4_save) (maxL := 3) (ret := (some .int)) (by decide) rfl ?_
  intro p e s m args below meth c s₁ B hml hv
  obtain ⟨rfl, hK, hW⟩ := hv
  have hx := B.exec
  have hb := B.bytes
  have hr := B.returns
  have hts := gd_of (atoms_spec (ws := wsX4_save) B.pre)
  have hown : s.vm.findClass RX4 = some m.cls := findClass_of_methodNamed B.named
  have hlocks := B.notSynchronized
  have hS : va_S (Ab g) s.heap s.heap [] := va_S.rf
  have hl := lv_entry [.ref o, .int p1] (n := 3) (Nat.le_of_ble_eq_true rfl)
  rw [lg_entry_eq]
  generalize (lg_sl [.ref o, .int p1] ++ List.replicate (3 - (lg_sl [.ref o, .int p1]).length) Slot.unset).toArray = ls at hl ⊢
  have hl : lv_has ls 3 [(0, .ref o), (1, .int p1)] := hl
  unfold wp_X4_save at hw
  refine lv_iload_n hx hb dX4_save_0 rfl (lv_at hl 1 rfl) ?_
  refine lv_iconst (v := 0) hx hb dX4_save_1 (by decide) ?_
  refine lv_aload_n hx hb dX4_save_2 rfl (lv_at hl 0 rfl) ?_
  refine g_X4_19 hx hb hown hts hK hW HR.1 rfl dX4_save_3 ?_
  refine w_alen (v := 2) hx hb hK hW 2 rfl HR.2.2.2.1 rfl rfl rfl dX4_save_6 ?_
  refine lv_iconst (v := 1) hx hb dX4_save_7 (by decide) ?_
  refine lv_isub hx hb dX4_save_8 ?_
  rw [show (2 : Int32) - 1 = 1 by decide]
  refine w_csi (As := [.int p1, .int 0, .int 1]) (rest := []) hx hb hml hown hts hK hW hS hl.1 (c_X4_isWithin (win_and hw)) (k_X4_30 hts ⟨(Nat.le_of_ble_eq_true rfl), (Nat.le_of_ble_eq_true rfl)⟩) rfl rfl (Nat.le_of_ble_eq_true rfl) dX4_save_9 ⟨Nat.zero_le _, Nat.zero_le _⟩ (fun r_1 Ez H locs hw2 hW hS => ?_)
  obtain ⟨ez, z_2, hw, hbn⟩ := hw2
  rw [ez] at hW
  refine lv_if_ne (tgt := 18) hx hb dX4_save_12 (by decide) (fun c_3 => ?_) (fun c_3 => ?_)
  rotate_left
  · have hw := hw.1 c_3
    refine lv_bipush (v := (-2)) hx hb dX4_save_15 (by decide) ?_
    exact (w_svret (u := (lay, sv, E0)) hx hb hr hlocks hW hS ⟨hA, HR, HS, hw⟩ dX4_save_17).widen (Nat.zero_le _) (Nat.zero_le _)
  have hw := hw.2 c_3
  obtain ⟨hlt, hin⟩ := in_of (n := 1) (hbn c_3).1 (hbn c_3).2 (by decide)
  refine lv_aload_n hx hb dX4_save_18 rfl (lv_at hl 0 rfl) ?_
  refine g_X4_19 hx hb hown hts hK hW HR.1 rfl dX4_save_19 ?_
  refine lv_iload_n hx hb dX4_save_22 rfl (lv_at hl 1 rfl) ?_
  refine w_aldq hx hb hK hW 2 rfl HR.2.2.2.1 hin dX4_save_23 ?_
  rcases hsv : sv p1.toNatClampNeg with _ | a
  · have hw := hw.1 hsv
    have h62 : o + 54 + 1 < H.size := hW.lt HR.2.2.2.2.2
    have hGz : (gH g).size ≤ H.size := Nat.le_trans (hA _ _ HR.2.2.2.2.2) (Nat.le_of_lt h62)
    have hdis : ∀ j a, j < 2 → sv j = some a → a + 26 ≤ H.size := fun j a hj h => hW.lt ((HS.1 j a hj h).1.2.2.2.2.2 25 (Or.inr ⟨by decide, by decide⟩))
    refine lv_astore_nN (lv' := [(2, .null), (0, .ref o), (1, .int p1)]) hx hb dX4_save_24 rfl hl (by decide) rfl (fun ls hl => ?_)
    refine lv_aload_nN hx hb dX4_save_25 rfl (lv_at hl 0 rfl) ?_
    refine lv_ifnonnullN hx hb dX4_save_26 ?_
    refine w_xnew (nL := 3) hx hb hml hown hts hK hA hW hGz hS hl.1 ⟨(Nat.le_of_ble_eq_true rfl), (Nat.le_of_ble_eq_true rfl)⟩ (Nat.le_of_ble_eq_true rfl) dX4_save_29 dX4_save_32 dX4_save_33 ⟨(Nat.le_of_ble_eq_true rfl), (Nat.le_of_ble_eq_true rfl)⟩ (fun fr H1 locs hF hW hz hS => ?_)
    have hA2 := xbF_ok hA hGz
    generalize H.size = b at hW hz h62 hGz hdis hA2 ⊢
    have hw := hw b fr _ (by omega) hdis rfl
    have hoff : ∀ k, k < b → xbF g lay b k = lay k := fun k hk => xbF_off (Or.inl hk)
    refine lv_astore_n (lv' := [(2, .ref b), (0, .ref o), (1, .int p1)]) hx hb dX4_save_36 rfl hl (by decide) rfl (fun ls hl => ?_)
    refine lv_aload_n hx hb dX4_save_37 rfl (lv_at hl 1 rfl) ?_
    refine g_X4_19 (o := o) hx hb hown hts hK hW ((hoff o (by omega)).trans HR.1) rfl dX4_save_38 ?_
    refine lv_iload_n hx hb dX4_save_41 rfl (lv_at hl 2 rfl) ?_
    refine lv_aload_n hx hb dX4_save_42 rfl (lv_at hl 0 rfl) ?_
    have hXb : XL g (xbF g lay b) b := xbF_XL
    refine w_astq (n := 2) hx hb hK hA2 hW hS 2 0 ((hoff (o + 53) (by omega)).trans HR.2.2.2.1) rfl hXb.1 rfl rfl hin dX4_save_43 (fun H2 locs hz2 hW hS => ?_)
    have hA3 := okL.push (a := o + 53) (f := arQ (gX g) 2 (va_up sv p1.toNatClampNeg (some b))) hA2 (hA _ _ HR.2.2.2.1)
    have h3 : ∀ k, ¬ k = o + 53 → k < b → va_up (xbF g lay b) (o + 53) (some (arQ (gX g) 2 (va_up sv p1.toNatClampNeg (some b)))) k = lay k := fun k h1 h2 => (vuN h1).trans (hoff k h2)
    have hR3 : RL4 g (va_up (xbF g lay b) (o + 53) (some (arQ (gX g) 2 (va_up sv p1.toNatClampNeg (some b))))) o (va_up sv p1.toNatClampNeg (some b)) := ⟨(h3 o (by omega) (by omega)).trans HR.1, XL_congr (fun k hk => h3 _ (by omega) (by omega)) HR.2.1, XL_congr (fun k hk => h3 _ (by omega) (by omega)) HR.2.2.1, vuS _ _ _, (h3 _ (by omega) (by omega)).trans HR.2.2.2.2.1, (h3 _ (by omega) (by omega)).trans HR.2.2.2.2.2⟩
    have hXb : XL g (va_up (xbF g lay b) (o + 53) (some (arQ (gX g) 2 (va_up sv p1.toNatClampNeg (some b))))) b := XL_congr (fun k hk => vuN (by omega)) hXb
    have hS3 : SL g (va_up (xbF g lay b) (o + 53) (some (arQ (gX g) 2 (va_up sv p1.toNatClampNeg (some b))))) o (va_up sv p1.toNatClampNeg (some b)) := by
      refine ⟨fun j a hj h => ?_, fun a0 a1 h0 h1 => ?_⟩
      · by_cases e : j = p1.toNatClampNeg
        · rw [e, vuS] at h
          cases h
          exact ⟨hXb, by omega⟩
        · rw [vuN e] at h
          have q := HS.1 j a hj h
          have d := hdis j a hj h
          exact ⟨XL_congr (fun k hk => h3 _ (by omega) (by omega)) q.1, q.2⟩
      · by_cases e : 0 = p1.toNatClampNeg
        · rw [← e, vuS] at h0
          rw [← e, vuN (by decide)] at h1
          cases h0
          exact Or.inr (hdis 1 a1 (by decide) h1)
        · have e1 : p1.toNatClampNeg = 1 := by omega
          rw [e1, vuS] at h1
          rw [e1, vuN (by decide)] at h0
          cases h1
          exact Or.inl (hdis 0 a0 (by decide) h0)
    generalize va_up (xbF g lay b) (o + 53) (some (arQ (gX g) 2 (va_up sv p1.toNatClampNeg (some b)))) = y at hW hA3 hR3 hXb hS3
    refine lv_aload_n hx hb dX4_save_44 rfl (lv_at hl 0 rfl) ?_
    refine lv_aload_n hx hb dX4_save_45 rfl (lv_at hl 1 rfl) ?_
    refine g_X4_10 hx hb hown hts hK hW hR3.1 rfl dX4_save_46 ?_
    refine w_cvv (As := [.ref (o + 1)]) (rest := []) hx hb hml hown hts hK hW hS hl.1 (c_X0_copyFrom hA3 hXb hR3.2.1 (fun _ _ => rfl) (fun _ _ => rfl) (by omega) hw) (k_X4_99 hts ⟨(Nat.le_of_ble_eq_true rfl), (Nat.le_of_ble_eq_true rfl)⟩) (w_recv hK hW hXb.1 rfl rfl rfl) rfl rfl (Nat.le_of_ble_eq_true rfl) dX4_save_49 ⟨(Nat.le_of_ble_eq_true rfl), (Nat.le_of_ble_eq_true rfl)⟩ (fun Ez H locs hw2 hW hS => ?_)
    obtain ⟨Y, ez, hw⟩ := hw2
    rw [ez] at hW
    refine lv_aload_n hx hb dX4_save_52 rfl (lv_at hl 1 rfl) ?_
    refine g_X4_10 hx hb hown hts hK hW hR3.1 rfl dX4_save_53 ?_
    refine g_X4_71 hx hb hown hts hK hW hR3.2.1.1 rfl dX4_save_56 ?_
    exact w_svret (u := (y, va_up sv p1.toNatClampNeg (some b), _)) hx hb hr hlocks hW hS ⟨hA3, hR3, hS3, hw _ rfl⟩ dX4_save_59
  · obtain ⟨hXa, hoa⟩ := HS.1 _ a hlt hsv
    have hw := hw.2 a hsv
    refine lv_astore_n (lv' := [(2, .ref a), (0, .ref o), (1, .int p1)]) hx hb dX4_save_24 rfl hl (by decide) rfl (fun ls hl => ?_)
    refine lv_aload_n hx hb dX4_save_25 rfl (lv_at hl 0 rfl) ?_
    refine lv_ifnonnull (tgt := 44) hx hb dX4_save_26 (by decide) ?_
    refine lv_aload_n hx hb dX4_save_44 rfl (lv_at hl 0 rfl) ?_
    refine lv_aload_n hx hb dX4_save_45 rfl (lv_at hl 1 rfl) ?_
    refine g_X4_10 hx hb hown hts hK hW HR.1 rfl dX4_save_46 ?_
    refine w_cvv (As := [.ref (o + 1)]) (rest := []) hx hb hml hown hts hK hW hS hl.1 (c_X0_copyFrom hA hXa HR.2.1 (fun _ _ => rfl) (fun _ _ => rfl) (by omega) hw) (k_X4_99 hts ⟨(Nat.le_of_ble_eq_true rfl), (Nat.le_of_ble_eq_true rfl)⟩) (w_recv hK hW hXa.1 rfl rfl rfl) rfl rfl (Nat.le_of_ble_eq_true rfl) dX4_save_49 ⟨Nat.zero_le _, Nat.zero_le _⟩ (fun Ez H locs hw2 hW hS => ?_)
    obtain ⟨Y, ez, hw⟩ := hw2
    rw [ez] at hW
    refine lv_aload_n hx hb dX4_save_52 rfl (lv_at hl 1 rfl) ?_
    refine g_X4_10 hx hb hown hts hK hW HR.1 rfl dX4_save_53 ?_
    refine g_X4_71 hx hb hown hts hK hW HR.2.1.1 rfl dX4_save_56 ?_
    exact (w_svret (u := (lay, sv, _)) hx hb hr hlocks hW hS ⟨hA, HR, HS, hw _ rfl⟩ dX4_save_59).widen (Nat.zero_le _) (Nat.zero_le _)
