theorem wd_647 : Cond.methodLink RX5 1 objectInit ∈ lw_gd := gd_in (List.mem_of_getElem? (i := 647) (by decide +kernel)) (by decide +kernel)
theorem wd_698 : Cond.arrayClass .boolean ∈ lw_gd := gd_in (List.mem_of_getElem? (i := 698) (by decide +kernel)) (by decide +kernel)
-- ===== the model's init =====
def mlay (g : GG) (lay : LY) (a : Nat) : LY := va_up (va_up (va_up (va_up (va_up (va_up (va_up lay (a + 1) (some (arI g 233))) (a + 2) (some (arI g 233))) (a + 3) (some (arI g 466))) (a + 4) (some (arZ g 2))) (a + 5) (some (arI g 60))) (a + 6) (some (arI g 128))) a (some (modE a))
theorem mlay_ML {g : GG} {lay : LY} {a : Nat} : ML g (mlay g lay a) a := by
  unfold mlay ML
  refine ⟨vuS _ _ _, ?_, ?_, ?_, ?_, ?_, ?_⟩
  · rw [vuN (by omega), vuN (by omega), vuN (by omega), vuN (by omega), vuN (by omega), vuN (by omega), vuS]
  · rw [vuN (by omega), vuN (by omega), vuN (by omega), vuN (by omega), vuN (by omega), vuS]
  · rw [vuN (by omega), vuN (by omega), vuN (by omega), vuN (by omega), vuS]
  · rw [vuN (by omega), vuN (by omega), vuN (by omega), vuS]
  · rw [vuN (by omega), vuN (by omega), vuS]
  · rw [vuN (by omega), vuS]
def PM (M : ES) : Prop := (∃ (h : CS) (N G : ES), M 1 = flat h N G ∧ (h 0 = 0 ∧ h 1 = 2 ∧ h 2 = 1 ∧ h 3 = -6 ∧ h 4 = 0) ∧ (h 5 = 20 ∧ h 6 = 40 ∧ h 7 = 30 ∧ h 8 = 10 ∧ h 9 = 15) ∧ (∀ k, 10 ≤ k → k < 17 → h k = 0) ∧ (∀ i, i < 16 → ∀ w, w < 11 → N i w = 0) ∧ ∀ f, f < 4 → zF (G f)) ∧ M 0 5 = 0 ∧ M 4 0 = 0 ∧ M 4 1 = 0
def A5 : CS := upd (upd (upd (upd (upd z0 5 20) 6 40) 7 30) 8 10) 9 15
theorem begin_PM {X : ES} (h1 : X 1 = A5) (h0 : X 0 = z0) (h4 : X 4 = z0) : wp_X5_begin X 2 1 PM := by
  obtain ⟨h', N', G', b, b0, b59, b10, bN, bG⟩ := begin_q (X 1) (fun i w => X 1 (17 + 11 * i + w)) (fun f w => X 1 (193 + 10 * f + w)) 2 1
  have := b X PM ⟨⟨h', N', G', ms_1 _ _ _ _, b0, ?_, b10, bN, bG⟩, by rw [ms_k (by decide), h0]; rfl, by rw [ms_k (by decide), h4]; rfl, by rw [ms_k (by decide), h4]; rfl⟩
  · rw [← ms_of] at this
    exact this
  · rw [b59 5 (by decide) (by decide), b59 6 (by decide) (by decide), b59 7 (by decide) (by decide), b59 8 (by decide) (by decide), b59 9 (by decide) (by decide), h1]
    simp [A5, updA]
set_option maxHeartbeats 8000000 in
set_option maxRecDepth 100000 in
theorem c_X5_init {l : Launch} {g : GG} {lay : LY} {E : ES} {a : Nat} (hA : okL g lay) (hla : lay a = some (objE 5 [.null, .null, .null, .null, .null, .int 0, .int 0, .int 0, .null, .int 0])) : Met l yX5_init wsX5_init rmX5_init (va_Pc [.ref a] (fun U => KK g U ∧ Wd g lay E U.heap ∧ U.heap.size = a + 1)) (va_Qv (S := ES) (fun M => PM M) (fun M t => Wd g (mlay g lay a) (put 7 a M E) t.heap) (Ab g)) 6 1122 (Ab g) := by
  refine Met.ofW (cc := cX5_init) (maxL := 1) (ret := none) (by decide) rfl ?_
  intro p e s m args below meth c s₁ B hml hv
  obtain ⟨rfl, hK, hW, hsz⟩ := hv
  have hx := B.exec
  have hb := B.bytes
  have hr := B.returns
  have hts := gd_of (atoms_spec (ws := wsX5_init) B.pre)
  have hown : s.vm.findClass RX5 = some m.cls := findClass_of_methodNamed B.named
  have hlocks := B.notSynchronized
  have hS : va_S (Ab g) s.heap s.heap [] := va_S.rf
  have hgeA : ∀ f, okL g (va_up lay a (some f)) := fun f => okL.push hA (hA a _ hla)
  have hW : Wd g (va_up lay a (some (objE 5 [.null, .null, .null, .null, .null, .int 0, .int 0, .int 0, .null, .int 0]))) E s.heap := by rw [← hla, vuSelf]; exact hW
  have hl := lv_entry [.ref a] (n := 1) (Nat.le_of_ble_eq_true rfl)
  rw [lg_entry_eq]
  generalize (lg_sl [.ref a] ++ List.replicate (1 - (lg_sl [.ref a]).length) Slot.unset).toArray = ls at hl ⊢
  have hl : lv_has ls 1 [(0, .ref a)] := hl
  have hin := (name_of_methodNamed B.named B.method).1
  have hG0 : (gH g).size ≤ a := hA a _ hla
  have hgB : okL g lay := hA
  refine lv_aload_n hx hb dX5_init_0 rfl (lv_at hl 0 rfl) ?_
  refine w_objI (nL := 1) hx hb hml hown hts wd_647 wd_86 wd_87 hl.1 dX5_init_1 (Nat.le_of_ble_eq_true rfl) (Nat.le_of_ble_eq_true rfl) ?_
  refine lv_aload_n hx hb dX5_init_4 rfl (lv_at hl 0 rfl) ?_
  refine lv_sipush (v := (233)) hx hb dX5_init_5 (by decide) ?_
  refine w_newi (N := 233) hx hb hts hK hW (by omega) hS wd_247 (by decide) (by decide) (by decide) (Nat.le_of_ble_eq_true rfl) (Nat.le_of_ble_eq_true rfl) dX5_init_8 (fun H1 hz hW hS => ?_)
  rw [hsz] at hW hz ⊢
  have hgB := okL.push (a := (a + 1)) (f := arI g 233) hgB (by omega)
  have hW : Wd g (va_up (va_up lay (a + 1) (some (arI g 233))) a (some (objE 5 [.null, .null, .null, .null, .null, .int 0, .int 0, .int 0, .null, .int 0]))) (va_up E (a + 1) z0) H1 := by rw [vuCm (by omega)] at hW; exact hW
  have hgeA : ∀ f, okL g (va_up (va_up lay (a + 1) (some (arI g 233))) a (some f)) := fun f => okL.push hgB hG0
  have hsz : H1.size = a + 2 := hz
  refine w_putf (T := TX5) (N := 10) (ci := 5) (j := 0) hx hb hown hts hK (hgeA _) hW hS (vuS _ _ _) (Nat.le_of_ble_eq_true rfl) rfl (by decide) inX5 tyX5 tyX5_ok nmX5 wd_667 rfl rfl hin (ty := .array .int) rfl rfl rfl dX5_init_10 (fun H1 locs hz hW hS => ?_)
  have hsz := hz.trans hsz
  have hW : Wd g (va_up (va_up lay (a + 1) (some (arI g 233))) a (some (objE 5 [.ref (a + 1), .null, .null, .null, .null, .int 0, .int 0, .int 0, .null, .int 0]))) (va_up E (a + 1) z0) H1 := by rw [vuU] at hW; exact hW
  refine lv_aload_n hx hb dX5_init_13 rfl (lv_at hl 0 rfl) ?_
  refine lv_sipush (v := (233)) hx hb dX5_init_14 (by decide) ?_
  refine w_newi (N := 233) hx hb hts hK hW (by omega) hS wd_247 (by decide) (by decide) (by decide) (Nat.le_of_ble_eq_true rfl) (Nat.le_of_ble_eq_true rfl) dX5_init_17 (fun H1 hz hW hS => ?_)
  rw [hsz] at hW hz ⊢
  have hgB := okL.push (a := (a + 2)) (f := arI g 233) hgB (by omega)
  have hW : Wd g (va_up (va_up (va_up lay (a + 1) (some (arI g 233))) (a + 2) (some (arI g 233))) a (some (objE 5 [.ref (a + 1), .null, .null, .null, .null, .int 0, .int 0, .int 0, .null, .int 0]))) (va_up (va_up E (a + 1) z0) (a + 2) z0) H1 := by rw [vuCm (by omega)] at hW; exact hW
  have hgeA : ∀ f, okL g (va_up (va_up (va_up lay (a + 1) (some (arI g 233))) (a + 2) (some (arI g 233))) a (some f)) := fun f => okL.push hgB hG0
  have hsz : H1.size = a + 3 := hz
  refine w_putf (T := TX5) (N := 10) (ci := 5) (j := 1) hx hb hown hts hK (hgeA _) hW hS (vuS _ _ _) (Nat.le_of_ble_eq_true rfl) rfl (by decide) inX5 tyX5 tyX5_ok nmX5 wd_668 rfl rfl hin (ty := .array .int) rfl rfl rfl dX5_init_19 (fun H1 locs hz hW hS => ?_)
  have hsz := hz.trans hsz
  have hW : Wd g (va_up (va_up (va_up lay (a + 1) (some (arI g 233))) (a + 2) (some (arI g 233))) a (some (objE 5 [.ref (a + 1), .ref (a + 2), .null, .null, .null, .int 0, .int 0, .int 0, .null, .int 0]))) (va_up (va_up E (a + 1) z0) (a + 2) z0) H1 := by rw [vuU] at hW; exact hW
  refine lv_aload_n hx hb dX5_init_22 rfl (lv_at hl 0 rfl) ?_
  refine lv_sipush (v := (466)) hx hb dX5_init_23 (by decide) ?_
  refine w_newi (N := 466) hx hb hts hK hW (by omega) hS wd_247 (by decide) (by decide) (by decide) (Nat.le_of_ble_eq_true rfl) (Nat.le_of_ble_eq_true rfl) dX5_init_26 (fun H1 hz hW hS => ?_)
  rw [hsz] at hW hz ⊢
  have hgB := okL.push (a := (a + 3)) (f := arI g 466) hgB (by omega)
  have hW : Wd g (va_up (va_up (va_up (va_up lay (a + 1) (some (arI g 233))) (a + 2) (some (arI g 233))) (a + 3) (some (arI g 466))) a (some (objE 5 [.ref (a + 1), .ref (a + 2), .null, .null, .null, .int 0, .int 0, .int 0, .null, .int 0]))) (va_up (va_up (va_up E (a + 1) z0) (a + 2) z0) (a + 3) z0) H1 := by rw [vuCm (by omega)] at hW; exact hW
  have hgeA : ∀ f, okL g (va_up (va_up (va_up (va_up lay (a + 1) (some (arI g 233))) (a + 2) (some (arI g 233))) (a + 3) (some (arI g 466))) a (some f)) := fun f => okL.push hgB hG0
  have hsz : H1.size = a + 4 := hz
  refine w_putf (T := TX5) (N := 10) (ci := 5) (j := 2) hx hb hown hts hK (hgeA _) hW hS (vuS _ _ _) (Nat.le_of_ble_eq_true rfl) rfl (by decide) inX5 tyX5 tyX5_ok nmX5 wd_669 rfl rfl hin (ty := .array .int) rfl rfl rfl dX5_init_28 (fun H1 locs hz hW hS => ?_)
  have hsz := hz.trans hsz
  have hW : Wd g (va_up (va_up (va_up (va_up lay (a + 1) (some (arI g 233))) (a + 2) (some (arI g 233))) (a + 3) (some (arI g 466))) a (some (objE 5 [.ref (a + 1), .ref (a + 2), .ref (a + 3), .null, .null, .int 0, .int 0, .int 0, .null, .int 0]))) (va_up (va_up (va_up E (a + 1) z0) (a + 2) z0) (a + 3) z0) H1 := by rw [vuU] at hW; exact hW
  refine lv_aload_n hx hb dX5_init_31 rfl (lv_at hl 0 rfl) ?_
  refine lv_iconst (v := 2) hx hb dX5_init_32 (by decide) ?_
  refine w_newz (N := 2) hx hb hts hK hW (by omega) hS wd_698 (by decide) (by decide) (by decide) (Nat.le_of_ble_eq_true rfl) (Nat.le_of_ble_eq_true rfl) dX5_init_33 (fun H1 hz hW hS => ?_)
  rw [hsz] at hW hz ⊢
  have hgB := okL.push (a := (a + 4)) (f := arZ g 2) hgB (by omega)
  have hW : Wd g (va_up (va_up (va_up (va_up (va_up lay (a + 1) (some (arI g 233))) (a + 2) (some (arI g 233))) (a + 3) (some (arI g 466))) (a + 4) (some (arZ g 2))) a (some (objE 5 [.ref (a + 1), .ref (a + 2), .ref (a + 3), .null, .null, .int 0, .int 0, .int 0, .null, .int 0]))) (va_up (va_up (va_up (va_up E (a + 1) z0) (a + 2) z0) (a + 3) z0) (a + 4) z0) H1 := by rw [vuCm (by omega)] at hW; exact hW
  have hgeA : ∀ f, okL g (va_up (va_up (va_up (va_up (va_up lay (a + 1) (some (arI g 233))) (a + 2) (some (arI g 233))) (a + 3) (some (arI g 466))) (a + 4) (some (arZ g 2))) a (some f)) := fun f => okL.push hgB hG0
  have hsz : H1.size = a + 5 := hz
  refine w_putf (T := TX5) (N := 10) (ci := 5) (j := 3) hx hb hown hts hK (hgeA _) hW hS (vuS _ _ _) (Nat.le_of_ble_eq_true rfl) rfl (by decide) inX5 tyX5 tyX5_ok nmX5 wd_670 rfl rfl hin (ty := .array .boolean) rfl rfl rfl dX5_init_35 (fun H1 locs hz hW hS => ?_)
  have hsz := hz.trans hsz
  have hW : Wd g (va_up (va_up (va_up (va_up (va_up lay (a + 1) (some (arI g 233))) (a + 2) (some (arI g 233))) (a + 3) (some (arI g 466))) (a + 4) (some (arZ g 2))) a (some (objE 5 [.ref (a + 1), .ref (a + 2), .ref (a + 3), .ref (a + 4), .null, .int 0, .int 0, .int 0, .null, .int 0]))) (va_up (va_up (va_up (va_up E (a + 1) z0) (a + 2) z0) (a + 3) z0) (a + 4) z0) H1 := by rw [vuU] at hW; exact hW
  refine lv_aload_n hx hb dX5_init_38 rfl (lv_at hl 0 rfl) ?_
  refine lv_bipush (v := (60)) hx hb dX5_init_39 (by decide) ?_
  refine w_newi (N := 60) hx hb hts hK hW (by omega) hS wd_247 (by decide) (by decide) (by decide) (Nat.le_of_ble_eq_true rfl) (Nat.le_of_ble_eq_true rfl) dX5_init_41 (fun H1 hz hW hS => ?_)
  rw [hsz] at hW hz ⊢
  have hgB := okL.push (a := (a + 5)) (f := arI g 60) hgB (by omega)
  have hW : Wd g (va_up (va_up (va_up (va_up (va_up (va_up lay (a + 1) (some (arI g 233))) (a + 2) (some (arI g 233))) (a + 3) (some (arI g 466))) (a + 4) (some (arZ g 2))) (a + 5) (some (arI g 60))) a (some (objE 5 [.ref (a + 1), .ref (a + 2), .ref (a + 3), .ref (a + 4), .null, .int 0, .int 0, .int 0, .null, .int 0]))) (va_up (va_up (va_up (va_up (va_up E (a + 1) z0) (a + 2) z0) (a + 3) z0) (a + 4) z0) (a + 5) z0) H1 := by rw [vuCm (by omega)] at hW; exact hW
  have hgeA : ∀ f, okL g (va_up (va_up (va_up (va_up (va_up (va_up lay (a + 1) (some (arI g 233))) (a + 2) (some (arI g 233))) (a + 3) (some (arI g 466))) (a + 4) (some (arZ g 2))) (a + 5) (some (arI g 60))) a (some f)) := fun f => okL.push hgB hG0
  have hsz : H1.size = a + 6 := hz
  refine w_putf (T := TX5) (N := 10) (ci := 5) (j := 4) hx hb hown hts hK (hgeA _) hW hS (vuS _ _ _) (Nat.le_of_ble_eq_true rfl) rfl (by decide) inX5 tyX5 tyX5_ok nmX5 wd_671 rfl rfl hin (ty := .array .int) rfl rfl rfl dX5_init_43 (fun H1 locs hz hW hS => ?_)
  have hsz := hz.trans hsz
  have hW : Wd g (va_up (va_up (va_up (va_up (va_up (va_up lay (a + 1) (some (arI g 233))) (a + 2) (some (arI g 233))) (a + 3) (some (arI g 466))) (a + 4) (some (arZ g 2))) (a + 5) (some (arI g 60))) a (some (objE 5 [.ref (a + 1), .ref (a + 2), .ref (a + 3), .ref (a + 4), .ref (a + 5), .int 0, .int 0, .int 0, .null, .int 0]))) (va_up (va_up (va_up (va_up (va_up E (a + 1) z0) (a + 2) z0) (a + 3) z0) (a + 4) z0) (a + 5) z0) H1 := by rw [vuU] at hW; exact hW
  refine lv_aload_n hx hb dX5_init_46 rfl (lv_at hl 0 rfl) ?_
  refine lv_sipush (v := (128)) hx hb dX5_init_47 (by decide) ?_
  refine w_newi (N := 128) hx hb hts hK hW (by omega) hS wd_247 (by decide) (by decide) (by decide) (Nat.le_of_ble_eq_true rfl) (Nat.le_of_ble_eq_true rfl) dX5_init_50 (fun H1 hz hW hS => ?_)
  rw [hsz] at hW hz ⊢
  have hgB := okL.push (a := (a + 6)) (f := arI g 128) hgB (by omega)
  have hW : Wd g (va_up (va_up (va_up (va_up (va_up (va_up (va_up lay (a + 1) (some (arI g 233))) (a + 2) (some (arI g 233))) (a + 3) (some (arI g 466))) (a + 4) (some (arZ g 2))) (a + 5) (some (arI g 60))) (a + 6) (some (arI g 128))) a (some (objE 5 [.ref (a + 1), .ref (a + 2), .ref (a + 3), .ref (a + 4), .ref (a + 5), .int 0, .int 0, .int 0, .null, .int 0]))) (va_up (va_up (va_up (va_up (va_up (va_up E (a + 1) z0) (a + 2) z0) (a + 3) z0) (a + 4) z0) (a + 5) z0) (a + 6) z0) H1 := by rw [vuCm (by omega)] at hW; exact hW
  have hgeA : ∀ f, okL g (va_up (va_up (va_up (va_up (va_up (va_up (va_up lay (a + 1) (some (arI g 233))) (a + 2) (some (arI g 233))) (a + 3) (some (arI g 466))) (a + 4) (some (arZ g 2))) (a + 5) (some (arI g 60))) (a + 6) (some (arI g 128))) a (some f)) := fun f => okL.push hgB hG0
  have hsz : H1.size = a + 7 := hz
  refine w_putf (T := TX5) (N := 10) (ci := 5) (j := 8) hx hb hown hts hK (hgeA _) hW hS (vuS _ _ _) (Nat.le_of_ble_eq_true rfl) rfl (by decide) inX5 tyX5 tyX5_ok nmX5 wd_675 rfl rfl hin (ty := .array .int) rfl rfl rfl dX5_init_52 (fun H1 locs hz hW hS => ?_)
  have hsz := hz.trans hsz
  have hW : Wd g (va_up (va_up (va_up (va_up (va_up (va_up (va_up lay (a + 1) (some (arI g 233))) (a + 2) (some (arI g 233))) (a + 3) (some (arI g 466))) (a + 4) (some (arZ g 2))) (a + 5) (some (arI g 60))) (a + 6) (some (arI g 128))) a (some (objE 5 [.ref (a + 1), .ref (a + 2), .ref (a + 3), .ref (a + 4), .ref (a + 5), .int 0, .int 0, .int 0, .ref (a + 6), .int 0]))) (va_up (va_up (va_up (va_up (va_up (va_up E (a + 1) z0) (a + 2) z0) (a + 3) z0) (a + 4) z0) (a + 5) z0) (a + 6) z0) H1 := by rw [vuU] at hW; exact hW
  have hW : Wd g (mlay g lay a) (va_up (va_up (va_up (va_up (va_up (va_up (va_up E (a + 1) z0) (a + 2) z0) (a + 3) z0) (a + 4) z0) (a + 5) z0) (a + 6) z0) a z0) H1 := recast1 (f := modE a) (L := z0) hW rfl
  have hge : okL g (mlay g lay a) := okL.push hgB hG0
  have hML := mlay_ML (g := g) (lay := lay) (a := a)
  obtain ⟨EM, eEM⟩ : ∃ z : ES, z = (va_up (va_up (va_up (va_up (va_up (va_up (va_up E (a + 1) z0) (a + 2) z0) (a + 3) z0) (a + 4) z0) (a + 5) z0) (a + 6) z0) a z0) := ⟨_, rfl⟩
  rw [← eEM] at hW
  have f0 : EM a = z0 := by rw [eEM, vuS]
  have f1 : EM (a + 1) = z0 := by rw [eEM, vuN (by omega), vuN (by omega), vuN (by omega), vuN (by omega), vuN (by omega), vuN (by omega), vuS]
  have f4 : EM (a + 4) = z0 := by rw [eEM, vuN (by omega), vuN (by omega), vuN (by omega), vuS]
  have fo : ∀ k, ¬ (a ≤ k ∧ k < a + 7) → EM k = E k := fun k hk => by rw [eEM, vuN (by omega), vuN (by omega), vuN (by omega), vuN (by omega), vuN (by omega), vuN (by omega), vuN (by omega)]
  have hW : Wd g (mlay g lay a) (va_up EM (a + 1) z0) H1 := by rw [← f1, vuSelf]; exact hW
  refine lv_aload_n hx hb dX5_init_55 rfl (lv_at hl 0 rfl) ?_
  refine g_X5_7 (L := z0) hx hb hown hts hK hW hML.1 (by rw [vuN (by omega)]; exact f0) dX5_init_56 ?_
  refine lv_iconst (v := 5) hx hb dX5_init_59 (by decide) ?_
  refine lv_bipush (v := (20)) hx hb dX5_init_60 (by decide) ?_
  refine w_iast (E1 := va_up EM (a + 1) (upd z0 5 20)) hx hb hK hge hW hS hML.2.1 (vuS _ _ _) (pk_in 5 233 (by decide) (by decide)) dX5_init_62 (by rw [vuU]; rfl) (fun H1 locs hW hS => ?_)
  refine lv_aload_n hx hb dX5_init_63 rfl (lv_at hl 0 rfl) ?_
  refine g_X5_7 (L := z0) hx hb hown hts hK hW hML.1 (by rw [vuN (by omega)]; exact f0) dX5_init_64 ?_
  refine lv_bipush (v := (6)) hx hb dX5_init_67 (by decide) ?_
  refine lv_bipush (v := (40)) hx hb dX5_init_69 (by decide) ?_
  refine w_iast (E1 := va_up EM (a + 1) (upd (upd z0 5 20) 6 40)) hx hb hK hge hW hS hML.2.1 (vuS _ _ _) (pk_in 6 233 (by decide) (by decide)) dX5_init_71 (by rw [vuU]; rfl) (fun H1 locs hW hS => ?_)
  refine lv_aload_n hx hb dX5_init_72 rfl (lv_at hl 0 rfl) ?_
  refine g_X5_7 (L := z0) hx hb hown hts hK hW hML.1 (by rw [vuN (by omega)]; exact f0) dX5_init_73 ?_
  refine lv_bipush (v := (7)) hx hb dX5_init_76 (by decide) ?_
  refine lv_bipush (v := (30)) hx hb dX5_init_78 (by decide) ?_
  refine w_iast (E1 := va_up EM (a + 1) (upd (upd (upd z0 5 20) 6 40) 7 30)) hx hb hK hge hW hS hML.2.1 (vuS _ _ _) (pk_in 7 233 (by decide) (by decide)) dX5_init_80 (by rw [vuU]; rfl) (fun H1 locs hW hS => ?_)
  refine lv_aload_n hx hb dX5_init_81 rfl (lv_at hl 0 rfl) ?_
  refine g_X5_7 (L := z0) hx hb hown hts hK hW hML.1 (by rw [vuN (by omega)]; exact f0) dX5_init_82 ?_
  refine lv_bipush (v := (8)) hx hb dX5_init_85 (by decide) ?_
  refine lv_bipush (v := (10)) hx hb dX5_init_87 (by decide) ?_
  refine w_iast (E1 := va_up EM (a + 1) (upd (upd (upd (upd z0 5 20) 6 40) 7 30) 8 10)) hx hb hK hge hW hS hML.2.1 (vuS _ _ _) (pk_in 8 233 (by decide) (by decide)) dX5_init_89 (by rw [vuU]; rfl) (fun H1 locs hW hS => ?_)
  refine lv_aload_n hx hb dX5_init_90 rfl (lv_at hl 0 rfl) ?_
  refine g_X5_7 (L := z0) hx hb hown hts hK hW hML.1 (by rw [vuN (by omega)]; exact f0) dX5_init_91 ?_
  refine lv_bipush (v := (9)) hx hb dX5_init_94 (by decide) ?_
  refine lv_bipush (v := (15)) hx hb dX5_init_96 (by decide) ?_
  refine w_iast (E1 := va_up EM (a + 1) (upd (upd (upd (upd (upd z0 5 20) 6 40) 7 30) 8 10) 9 15)) hx hb hK hge hW hS hML.2.1 (vuS _ _ _) (pk_in 9 233 (by decide) (by decide)) dX5_init_98 (by rw [vuU]; rfl) (fun H1 locs hW hS => ?_)
  refine lv_aload_n hx hb dX5_init_99 rfl (lv_at hl 0 rfl) ?_
  refine lv_iconst (v := 2) hx hb dX5_init_100 (by decide) ?_
  refine lv_iconst (v := 1) hx hb dX5_init_101 (by decide) ?_
  have hw : wp_X5_begin (vw a (va_up EM (a + 1) A5)) 2 1 PM := begin_PM (vuS _ _ _) (by show va_up EM (a + 1) A5 (a + 0) = z0; rw [vuN (by omega)]; exact f0) (by show va_up EM (a + 1) A5 (a + 4) = z0; rw [vuN (by omega)]; exact f4)
  refine w_cvv (As := [.int 2, .int 1]) (rest := []) hx hb hml hown hts hK hW hS hl.1 (c_X5_begin hge hML (fun k hk => rfl) hw) (k_X5_29 hts ⟨Nat.le_of_ble_eq_true rfl, Nat.le_of_ble_eq_true rfl⟩) (w_recv hK hW hML.1 rfl rfl rfl) rfl rfl (Nat.le_of_ble_eq_true rfl) dX5_init_102 ⟨Nat.le_of_ble_eq_true rfl, Nat.le_of_ble_eq_true rfl⟩ (fun Ez H1 locs hw2 hW hS => ?_)
  obtain ⟨M, e2, hP⟩ := hw2
  have e3 : Ez = put 7 a M E := by
    rw [e2]
    funext k
    by_cases hk : a ≤ k ∧ k < a + 7
    · rw [put, put, if_pos hk, if_pos hk]
    · rw [put, put, if_neg hk, if_neg hk, vuN (by omega), fo k hk]
  exact W.vret hx hb hr (fun t ht _ => ⟨⟨M, rfl, hP, by show Wd g (mlay g lay a) (put 7 a M E) t.heap; rw [ht, ← e3]; exact hW⟩, hS.F ht⟩) hS.2.2 dX5_init_105 hlocks
