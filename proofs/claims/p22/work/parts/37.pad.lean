theorem wd_201 : Cond.methodLink RX3 3 objectInit ∈ lw_gd := gd_in (List.mem_of_getElem? (i := 201) (by decide +kernel)) (by decide +kernel)
theorem wd_194 : Cond.arrayClass .int ∈ lw_gd := gd_in (List.mem_of_getElem? (i := 194) (by decide +kernel)) (by decide +kernel)
set_option maxHeartbeats 4000000 in
theorem c_X3_init {l : Launch} {g : GG} {lay : LY} {E : ES} {a : Nat} (hA : okL g lay) (hla : lay a = some (objE 3 [.null, .int 0])) : JMn l g yX3_init wsX3_init rmX3_init [.ref a] lay E (a + 1) (va_up (va_up lay (a + 1) (some (arI g 60))) a (some (padE a))) (va_up (va_up E (a + 1) z0) a z0) (a + 2) 1 60 := by
  refine Met.ofW (cc := cX3_init) (maxL := 1) (ret := none) (by decide) rfl ?_
  intro p e s m args below meth c s₁ B hml hv
  obtain ⟨rfl, hK, hW, hsz⟩ := hv
  have hx := B.exec
  have hb := B.bytes
  have hr := B.returns
  have hts := gd_of (atoms_spec (ws := wsX3_init) B.pre)
  have hown : s.vm.findClass RX3 = some m.cls := findClass_of_methodNamed B.named
  have hlocks := B.notSynchronized
  have hS : va_S (Ab g) s.heap s.heap [] := va_S.rf
  have hgeA : ∀ f, okL g (va_up lay a (some f)) := fun f => okL.push hA (hA a _ hla)
  have hW : Wd g (va_up lay a (some (objE 3 [.null, .int 0]))) E s.heap := by rw [← hla, vuSelf]; exact hW
  have hl := lv_entry [.ref a] (n := 1) (Nat.le_of_ble_eq_true rfl)
  rw [lg_entry_eq]
  generalize (lg_sl [.ref a] ++ List.replicate (1 - (lg_sl [.ref a]).length) Slot.unset).toArray = ls at hl ⊢
  have hl : lv_has ls 1 [(0, .ref a)] := hl
  have hin := (name_of_methodNamed B.named B.method).1
  have hG0 : (gH g).size ≤ a := hA a _ hla
  have hgB : okL g lay := hA
  refine lv_aload_n hx hb dX3_init_0 rfl (lv_at hl 0 rfl) ?_
  refine w_objI (nL := 1) hx hb hml hown hts wd_201 wd_34 wd_35 hl.1 dX3_init_1 (Nat.le_of_ble_eq_true rfl) (Nat.le_of_ble_eq_true rfl) ?_
  refine lv_aload_n hx hb dX3_init_4 rfl (lv_at hl 0 rfl) ?_
  refine lv_bipush (v := (60)) hx hb dX3_init_5 (by decide) ?_
  refine w_newi (N := 60) hx hb hts hK hW (by omega) hS wd_194 (by decide) (by decide) (by decide) (Nat.le_of_ble_eq_true rfl) (Nat.le_of_ble_eq_true rfl) dX3_init_7 (fun H1 hz hW hS => ?_)
  rw [hsz] at hW hz ⊢
  have hgB := okL.push (a := (a + 1)) (f := arI g 60) hgB (by omega)
  have hW : Wd g (va_up (va_up lay (a + 1) (some (arI g 60))) a (some (objE 3 [.null, .int 0]))) (va_up E (a + 1) z0) H1 := by rw [vuCm (by omega)] at hW; exact hW
  have hgeA : ∀ f, okL g (va_up (va_up lay (a + 1) (some (arI g 60))) a (some f)) := fun f => okL.push hgB hG0
  have hsz : H1.size = a + 2 := hz
  refine w_putf (T := TX3) (N := 2) (ci := 3) (j := 0) hx hb hown hts hK (hgeA _) hW hS (vuS _ _ _) (Nat.le_of_ble_eq_true rfl) rfl (by decide) inX3 tyX3 tyX3_ok nmX3 wd_202 rfl rfl hin (ty := .array .int) rfl rfl rfl dX3_init_9 (fun H1 locs hz hW hS => ?_)
  have hsz := hz.trans hsz
  have hW : Wd g (va_up (va_up lay (a + 1) (some (arI g 60))) a (some (objE 3 [.ref (a + 1), .int 0]))) (va_up E (a + 1) z0) H1 := by rw [vuU] at hW; exact hW
  refine lv_aload_n hx hb dX3_init_12 rfl (lv_at hl 0 rfl) ?_
  refine lv_iconst (v := 0) hx hb dX3_init_13 (by decide) ?_
  refine w_puto (T := TX3) (N := 2) (ci := 3) (j := 1) hx hb hown hts hK (hgeA _) hW hS (vuS _ _ _) (Nat.le_of_ble_eq_true rfl) rfl (by decide) inX3 tyX3 tyX3_ok nmX3 wd_203 rfl rfl (ty := .int) rfl rfl rfl dX3_init_14 (fun H1 locs hz hW hS => ?_)
  have hsz := hz.trans hsz
  have hW : Wd g (va_up (va_up lay (a + 1) (some (arI g 60))) a (some (objE 3 [.ref (a + 1), .int 0]))) (va_up E (a + 1) z0) H1 := by rw [vuU] at hW; exact hW
  exact w_nret hx hb hr hlocks (recast1 (f := padE a) (L := z0) hW rfl) hS hsz dX3_init_17
