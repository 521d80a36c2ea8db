theorem wd_41 : Cond.methodLink RX0 3 objectInit ∈ lw_gd := gd_in (List.mem_of_getElem? (i := 41) (by decide +kernel)) (by decide +kernel)
theorem wd_141 : Cond.classLink RX0 38 "[I" ∈ lw_gd := gd_in (List.mem_of_getElem? (i := 141) (by decide +kernel)) (by decide +kernel)
theorem wd_139 : Cond.selects "[I" ⟨"[I", "clone", "()Ljava/lang/Object;"⟩ ⟨"java/lang/Object", "clone", "()Ljava/lang/Object;"⟩ ∈ lw_gd := gd_in (List.mem_of_getElem? (i := 139) (by decide +kernel)) (by decide +kernel)
theorem wd_138 : Cond.instanceMethod ⟨"java/lang/Object", "clone", "()Ljava/lang/Object;"⟩ ∈ lw_gd := gd_in (List.mem_of_getElem? (i := 138) (by decide +kernel)) (by decide +kernel)
theorem wd_137 : Cond.native ⟨"java/lang/Object", "clone", "()Ljava/lang/Object;"⟩ ∈ lw_gd := gd_in (List.mem_of_getElem? (i := 137) (by decide +kernel)) (by decide +kernel)
theorem wd_136 : Cond.sameMethod "[I" "java/lang/Object" "clone" "()Ljava/lang/Object;" ∈ lw_gd := gd_in (List.mem_of_getElem? (i := 136) (by decide +kernel)) (by decide +kernel)
theorem wd_135 : Cond.methodLink RX0 37 ⟨"[I", "clone", "()Ljava/lang/Object;"⟩ ∈ lw_gd := gd_in (List.mem_of_getElem? (i := 135) (by decide +kernel)) (by decide +kernel)
-- ===== the exchange's init =====
theorem vuIn {α : Type} {f : Nat → α} {a b : Nat} {x y z : α} (h : ¬ a = b) : va_up (va_up (va_up f b x) a y) b z = va_up (va_up f b z) a y := by
  rw [vuCm (f := va_up f b x) h, vuU]
def FS (fr : CS) : Prop := fr 0 = 20 ∧ fr 1 = 40 ∧ fr 2 = 30 ∧ fr 3 = 10 ∧ fr 4 = 15
theorem xbL_0 {g : GG} {lay : LY} {a : Nat} : va_up (va_up (va_up (va_up (va_up (va_up lay (a + 1) (some (arQ (gL g) 16 (fun _ => none)))) (a + 2) (some (arQ (gF g) 4 (fun _ => none)))) (a + 3) (some lineE)) (a + 4) (some finE)) (a + 5) (some (arI g 5))) a (some (exE a)) = xbL g lay a 0 0 := by
  funext k
  by_cases h0 : k = a
  · subst h0; simp [va_up, xbL]
  by_cases h1 : k = a + 1
  · subst h1; simp [va_up, xbL]
  by_cases h2 : k = a + 2
  · subst h2; simp [va_up, xbL]
  by_cases h3 : k = a + 3
  · subst h3; simp [va_up, xbL]
  by_cases h4 : k = a + 4
  · subst h4; simp [va_up, xbL]
  by_cases h5 : k = a + 5
  · subst h5; simp [va_up, xbL]
  rw [vuN h0, vuN h5, vuN h4, vuN h3, vuN h2, vuN h1, xbL, if_neg h0, if_neg h1, if_neg h2, if_neg h3, if_neg h4, if_neg h5, if_neg (by omega), if_neg (by omega)]
theorem xbE_0 {E : ES} {a : Nat} {fr : CS} : va_up (va_up (va_up (va_up (va_up (va_up E (a + 1) z0) (a + 2) z0) (a + 3) zLi) (a + 4) zFi) (a + 5) fr) a zEx = xbE E a 0 0 fr := by
  funext k
  by_cases h0 : k = a
  · subst h0; simp [va_up, xbE]
  by_cases h1 : k = a + 1
  · subst h1; simp [va_up, xbE]
  by_cases h2 : k = a + 2
  · subst h2; simp [va_up, xbE]
  by_cases h3 : k = a + 3
  · subst h3; simp [va_up, xbE]
  by_cases h4 : k = a + 4
  · subst h4; simp [va_up, xbE]
  by_cases h5 : k = a + 5
  · subst h5; simp [va_up, xbE]
  rw [vuN h0, vuN h5, vuN h4, vuN h3, vuN h2, vuN h1, xbE, if_neg h0, if_neg h1, if_neg h2, if_neg h3, if_neg h4, if_neg h5, if_neg (by omega), if_neg (by omega)]
set_option maxHeartbeats 8000000 in
set_option maxRecDepth 100000 in
theorem c_X0_init {l : Launch} {g : GG} {lay : LY} {E : ES} {a : Nat} (hA : okL g lay) (hla : lay a = some (objE 0 [.null, .null, .null, .null, .null, .int 0, .int 0, .int 0, .int 0, .int 0, .int 0, .int 0, .int 0, .int 0, .int 0, .int 0])) : Met l yX0_init wsX0_init rmX0_init (va_Pc [.ref a] (fun U => KK g U ∧ Wd g lay E U.heap ∧ U.heap.size = a + 1)) (va_Qv (S := CS) FS (fun fr t => Wd g (xbL g lay a 16 4) (xbE E a 16 4 fr) t.heap ∧ t.heap.size = a + 26) (Ab g)) 25 228 (Ab g) := by
  refine Met.ofW (cc := cX0_init) (maxL := 2) (ret := none) (by decide) rfl ?_
  intro p e s m args below meth c s₁ B hml hv
  obtain ⟨rfl, hK, hW, hsz⟩ := hv
  have hx := B.exec
  have hb := B.bytes
  have hr := B.returns
  have hts := gd_of (atoms_spec (ws := wsX0_init) B.pre)
  have hown : s.vm.findClass RX0 = some m.cls := findClass_of_methodNamed B.named
  have hlocks := B.notSynchronized
  have hS : va_S (Ab g) s.heap s.heap [] := va_S.rf
  have hgeA : ∀ f, okL g (va_up lay a (some f)) := fun f => okL.push hA (hA a _ hla)
  have hW : Wd g (va_up lay a (some (objE 0 [.null, .null, .null, .null, .null, .int 0, .int 0, .int 0, .int 0, .int 0, .int 0, .int 0, .int 0, .int 0, .int 0, .int 0]))) E s.heap := by rw [← hla, vuSelf]; exact hW
  have hl := lv_entry [.ref a] (n := 2) (Nat.le_of_ble_eq_true rfl)
  rw [lg_entry_eq]
  generalize (lg_sl [.ref a] ++ List.replicate (2 - (lg_sl [.ref a]).length) Slot.unset).toArray = ls at hl ⊢
  have hl : lv_has ls 2 [(0, .ref a)] := hl
  obtain ⟨t0, t1, hz0, -, ⟨fr, hfr, hFS⟩, -⟩ := hK.2.2
  have hnm : s.vm.findClass "[I" = some (gI g) := by
    have h := (hK.1.2 0 _ rfl).2
    have e : "[" ++ FieldType.int.toString = "[I" := by decide +kernel
    rw [← e]
    exact h
  have hin := (name_of_methodNamed B.named B.method).1
  have hG0 : (gH g).size ≤ a := hA a _ hla
  have hgB : okL g lay := hA
  refine lv_aload_n hx hb dX0_init_0 rfl (lv_at hl 0 rfl) ?_
  refine w_objI (nL := 2) hx hb hml hown hts wd_41 wd_34 wd_35 hl.1 dX0_init_1 (Nat.le_of_ble_eq_true rfl) (Nat.le_of_ble_eq_true rfl) ?_
  refine lv_aload_n hx hb dX0_init_4 rfl (lv_at hl 0 rfl) ?_
  refine lv_bipush (v := (16)) hx hb dX0_init_5 (by decide) ?_
  refine w_newq (N := 16) hx hb hown hts hK hW (by omega) hS wd_42 hK.2.1.2.2.2.2.2.2.2.2 4 rfl (by decide) (by decide) (by decide) (Nat.le_of_ble_eq_true rfl) (Nat.le_of_ble_eq_true rfl) dX0_init_7 (fun H1 hz hW hS => ?_)
  rw [hsz] at hW hz ⊢
  have hgB := okL.push (a := (a + 1)) (f := arQ (gL g) 16 (fun _ => none)) hgB (by omega)
  have hW : Wd g (va_up (va_up lay (a + 1) (some (arQ (gL g) 16 (fun _ => none)))) a (some (objE 0 [.null, .null, .null, .null, .null, .int 0, .int 0, .int 0, .int 0, .int 0, .int 0, .int 0, .int 0, .int 0, .int 0, .int 0]))) (va_up E (a + 1) z0) H1 := by rw [vuCm (by omega)] at hW; exact hW
  have hgeA : ∀ f, okL g (va_up (va_up lay (a + 1) (some (arQ (gL g) 16 (fun _ => none)))) a (some f)) := fun f => okL.push hgB hG0
  have hsz : H1.size = a + 2 := hz
  refine w_putf (T := TX0) (N := 16) (ci := 0) (j := 0) hx hb hown hts hK (hgeA _) hW hS (vuS _ _ _) (Nat.le_of_ble_eq_true rfl) rfl (by decide) inX0 tyX0 tyX0_ok nmX0 wd_142 rfl rfl hin (ty := .array (.object "RotaryExchange$Line")) rfl rfl rfl dX0_init_10 (fun H1 locs hz hW hS => ?_)
  have hsz := hz.trans hsz
  have hW : Wd g (va_up (va_up lay (a + 1) (some (arQ (gL g) 16 (fun _ => none)))) a (some (objE 0 [.ref (a + 1), .null, .null, .null, .null, .int 0, .int 0, .int 0, .int 0, .int 0, .int 0, .int 0, .int 0, .int 0, .int 0, .int 0]))) (va_up E (a + 1) z0) H1 := by rw [vuU] at hW; exact hW
  refine lv_aload_n hx hb dX0_init_13 rfl (lv_at hl 0 rfl) ?_
  refine lv_iconst (v := (4)) hx hb dX0_init_14 (by decide) ?_
  refine w_newq (N := 4) hx hb hown hts hK hW (by omega) hS wd_44 hK.2.1.2.2.2.2.2.2.2.1 3 rfl (by decide) (by decide) (by decide) (Nat.le_of_ble_eq_true rfl) (Nat.le_of_ble_eq_true rfl) dX0_init_15 (fun H1 hz hW hS => ?_)
  rw [hsz] at hW hz ⊢
  have hgB := okL.push (a := (a + 2)) (f := arQ (gF g) 4 (fun _ => none)) hgB (by omega)
  have hW : Wd g (va_up (va_up (va_up lay (a + 1) (some (arQ (gL g) 16 (fun _ => none)))) (a + 2) (some (arQ (gF g) 4 (fun _ => none)))) a (some (objE 0 [.ref (a + 1), .null, .null, .null, .null, .int 0, .int 0, .int 0, .int 0, .int 0, .int 0, .int 0, .int 0, .int 0, .int 0, .int 0]))) (va_up (va_up E (a + 1) z0) (a + 2) z0) H1 := by rw [vuCm (by omega)] at hW; exact hW
  have hgeA : ∀ f, okL g (va_up (va_up (va_up lay (a + 1) (some (arQ (gL g) 16 (fun _ => none)))) (a + 2) (some (arQ (gF g) 4 (fun _ => none)))) a (some f)) := fun f => okL.push hgB hG0
  have hsz : H1.size = a + 3 := hz
  refine w_putf (T := TX0) (N := 16) (ci := 0) (j := 1) hx hb hown hts hK (hgeA _) hW hS (vuS _ _ _) (Nat.le_of_ble_eq_true rfl) rfl (by decide) inX0 tyX0 tyX0_ok nmX0 wd_143 rfl rfl hin (ty := .array (.object "RotaryExchange$Finder")) rfl rfl rfl dX0_init_18 (fun H1 locs hz hW hS => ?_)
  have hsz := hz.trans hsz
  have hW : Wd g (va_up (va_up (va_up lay (a + 1) (some (arQ (gL g) 16 (fun _ => none)))) (a + 2) (some (arQ (gF g) 4 (fun _ => none)))) a (some (objE 0 [.ref (a + 1), .ref (a + 2), .null, .null, .null, .int 0, .int 0, .int 0, .int 0, .int 0, .int 0, .int 0, .int 0, .int 0, .int 0, .int 0]))) (va_up (va_up E (a + 1) z0) (a + 2) z0) H1 := by rw [vuU] at hW; exact hW
  refine lv_aload_n hx hb dX0_init_21 rfl (lv_at hl 0 rfl) ?_
  refine w_newo (f := objE 2 [.int 0, .int 0, .int 0, .int 0, .int 0, .int 0, .int 0, .int 0, .int 0]) (L := z0) hx hb hown hts hK hW (by omega) hS inX2 tyX2 tyX2_ok wd_42 wd_46 wd_25 rfl [.int 0, .int 0, .int 0, .int 0, .int 0, .int 0, .int 0, .int 0, .int 0] (fun j hj => by rcases (by omega : j = 0 ∨ j = 1 ∨ j = 2 ∨ j = 3 ∨ j = 4 ∨ j = 5 ∨ j = 6 ∨ j = 7 ∨ j = 8) with z | z | z | z | z | z | z | z | z <;> subst z <;> rfl) rfl (Nat.le_of_ble_eq_true rfl) (Nat.le_of_ble_eq_true rfl) dX0_init_22 (fun H1 hz hW hS => ?_)
  rw [hsz] at hW hz ⊢
  have hgB0 := okL.push (a := (a + 3)) (f := objE 2 [.int 0, .int 0, .int 0, .int 0, .int 0, .int 0, .int 0, .int 0, .int 0]) hgB (by omega)
  have hgB := okL.push (a := (a + 3)) (f := lineE) hgB (by omega)
  have hW : Wd g (va_up (va_up (va_up (va_up lay (a + 1) (some (arQ (gL g) 16 (fun _ => none)))) (a + 2) (some (arQ (gF g) 4 (fun _ => none)))) (a + 3) (some (objE 2 [.int 0, .int 0, .int 0, .int 0, .int 0, .int 0, .int 0, .int 0, .int 0]))) a (some (objE 0 [.ref (a + 1), .ref (a + 2), .null, .null, .null, .int 0, .int 0, .int 0, .int 0, .int 0, .int 0, .int 0, .int 0, .int 0, .int 0, .int 0]))) (va_up (va_up (va_up E (a + 1) z0) (a + 2) z0) (a + 3) z0) H1 := by rw [vuCm (by omega)] at hW; exact hW
  have hsz : H1.size = a + 4 := hz
  refine lv_dup hx hb dX0_init_25 rfl ?_
  refine w_iniN (rest := [.ref (a + 3), .ref a]) hx hb hml hown hts hK hW hS hl.1 (c_X2_init (sz := H1.size) (okL.push hgB0 hG0) (by rw [vuN (by omega), vuS])) (k_X0_23 hK.2.1 hts ⟨Nat.le_of_ble_eq_true rfl, Nat.le_of_ble_eq_true rfl⟩) (Nat.le_of_ble_eq_true rfl) dX0_init_26 ⟨Nat.le_of_ble_eq_true rfl, Nat.le_of_ble_eq_true rfl⟩ (fun H2 locs hz2 hW hS => ?_)
  have hW : Wd g (va_up (va_up (va_up (va_up lay (a + 1) (some (arQ (gL g) 16 (fun _ => none)))) (a + 2) (some (arQ (gF g) 4 (fun _ => none)))) (a + 3) (some lineE)) a (some (objE 0 [.ref (a + 1), .ref (a + 2), .null, .null, .null, .int 0, .int 0, .int 0, .int 0, .int 0, .int 0, .int 0, .int 0, .int 0, .int 0, .int 0]))) (va_up (va_up (va_up E (a + 1) z0) (a + 2) z0) (a + 3) zLi) H2 := by rw [vuIn (by omega), vuU] at hW; exact hW
  have hgeA : ∀ f, okL g (va_up (va_up (va_up (va_up lay (a + 1) (some (arQ (gL g) 16 (fun _ => none)))) (a + 2) (some (arQ (gF g) 4 (fun _ => none)))) (a + 3) (some lineE)) a (some f)) := fun f => okL.push hgB hG0
  have hsz : H2.size = a + 4 := hz2.trans hsz
  refine w_putf (T := TX0) (N := 16) (ci := 0) (j := 2) hx hb hown hts hK (hgeA _) hW hS (vuS _ _ _) (Nat.le_of_ble_eq_true rfl) rfl (by decide) inX0 tyX0 tyX0_ok nmX0 wd_144 rfl rfl hin (ty := .object "RotaryExchange$Line") rfl rfl rfl dX0_init_29 (fun H1 locs hz hW hS => ?_)
  have hsz := hz.trans hsz
  have hW : Wd g (va_up (va_up (va_up (va_up lay (a + 1) (some (arQ (gL g) 16 (fun _ => none)))) (a + 2) (some (arQ (gF g) 4 (fun _ => none)))) (a + 3) (some lineE)) a (some (objE 0 [.ref (a + 1), .ref (a + 2), .ref (a + 3), .null, .null, .int 0, .int 0, .int 0, .int 0, .int 0, .int 0, .int 0, .int 0, .int 0, .int 0, .int 0]))) (va_up (va_up (va_up E (a + 1) z0) (a + 2) z0) (a + 3) zLi) H1 := by rw [vuU] at hW; exact hW
  refine lv_aload_n hx hb dX0_init_32 rfl (lv_at hl 0 rfl) ?_
  refine w_newo (f := objE 1 [.int 0, .int 0, .int 0, .int 0, .int 0, .int 0, .int 0, .int 0, .int 0, .int 0]) (L := z0) hx hb hown hts hK hW (by omega) hS inX1 tyX1 tyX1_ok wd_44 wd_87 wd_26 rfl [.int 0, .int 0, .int 0, .int 0, .int 0, .int 0, .int 0, .int 0, .int 0, .int 0] (fun j hj => by rcases (by omega : j = 0 ∨ j = 1 ∨ j = 2 ∨ j = 3 ∨ j = 4 ∨ j = 5 ∨ j = 6 ∨ j = 7 ∨ j = 8 ∨ j = 9) with z | z | z | z | z | z | z | z | z | z <;> subst z <;> rfl) rfl (Nat.le_of_ble_eq_true rfl) (Nat.le_of_ble_eq_true rfl) dX0_init_33 (fun H1 hz hW hS => ?_)
  rw [hsz] at hW hz ⊢
  have hgB0 := okL.push (a := (a + 4)) (f := objE 1 [.int 0, .int 0, .int 0, .int 0, .int 0, .int 0, .int 0, .int 0, .int 0, .int 0]) hgB (by omega)
  have hgB := okL.push (a := (a + 4)) (f := finE) hgB (by omega)
  have hW : Wd g (va_up (va_up (va_up (va_up (va_up lay (a + 1) (some (arQ (gL g) 16 (fun _ => none)))) (a + 2) (some (arQ (gF g) 4 (fun _ => none)))) (a + 3) (some lineE)) (a + 4) (some (objE 1 [.int 0, .int 0, .int 0, .int 0, .int 0, .int 0, .int 0, .int 0, .int 0, .int 0]))) a (some (objE 0 [.ref (a + 1), .ref (a + 2), .ref (a + 3), .null, .null, .int 0, .int 0, .int 0, .int 0, .int 0, .int 0, .int 0, .int 0, .int 0, .int 0, .int 0]))) (va_up (va_up (va_up (va_up E (a + 1) z0) (a + 2) z0) (a + 3) zLi) (a + 4) z0) H1 := by rw [vuCm (by omega)] at hW; exact hW
  have hsz : H1.size = a + 5 := hz
  refine lv_dup hx hb dX0_init_36 rfl ?_
  refine w_iniN (rest := [.ref (a + 4), .ref a]) hx hb hml hown hts hK hW hS hl.1 (c_X1_init (sz := H1.size) (okL.push hgB0 hG0) (by rw [vuN (by omega), vuS])) (k_X0_28 hK.2.1 hts ⟨Nat.le_of_ble_eq_true rfl, Nat.le_of_ble_eq_true rfl⟩) (Nat.le_of_ble_eq_true rfl) dX0_init_37 ⟨Nat.le_of_ble_eq_true rfl, Nat.le_of_ble_eq_true rfl⟩ (fun H2 locs hz2 hW hS => ?_)
  have hW : Wd g (va_up (va_up (va_up (va_up (va_up lay (a + 1) (some (arQ (gL g) 16 (fun _ => none)))) (a + 2) (some (arQ (gF g) 4 (fun _ => none)))) (a + 3) (some lineE)) (a + 4) (some finE)) a (some (objE 0 [.ref (a + 1), .ref (a + 2), .ref (a + 3), .null, .null, .int 0, .int 0, .int 0, .int 0, .int 0, .int 0, .int 0, .int 0, .int 0, .int 0, .int 0]))) (va_up (va_up (va_up (va_up E (a + 1) z0) (a + 2) z0) (a + 3) zLi) (a + 4) zFi) H2 := by rw [vuIn (by omega), vuU] at hW; exact hW
  have hgeA : ∀ f, okL g (va_up (va_up (va_up (va_up (va_up lay (a + 1) (some (arQ (gL g) 16 (fun _ => none)))) (a + 2) (some (arQ (gF g) 4 (fun _ => none)))) (a + 3) (some lineE)) (a + 4) (some finE)) a (some f)) := fun f => okL.push hgB hG0
  have hsz : H2.size = a + 5 := hz2.trans hsz
  refine w_putf (T := TX0) (N := 16) (ci := 0) (j := 3) hx hb hown hts hK (hgeA _) hW hS (vuS _ _ _) (Nat.le_of_ble_eq_true rfl) rfl (by decide) inX0 tyX0 tyX0_ok nmX0 wd_145 rfl rfl hin (ty := .object "RotaryExchange$Finder") rfl rfl rfl dX0_init_40 (fun H1 locs hz hW hS => ?_)
  have hsz := hz.trans hsz
  have hW : Wd g (va_up (va_up (va_up (va_up (va_up lay (a + 1) (some (arQ (gL g) 16 (fun _ => none)))) (a + 2) (some (arQ (gF g) 4 (fun _ => none)))) (a + 3) (some lineE)) (a + 4) (some finE)) a (some (objE 0 [.ref (a + 1), .ref (a + 2), .ref (a + 3), .ref (a + 4), .null, .int 0, .int 0, .int 0, .int 0, .int 0, .int 0, .int 0, .int 0, .int 0, .int 0, .int 0]))) (va_up (va_up (va_up (va_up E (a + 1) z0) (a + 2) z0) (a + 3) zLi) (a + 4) zFi) H1 := by rw [vuU] at hW; exact hW
  refine lv_aload_n hx hb dX0_init_43 rfl (lv_at hl 0 rfl) ?_
  refine w_getsN (C := RX4) hx hb hown hz0 hW (va_Nw.use rfl hK.2.1.2.2.2.2.1) (fun _ h => h) dX0_init_44 ?_
  refine w_clone hx hb (hml.trans hl.1.symm) hown hts hK hW (by omega) hS wd_135 wd_136 wd_137 wd_138 wd_139 hK.2.1.2.2.2.2.2.1 hnm hfr (Nat.le_of_ble_eq_true rfl) (Nat.le_of_ble_eq_true rfl) (Nat.le_of_ble_eq_true rfl) (Nat.le_of_ble_eq_true rfl) dX0_init_47 (fun H1 hz hW hS => ?_)
  rw [hsz] at hW hz ⊢
  have hgB := okL.push (a := (a + 5)) (f := arI g 5) hgB (by omega)
  have hW : Wd g (va_up (va_up (va_up (va_up (va_up (va_up lay (a + 1) (some (arQ (gL g) 16 (fun _ => none)))) (a + 2) (some (arQ (gF g) 4 (fun _ => none)))) (a + 3) (some lineE)) (a + 4) (some finE)) (a + 5) (some (arI g 5))) a (some (objE 0 [.ref (a + 1), .ref (a + 2), .ref (a + 3), .ref (a + 4), .null, .int 0, .int 0, .int 0, .int 0, .int 0, .int 0, .int 0, .int 0, .int 0, .int 0, .int 0]))) (va_up (va_up (va_up (va_up (va_up E (a + 1) z0) (a + 2) z0) (a + 3) zLi) (a + 4) zFi) (a + 5) fr) H1 := by rw [vuCm (by omega)] at hW; exact hW
  have hgeA : ∀ f, okL g (va_up (va_up (va_up (va_up (va_up (va_up lay (a + 1) (some (arQ (gL g) 16 (fun _ => none)))) (a + 2) (some (arQ (gF g) 4 (fun _ => none)))) (a + 3) (some lineE)) (a + 4) (some finE)) (a + 5) (some (arI g 5))) a (some f)) := fun f => okL.push hgB hG0
  have hsz : H1.size = a + 6 := hz
  refine va_castA hx hb hown (hts _ wd_141) (hW.one (a := a + 5) (by rw [vuN (by omega), vuS]) (vuS _ _ _) rfl) 0 rfl hnm dX0_init_50 ?_
  refine w_putf (T := TX0) (N := 16) (ci := 0) (j := 4) hx hb hown hts hK (hgeA _) hW hS (vuS _ _ _) (Nat.le_of_ble_eq_true rfl) rfl (by decide) inX0 tyX0 tyX0_ok nmX0 wd_146 rfl rfl hin (ty := .array .int) rfl rfl rfl dX0_init_53 (fun H1 locs hz hW hS => ?_)
  have hsz := hz.trans hsz
  have hW : Wd g (va_up (va_up (va_up (va_up (va_up (va_up lay (a + 1) (some (arQ (gL g) 16 (fun _ => none)))) (a + 2) (some (arQ (gF g) 4 (fun _ => none)))) (a + 3) (some lineE)) (a + 4) (some finE)) (a + 5) (some (arI g 5))) a (some (objE 0 [.ref (a + 1), .ref (a + 2), .ref (a + 3), .ref (a + 4), .ref (a + 5), .int 0, .int 0, .int 0, .int 0, .int 0, .int 0, .int 0, .int 0, .int 0, .int 0, .int 0]))) (va_up (va_up (va_up (va_up (va_up E (a + 1) z0) (a + 2) z0) (a + 3) zLi) (a + 4) zFi) (a + 5) fr) H1 := by rw [vuU] at hW; exact hW
  refine lv_aload_n hx hb dX0_init_56 rfl (lv_at hl 0 rfl) ?_
  refine lv_iconst (v := (2)) hx hb dX0_init_57 (by decide) ?_
  refine w_puto (T := TX0) (N := 16) (ci := 0) (j := 5) hx hb hown hts hK (hgeA _) hW hS (vuS _ _ _) (Nat.le_of_ble_eq_true rfl) rfl (by decide) inX0 tyX0 tyX0_ok nmX0 wd_147 rfl rfl (ty := .int) rfl rfl rfl dX0_init_58 (fun H1 locs hz hW hS => ?_)
  have hsz := hz.trans hsz
  have hW : Wd g (va_up (va_up (va_up (va_up (va_up (va_up lay (a + 1) (some (arQ (gL g) 16 (fun _ => none)))) (a + 2) (some (arQ (gF g) 4 (fun _ => none)))) (a + 3) (some lineE)) (a + 4) (some finE)) (a + 5) (some (arI g 5))) a (some (objE 0 [.ref (a + 1), .ref (a + 2), .ref (a + 3), .ref (a + 4), .ref (a + 5), .int 2, .int 0, .int 0, .int 0, .int 0, .int 0, .int 0, .int 0, .int 0, .int 0, .int 0]))) (va_up (va_up (va_up (va_up (va_up E (a + 1) z0) (a + 2) z0) (a + 3) zLi) (a + 4) zFi) (a + 5) fr) H1 := by rw [vuU] at hW; exact hW
  refine lv_aload_n hx hb dX0_init_61 rfl (lv_at hl 0 rfl) ?_
  refine lv_iconst (v := (1)) hx hb dX0_init_62 (by decide) ?_
  refine w_puto (T := TX0) (N := 16) (ci := 0) (j := 6) hx hb hown hts hK (hgeA _) hW hS (vuS _ _ _) (Nat.le_of_ble_eq_true rfl) rfl (by decide) inX0 tyX0 tyX0_ok nmX0 wd_149 rfl rfl (ty := .int) rfl rfl rfl dX0_init_63 (fun H1 locs hz hW hS => ?_)
  have hsz := hz.trans hsz
  have hW : Wd g (va_up (va_up (va_up (va_up (va_up (va_up lay (a + 1) (some (arQ (gL g) 16 (fun _ => none)))) (a + 2) (some (arQ (gF g) 4 (fun _ => none)))) (a + 3) (some lineE)) (a + 4) (some finE)) (a + 5) (some (arI g 5))) a (some (objE 0 [.ref (a + 1), .ref (a + 2), .ref (a + 3), .ref (a + 4), .ref (a + 5), .int 2, .int 1, .int 0, .int 0, .int 0, .int 0, .int 0, .int 0, .int 0, .int 0, .int 0]))) (va_up (va_up (va_up (va_up (va_up E (a + 1) z0) (a + 2) z0) (a + 3) zLi) (a + 4) zFi) (a + 5) fr) H1 := by rw [vuU] at hW; exact hW
  refine lv_aload_n hx hb dX0_init_66 rfl (lv_at hl 0 rfl) ?_
  refine lv_iconst (v := (0)) hx hb dX0_init_67 (by decide) ?_
  refine w_puto (T := TX0) (N := 16) (ci := 0) (j := 7) hx hb hown hts hK (hgeA _) hW hS (vuS _ _ _) (Nat.le_of_ble_eq_true rfl) rfl (by decide) inX0 tyX0 tyX0_ok nmX0 wd_151 rfl rfl (ty := .int) rfl rfl rfl dX0_init_68 (fun H1 locs hz hW hS => ?_)
  have hsz := hz.trans hsz
  have hW : Wd g (va_up (va_up (va_up (va_up (va_up (va_up lay (a + 1) (some (arQ (gL g) 16 (fun _ => none)))) (a + 2) (some (arQ (gF g) 4 (fun _ => none)))) (a + 3) (some lineE)) (a + 4) (some finE)) (a + 5) (some (arI g 5))) a (some (objE 0 [.ref (a + 1), .ref (a + 2), .ref (a + 3), .ref (a + 4), .ref (a + 5), .int 2, .int 1, .int 0, .int 0, .int 0, .int 0, .int 0, .int 0, .int 0, .int 0, .int 0]))) (va_up (va_up (va_up (va_up (va_up E (a + 1) z0) (a + 2) z0) (a + 3) zLi) (a + 4) zFi) (a + 5) fr) H1 := by rw [vuU] at hW; exact hW
  refine lv_aload_n hx hb dX0_init_71 rfl (lv_at hl 0 rfl) ?_
  refine lv_iconst (v := (-1)) hx hb dX0_init_72 (by decide) ?_
  refine w_puto (T := TX0) (N := 16) (ci := 0) (j := 8) hx hb hown hts hK (hgeA _) hW hS (vuS _ _ _) (Nat.le_of_ble_eq_true rfl) rfl (by decide) inX0 tyX0 tyX0_ok nmX0 wd_153 rfl rfl (ty := .int) rfl rfl rfl dX0_init_73 (fun H1 locs hz hW hS => ?_)
  have hsz := hz.trans hsz
  have hW : Wd g (va_up (va_up (va_up (va_up (va_up (va_up lay (a + 1) (some (arQ (gL g) 16 (fun _ => none)))) (a + 2) (some (arQ (gF g) 4 (fun _ => none)))) (a + 3) (some lineE)) (a + 4) (some finE)) (a + 5) (some (arI g 5))) a (some (objE 0 [.ref (a + 1), .ref (a + 2), .ref (a + 3), .ref (a + 4), .ref (a + 5), .int 2, .int 1, .int 0, .int (-1), .int 0, .int 0, .int 0, .int 0, .int 0, .int 0, .int 0]))) (va_up (va_up (va_up (va_up (va_up E (a + 1) z0) (a + 2) z0) (a + 3) zLi) (a + 4) zFi) (a + 5) fr) H1 := by rw [vuU] at hW; exact hW
  refine lv_aload_n hx hb dX0_init_76 rfl (lv_at hl 0 rfl) ?_
  refine lv_iconst (v := (0)) hx hb dX0_init_77 (by decide) ?_
  refine w_puto (T := TX0) (N := 16) (ci := 0) (j := 9) hx hb hown hts hK (hgeA _) hW hS (vuS _ _ _) (Nat.le_of_ble_eq_true rfl) rfl (by decide) inX0 tyX0 tyX0_ok nmX0 wd_154 rfl rfl (ty := .int) rfl rfl rfl dX0_init_78 (fun H1 locs hz hW hS => ?_)
  have hsz := hz.trans hsz
  have hW : Wd g (va_up (va_up (va_up (va_up (va_up (va_up lay (a + 1) (some (arQ (gL g) 16 (fun _ => none)))) (a + 2) (some (arQ (gF g) 4 (fun _ => none)))) (a + 3) (some lineE)) (a + 4) (some finE)) (a + 5) (some (arI g 5))) a (some (objE 0 [.ref (a + 1), .ref (a + 2), .ref (a + 3), .ref (a + 4), .ref (a + 5), .int 2, .int 1, .int 0, .int (-1), .int 0, .int 0, .int 0, .int 0, .int 0, .int 0, .int 0]))) (va_up (va_up (va_up (va_up (va_up E (a + 1) z0) (a + 2) z0) (a + 3) zLi) (a + 4) zFi) (a + 5) fr) H1 := by rw [vuU] at hW; exact hW
  refine lv_aload_n hx hb dX0_init_81 rfl (lv_at hl 0 rfl) ?_
  refine lv_iconst (v := (0)) hx hb dX0_init_82 (by decide) ?_
  refine w_puto (T := TX0) (N := 16) (ci := 0) (j := 10) hx hb hown hts hK (hgeA _) hW hS (vuS _ _ _) (Nat.le_of_ble_eq_true rfl) rfl (by decide) inX0 tyX0 tyX0_ok nmX0 wd_155 rfl rfl (ty := .int) rfl rfl rfl dX0_init_83 (fun H1 locs hz hW hS => ?_)
  have hsz := hz.trans hsz
  have hW : Wd g (va_up (va_up (va_up (va_up (va_up (va_up lay (a + 1) (some (arQ (gL g) 16 (fun _ => none)))) (a + 2) (some (arQ (gF g) 4 (fun _ => none)))) (a + 3) (some lineE)) (a + 4) (some finE)) (a + 5) (some (arI g 5))) a (some (objE 0 [.ref (a + 1), .ref (a + 2), .ref (a + 3), .ref (a + 4), .ref (a + 5), .int 2, .int 1, .int 0, .int (-1), .int 0, .int 0, .int 0, .int 0, .int 0, .int 0, .int 0]))) (va_up (va_up (va_up (va_up (va_up E (a + 1) z0) (a + 2) z0) (a + 3) zLi) (a + 4) zFi) (a + 5) fr) H1 := by rw [vuU] at hW; exact hW
  refine lv_aload_n hx hb dX0_init_86 rfl (lv_at hl 0 rfl) ?_
  refine lv_iconst (v := (0)) hx hb dX0_init_87 (by decide) ?_
  refine w_puto (T := TX0) (N := 16) (ci := 0) (j := 11) hx hb hown hts hK (hgeA _) hW hS (vuS _ _ _) (Nat.le_of_ble_eq_true rfl) rfl (by decide) inX0 tyX0 tyX0_ok nmX0 wd_156 rfl rfl (ty := .int) rfl rfl rfl dX0_init_88 (fun H1 locs hz hW hS => ?_)
  have hsz := hz.trans hsz
  have hW : Wd g (va_up (va_up (va_up (va_up (va_up (va_up lay (a + 1) (some (arQ (gL g) 16 (fun _ => none)))) (a + 2) (some (arQ (gF g) 4 (fun _ => none)))) (a + 3) (some lineE)) (a + 4) (some finE)) (a + 5) (some (arI g 5))) a (some (objE 0 [.ref (a + 1), .ref (a + 2), .ref (a + 3), .ref (a + 4), .ref (a + 5), .int 2, .int 1, .int 0, .int (-1), .int 0, .int 0, .int 0, .int 0, .int 0, .int 0, .int 0]))) (va_up (va_up (va_up (va_up (va_up E (a + 1) z0) (a + 2) z0) (a + 3) zLi) (a + 4) zFi) (a + 5) fr) H1 := by rw [vuU] at hW; exact hW
  refine lv_aload_n hx hb dX0_init_91 rfl (lv_at hl 0 rfl) ?_
  refine lv_iconst (v := (0)) hx hb dX0_init_92 (by decide) ?_
  refine w_puto (T := TX0) (N := 16) (ci := 0) (j := 12) hx hb hown hts hK (hgeA _) hW hS (vuS _ _ _) (Nat.le_of_ble_eq_true rfl) rfl (by decide) inX0 tyX0 tyX0_ok nmX0 wd_157 rfl rfl (ty := .int) rfl rfl rfl dX0_init_93 (fun H1 locs hz hW hS => ?_)
  have hsz := hz.trans hsz
  have hW : Wd g (va_up (va_up (va_up (va_up (va_up (va_up lay (a + 1) (some (arQ (gL g) 16 (fun _ => none)))) (a + 2) (some (arQ (gF g) 4 (fun _ => none)))) (a + 3) (some lineE)) (a + 4) (some finE)) (a + 5) (some (arI g 5))) a (some (objE 0 [.ref (a + 1), .ref (a + 2), .ref (a + 3), .ref (a + 4), .ref (a + 5), .int 2, .int 1, .int 0, .int (-1), .int 0, .int 0, .int 0, .int 0, .int 0, .int 0, .int 0]))) (va_up (va_up (va_up (va_up (va_up E (a + 1) z0) (a + 2) z0) (a + 3) zLi) (a + 4) zFi) (a + 5) fr) H1 := by rw [vuU] at hW; exact hW
  refine lv_aload_n hx hb dX0_init_96 rfl (lv_at hl 0 rfl) ?_
  refine lv_iconst (v := (0)) hx hb dX0_init_97 (by decide) ?_
  refine w_puto (T := TX0) (N := 16) (ci := 0) (j := 13) hx hb hown hts hK (hgeA _) hW hS (vuS _ _ _) (Nat.le_of_ble_eq_true rfl) rfl (by decide) inX0 tyX0 tyX0_ok nmX0 wd_158 rfl rfl (ty := .int) rfl rfl rfl dX0_init_98 (fun H1 locs hz hW hS => ?_)
  have hsz := hz.trans hsz
  have hW : Wd g (va_up (va_up (va_up (va_up (va_up (va_up lay (a + 1) (some (arQ (gL g) 16 (fun _ => none)))) (a + 2) (some (arQ (gF g) 4 (fun _ => none)))) (a + 3) (some lineE)) (a + 4) (some finE)) (a + 5) (some (arI g 5))) a (some (objE 0 [.ref (a + 1), .ref (a + 2), .ref (a + 3), .ref (a + 4), .ref (a + 5), .int 2, .int 1, .int 0, .int (-1), .int 0, .int 0, .int 0, .int 0, .int 0, .int 0, .int 0]))) (va_up (va_up (va_up (va_up (va_up E (a + 1) z0) (a + 2) z0) (a + 3) zLi) (a + 4) zFi) (a + 5) fr) H1 := by rw [vuU] at hW; exact hW
  refine lv_aload_n hx hb dX0_init_101 rfl (lv_at hl 0 rfl) ?_
  refine lv_iconst (v := (0)) hx hb dX0_init_102 (by decide) ?_
  refine w_puto (T := TX0) (N := 16) (ci := 0) (j := 14) hx hb hown hts hK (hgeA _) hW hS (vuS _ _ _) (Nat.le_of_ble_eq_true rfl) rfl (by decide) inX0 tyX0 tyX0_ok nmX0 wd_159 rfl rfl (ty := .int) rfl rfl rfl dX0_init_103 (fun H1 locs hz hW hS => ?_)
  have hsz := hz.trans hsz
  have hW : Wd g (va_up (va_up (va_up (va_up (va_up (va_up lay (a + 1) (some (arQ (gL g) 16 (fun _ => none)))) (a + 2) (some (arQ (gF g) 4 (fun _ => none)))) (a + 3) (some lineE)) (a + 4) (some finE)) (a + 5) (some (arI g 5))) a (some (objE 0 [.ref (a + 1), .ref (a + 2), .ref (a + 3), .ref (a + 4), .ref (a + 5), .int 2, .int 1, .int 0, .int (-1), .int 0, .int 0, .int 0, .int 0, .int 0, .int 0, .int 0]))) (va_up (va_up (va_up (va_up (va_up E (a + 1) z0) (a + 2) z0) (a + 3) zLi) (a + 4) zFi) (a + 5) fr) H1 := by rw [vuU] at hW; exact hW
  refine lv_aload_n hx hb dX0_init_106 rfl (lv_at hl 0 rfl) ?_
  refine lv_iconst (v := (0)) hx hb dX0_init_107 (by decide) ?_
  refine w_puto (T := TX0) (N := 16) (ci := 0) (j := 15) hx hb hown hts hK (hgeA _) hW hS (vuS _ _ _) (Nat.le_of_ble_eq_true rfl) rfl (by decide) inX0 tyX0 tyX0_ok nmX0 wd_160 rfl rfl (ty := .int) rfl rfl rfl dX0_init_108 (fun H1 locs hz hW hS => ?_)
  have hsz := hz.trans hsz
  have hW : Wd g (va_up (va_up (va_up (va_up (va_up (va_up lay (a + 1) (some (arQ (gL g) 16 (fun _ => none)))) (a + 2) (some (arQ (gF g) 4 (fun _ => none)))) (a + 3) (some lineE)) (a + 4) (some finE)) (a + 5) (some (arI g 5))) a (some (objE 0 [.ref (a + 1), .ref (a + 2), .ref (a + 3), .ref (a + 4), .ref (a + 5), .int 2, .int 1, .int 0, .int (-1), .int 0, .int 0, .int 0, .int 0, .int 0, .int 0, .int 0]))) (va_up (va_up (va_up (va_up (va_up E (a + 1) z0) (a + 2) z0) (a + 3) zLi) (a + 4) zFi) (a + 5) fr) H1 := by rw [vuU] at hW; exact hW
  refine lv_iconst (v := (0)) hx hb dX0_init_111 (by decide) ?_
  refine lv_istore_n (lv' := [(1, .int 0), (0, .ref a)]) hx hb dX0_init_112 rfl hl (by decide) rfl (fun ls hl => ?_)
  have hW := recast1 (f := exE a) (L := zEx) hW rfl
  rw [xbL_0, xbE_0] at hW
  refine x0_loop1 hx hb hml hown hts hK hA hG0 16 0 H1 locs ls rfl hW hsz hS (lv_sub hl [1, 0] rfl) (fun H1 locs ls hW hsz hS hl => ?_)
  refine lv_iconst (v := 0) hx hb dX0_init_141 (by decide) ?_
  refine lv_istore_n (lv' := [(1, .int 0), (0, .ref a)]) hx hb dX0_init_142 rfl hl (by decide) rfl (fun ls hl => ?_)
  refine x0_loop2 hx hb hml hown hts hK hA hG0 4 0 H1 locs ls rfl hW hsz hS (lv_sub hl [1, 0] rfl) (fun H1 locs ls hW hsz hS hl => ?_)
  exact W.vret hx hb hr (fun t ht _ => ⟨⟨fr, rfl, hFS, by show Wd g _ _ t.heap; rw [ht]; exact hW, by rw [ht]; exact hsz⟩, hS.F ht⟩) hS.2.2 dX0_init_171 hlocks
