theorem wd_50 : Cond.methodLink RX2 3 objectInit ∈ lw_gd := gd_in (List.mem_of_getElem? (i := 50) (by decide +kernel)) (by decide +kernel)
theorem wd_34 : Cond.instanceMethod objectInit ∈ lw_gd := gd_in (List.mem_of_getElem? (i := 34) (by decide +kernel)) (by decide +kernel)
theorem wd_35 : Cond.code objectInit ⟨#[0xb1]⟩ 1 none ∈ lw_gd := gd_in (List.mem_of_getElem? (i := 35) (by decide +kernel)) (by decide +kernel)
theorem wd_91 : Cond.methodLink RX1 3 objectInit ∈ lw_gd := gd_in (List.mem_of_getElem? (i := 91) (by decide +kernel)) (by decide +kernel)
-- ===== the inits =====
theorem vuCm {α : Type} {f : Nat → α} {a b : Nat} {u v : α} (h : ¬ a = b) : va_up (va_up f a u) b v = va_up (va_up f b v) a u := by
  funext k
  by_cases h1 : k = a
  · subst h1; rw [vuN h, vuS, vuS]
  · by_cases h2 : k = b
    · subst h2; rw [vuS, vuN h1, vuS]
    · rw [vuN h2, vuN h1, vuN h1, vuN h2]
theorem recast1 {g : GG} {lay : LY} {E : ES} {H : Heap} {a ci : Nat} {fs : List Value} {f : CS → va_E} {L : CS} (hW : Wd g (va_up lay a (some (objE ci fs))) E H) (hf : f L = .inr (ci, fs)) : Wd g (va_up lay a (some f)) (va_up E a L) H := by
  refine hW.recast fun a2 f2 h2 => ?_
  by_cases e : a2 = a
  · subst e
    rw [vuS] at h2 ⊢
    cases h2
    exact ⟨_, rfl, by rw [vuS, hf]; rfl⟩
  · rw [vuN e] at h2 ⊢
    exact ⟨f2, h2, by rw [vuN e]⟩
/-- a fresh line, a fresh finder -/
def zLi : CS := fun k => if k = 6 then -6 else 0
def zFi : CS := fun k => if k = 2 ∨ k = 4 ∨ k = 9 then -6 else 0
def z0 : CS := fun _ => 0
set_option maxHeartbeats 4000000 in
theorem c_X2_init {l : Launch} {g : GG} {lay : LY} {E : ES} {a sz : Nat} (hA : okL g lay) (hla : lay a = some (objE 2 [.int 0, .int 0, .int 0, .int 0, .int 0, .int 0, .int 0, .int 0, .int 0])) : JMn l g yX2_init wsX2_init rmX2_init [.ref a] lay E sz (va_up lay a (some lineE)) (va_up E a zLi) sz 0 0 := by
  refine Met.ofW (cc := cX2_init) (maxL := 1) (ret := none) (by decide) rfl ?_
  intro p e s m args below meth c s₁ B hml hv
  obtain ⟨rfl, hK, hW, hsz⟩ := hv
  have hx := B.exec
  have hb := B.bytes
  have hr := B.returns
  have hts := gd_of (atoms_spec (ws := wsX2_init) B.pre)
  have hown : s.vm.findClass RX2 = some m.cls := findClass_of_methodNamed B.named
  have hlocks := B.notSynchronized
  have hS : va_S (Ab g) s.heap s.heap [] := va_S.rf
  have hgeA : ∀ f, okL g (va_up lay a (some f)) := fun f => okL.push hA (hA a _ hla)
  have hW : Wd g (va_up lay a (some (objE 2 [.int 0, .int 0, .int 0, .int 0, .int 0, .int 0, .int 0, .int 0, .int 0]))) E s.heap := by rw [← hla, vuSelf]; exact hW
  have hl := lv_entry [.ref a] (n := 1) (Nat.le_of_ble_eq_true rfl)
  rw [lg_entry_eq]
  generalize (lg_sl [.ref a] ++ List.replicate (1 - (lg_sl [.ref a]).length) Slot.unset).toArray = ls at hl ⊢
  have hl : lv_has ls 1 [(0, .ref a)] := hl
  refine lv_aload_n hx hb dX2_init_0 rfl (lv_at hl 0 rfl) ?_
  refine w_objI (nL := 1) hx hb hml hown hts wd_50 wd_34 wd_35 hl.1 dX2_init_1 (Nat.le_of_ble_eq_true rfl) (Nat.le_of_ble_eq_true rfl) ?_
  refine lv_aload_n hx hb dX2_init_4 rfl (lv_at hl 0 rfl) ?_
  refine lv_iconst (v := 0) hx hb dX2_init_5 (by decide) ?_
  refine w_puto (T := TX2) (N := 9) (ci := 2) (j := 0) hx hb hown hts hK (hgeA _) hW hS (vuS _ _ _) (Nat.le_of_ble_eq_true rfl) rfl (by decide) inX2 tyX2 tyX2_ok nmX2 wd_51 rfl rfl (ty := .int) rfl rfl rfl dX2_init_6 (fun H locs hz hW hS => ?_)
  have hsz := hz.trans hsz
  have hW : Wd g (va_up lay a (some (objE 2 [.int (0), .int 0, .int 0, .int 0, .int 0, .int 0, .int 0, .int 0, .int 0]))) E H := by rw [vuU] at hW; exact hW
  refine lv_aload_n hx hb dX2_init_9 rfl (lv_at hl 0 rfl) ?_
  refine lv_iconst (v := 0) hx hb dX2_init_10 (by decide) ?_
  refine w_puto (T := TX2) (N := 9) (ci := 2) (j := 1) hx hb hown hts hK (hgeA _) hW hS (vuS _ _ _) (Nat.le_of_ble_eq_true rfl) rfl (by decide) inX2 tyX2 tyX2_ok nmX2 wd_53 rfl rfl (ty := .boolean) rfl rfl rfl dX2_init_11 (fun H locs hz hW hS => ?_)
  have hsz := hz.trans hsz
  have hW : Wd g (va_up lay a (some (objE 2 [.int (0), .int (0), .int 0, .int 0, .int 0, .int 0, .int 0, .int 0, .int 0]))) E H := by rw [vuU] at hW; exact hW
  refine lv_aload_n hx hb dX2_init_14 rfl (lv_at hl 0 rfl) ?_
  refine lv_iconst (v := 0) hx hb dX2_init_15 (by decide) ?_
  refine w_puto (T := TX2) (N := 9) (ci := 2) (j := 2) hx hb hown hts hK (hgeA _) hW hS (vuS _ _ _) (Nat.le_of_ble_eq_true rfl) rfl (by decide) inX2 tyX2 tyX2_ok nmX2 wd_55 rfl rfl (ty := .int) rfl rfl rfl dX2_init_16 (fun H locs hz hW hS => ?_)
  have hsz := hz.trans hsz
  have hW : Wd g (va_up lay a (some (objE 2 [.int (0), .int (0), .int (0), .int 0, .int 0, .int 0, .int 0, .int 0, .int 0]))) E H := by rw [vuU] at hW; exact hW
  refine lv_aload_n hx hb dX2_init_19 rfl (lv_at hl 0 rfl) ?_
  refine lv_iconst (v := 0) hx hb dX2_init_20 (by decide) ?_
  refine w_puto (T := TX2) (N := 9) (ci := 2) (j := 3) hx hb hown hts hK (hgeA _) hW hS (vuS _ _ _) (Nat.le_of_ble_eq_true rfl) rfl (by decide) inX2 tyX2 tyX2_ok nmX2 wd_57 rfl rfl (ty := .int) rfl rfl rfl dX2_init_21 (fun H locs hz hW hS => ?_)
  have hsz := hz.trans hsz
  have hW : Wd g (va_up lay a (some (objE 2 [.int (0), .int (0), .int (0), .int (0), .int 0, .int 0, .int 0, .int 0, .int 0]))) E H := by rw [vuU] at hW; exact hW
  refine lv_aload_n hx hb dX2_init_24 rfl (lv_at hl 0 rfl) ?_
  refine lv_iconst (v := 0) hx hb dX2_init_25 (by decide) ?_
  refine w_puto (T := TX2) (N := 9) (ci := 2) (j := 4) hx hb hown hts hK (hgeA _) hW hS (vuS _ _ _) (Nat.le_of_ble_eq_true rfl) rfl (by decide) inX2 tyX2 tyX2_ok nmX2 wd_59 rfl rfl (ty := .int) rfl rfl rfl dX2_init_26 (fun H locs hz hW hS => ?_)
  have hsz := hz.trans hsz
  have hW : Wd g (va_up lay a (some (objE 2 [.int (0), .int (0), .int (0), .int (0), .int (0), .int 0, .int 0, .int 0, .int 0]))) E H := by rw [vuU] at hW; exact hW
  refine lv_aload_n hx hb dX2_init_29 rfl (lv_at hl 0 rfl) ?_
  refine lv_iconst (v := 0) hx hb dX2_init_30 (by decide) ?_
  refine w_puto (T := TX2) (N := 9) (ci := 2) (j := 5) hx hb hown hts hK (hgeA _) hW hS (vuS _ _ _) (Nat.le_of_ble_eq_true rfl) rfl (by decide) inX2 tyX2 tyX2_ok nmX2 wd_60 rfl rfl (ty := .int) rfl rfl rfl dX2_init_31 (fun H locs hz hW hS => ?_)
  have hsz := hz.trans hsz
  have hW : Wd g (va_up lay a (some (objE 2 [.int (0), .int (0), .int (0), .int (0), .int (0), .int (0), .int 0, .int 0, .int 0]))) E H := by rw [vuU] at hW; exact hW
  refine lv_aload_n hx hb dX2_init_34 rfl (lv_at hl 0 rfl) ?_
  refine lv_bipush (v := (-6)) hx hb dX2_init_35 (by decide) ?_
  refine w_puto (T := TX2) (N := 9) (ci := 2) (j := 6) hx hb hown hts hK (hgeA _) hW hS (vuS _ _ _) (Nat.le_of_ble_eq_true rfl) rfl (by decide) inX2 tyX2 tyX2_ok nmX2 wd_62 rfl rfl (ty := .int) rfl rfl rfl dX2_init_37 (fun H locs hz hW hS => ?_)
  have hsz := hz.trans hsz
  have hW : Wd g (va_up lay a (some (objE 2 [.int (0), .int (0), .int (0), .int (0), .int (0), .int (0), .int (-6), .int 0, .int 0]))) E H := by rw [vuU] at hW; exact hW
  refine lv_aload_n hx hb dX2_init_40 rfl (lv_at hl 0 rfl) ?_
  refine lv_iconst (v := 0) hx hb dX2_init_41 (by decide) ?_
  refine w_puto (T := TX2) (N := 9) (ci := 2) (j := 7) hx hb hown hts hK (hgeA _) hW hS (vuS _ _ _) (Nat.le_of_ble_eq_true rfl) rfl (by decide) inX2 tyX2 tyX2_ok nmX2 wd_64 rfl rfl (ty := .int) rfl rfl rfl dX2_init_42 (fun H locs hz hW hS => ?_)
  have hsz := hz.trans hsz
  have hW : Wd g (va_up lay a (some (objE 2 [.int (0), .int (0), .int (0), .int (0), .int (0), .int (0), .int (-6), .int (0), .int 0]))) E H := by rw [vuU] at hW; exact hW
  refine lv_aload_n hx hb dX2_init_45 rfl (lv_at hl 0 rfl) ?_
  refine lv_iconst (v := 0) hx hb dX2_init_46 (by decide) ?_
  refine w_puto (T := TX2) (N := 9) (ci := 2) (j := 8) hx hb hown hts hK (hgeA _) hW hS (vuS _ _ _) (Nat.le_of_ble_eq_true rfl) rfl (by decide) inX2 tyX2 tyX2_ok nmX2 wd_66 rfl rfl (ty := .int) rfl rfl rfl dX2_init_47 (fun H locs hz hW hS => ?_)
  have hsz := hz.trans hsz
  have hW : Wd g (va_up lay a (some (objE 2 [.int (0), .int (0), .int (0), .int (0), .int (0), .int (0), .int (-6), .int (0), .int (0)]))) E H := by rw [vuU] at hW; exact hW
  exact w_nret hx hb hr hlocks (recast1 (f := lineE) (L := zLi) hW rfl) hS hsz dX2_init_50
set_option maxHeartbeats 4000000 in
theorem c_X1_init {l : Launch} {g : GG} {lay : LY} {E : ES} {a sz : Nat} (hA : okL g lay) (hla : lay a = some (objE 1 [.int 0, .int 0, .int 0, .int 0, .int 0, .int 0, .int 0, .int 0, .int 0, .int 0])) : JMn l g yX1_init wsX1_init rmX1_init [.ref a] lay E sz (va_up lay a (some finE)) (va_up E a zFi) sz 0 0 := by
  refine Met.ofW (cc := cX1_init) (maxL := 1) (ret := none) (by decide) rfl ?_
  intro p e s m args below meth c s₁ B hml hv
  obtain ⟨rfl, hK, hW, hsz⟩ := hv
  have hx := B.exec
  have hb := B.bytes
  have hr := B.returns
  have hts := gd_of (atoms_spec (ws := wsX1_init) B.pre)
  have hown : s.vm.findClass RX1 = some m.cls := findClass_of_methodNamed B.named
  have hlocks := B.notSynchronized
  have hS : va_S (Ab g) s.heap s.heap [] := va_S.rf
  have hgeA : ∀ f, okL g (va_up lay a (some f)) := fun f => okL.push hA (hA a _ hla)
  have hW : Wd g (va_up lay a (some (objE 1 [.int 0, .int 0, .int 0, .int 0, .int 0, .int 0, .int 0, .int 0, .int 0, .int 0]))) E s.heap := by rw [← hla, vuSelf]; exact hW
  have hl := lv_entry [.ref a] (n := 1) (Nat.le_of_ble_eq_true rfl)
  rw [lg_entry_eq]
  generalize (lg_sl [.ref a] ++ List.replicate (1 - (lg_sl [.ref a]).length) Slot.unset).toArray = ls at hl ⊢
  have hl : lv_has ls 1 [(0, .ref a)] := hl
  refine lv_aload_n hx hb dX1_init_0 rfl (lv_at hl 0 rfl) ?_
  refine w_objI (nL := 1) hx hb hml hown hts wd_91 wd_34 wd_35 hl.1 dX1_init_1 (Nat.le_of_ble_eq_true rfl) (Nat.le_of_ble_eq_true rfl) ?_
  refine lv_aload_n hx hb dX1_init_4 rfl (lv_at hl 0 rfl) ?_
  refine lv_iconst (v := 0) hx hb dX1_init_5 (by decide) ?_
  refine w_puto (T := TX1) (N := 10) (ci := 1) (j := 0) hx hb hown hts hK (hgeA _) hW hS (vuS _ _ _) (Nat.le_of_ble_eq_true rfl) rfl (by decide) inX1 tyX1 tyX1_ok nmX1 wd_92 rfl rfl (ty := .int) rfl rfl rfl dX1_init_6 (fun H locs hz hW hS => ?_)
  have hsz := hz.trans hsz
  have hW : Wd g (va_up lay a (some (objE 1 [.int (0), .int 0, .int 0, .int 0, .int 0, .int 0, .int 0, .int 0, .int 0, .int 0]))) E H := by rw [vuU] at hW; exact hW
  refine lv_aload_n hx hb dX1_init_9 rfl (lv_at hl 0 rfl) ?_
  refine lv_iconst (v := 0) hx hb dX1_init_10 (by decide) ?_
  refine w_puto (T := TX1) (N := 10) (ci := 1) (j := 1) hx hb hown hts hK (hgeA _) hW hS (vuS _ _ _) (Nat.le_of_ble_eq_true rfl) rfl (by decide) inX1 tyX1 tyX1_ok nmX1 wd_94 rfl rfl (ty := .int) rfl rfl rfl dX1_init_11 (fun H locs hz hW hS => ?_)
  have hsz := hz.trans hsz
  have hW : Wd g (va_up lay a (some (objE 1 [.int (0), .int (0), .int 0, .int 0, .int 0, .int 0, .int 0, .int 0, .int 0, .int 0]))) E H := by rw [vuU] at hW; exact hW
  refine lv_aload_n hx hb dX1_init_14 rfl (lv_at hl 0 rfl) ?_
  refine lv_bipush (v := (-6)) hx hb dX1_init_15 (by decide) ?_
  refine w_puto (T := TX1) (N := 10) (ci := 1) (j := 2) hx hb hown hts hK (hgeA _) hW hS (vuS _ _ _) (Nat.le_of_ble_eq_true rfl) rfl (by decide) inX1 tyX1 tyX1_ok nmX1 wd_96 rfl rfl (ty := .int) rfl rfl rfl dX1_init_17 (fun H locs hz hW hS => ?_)
  have hsz := hz.trans hsz
  have hW : Wd g (va_up lay a (some (objE 1 [.int (0), .int (0), .int (-6), .int 0, .int 0, .int 0, .int 0, .int 0, .int 0, .int 0]))) E H := by rw [vuU] at hW; exact hW
  refine lv_aload_n hx hb dX1_init_20 rfl (lv_at hl 0 rfl) ?_
  refine lv_iconst (v := 0) hx hb dX1_init_21 (by decide) ?_
  refine w_puto (T := TX1) (N := 10) (ci := 1) (j := 3) hx hb hown hts hK (hgeA _) hW hS (vuS _ _ _) (Nat.le_of_ble_eq_true rfl) rfl (by decide) inX1 tyX1 tyX1_ok nmX1 wd_98 rfl rfl (ty := .int) rfl rfl rfl dX1_init_22 (fun H locs hz hW hS => ?_)
  have hsz := hz.trans hsz
  have hW : Wd g (va_up lay a (some (objE 1 [.int (0), .int (0), .int (-6), .int (0), .int 0, .int 0, .int 0, .int 0, .int 0, .int 0]))) E H := by rw [vuU] at hW; exact hW
  refine lv_aload_n hx hb dX1_init_25 rfl (lv_at hl 0 rfl) ?_
  refine lv_bipush (v := (-6)) hx hb dX1_init_26 (by decide) ?_
  refine w_puto (T := TX1) (N := 10) (ci := 1) (j := 4) hx hb hown hts hK (hgeA _) hW hS (vuS _ _ _) (Nat.le_of_ble_eq_true rfl) rfl (by decide) inX1 tyX1 tyX1_ok nmX1 wd_100 rfl rfl (ty := .int) rfl rfl rfl dX1_init_28 (fun H locs hz hW hS => ?_)
  have hsz := hz.trans hsz
  have hW : Wd g (va_up lay a (some (objE 1 [.int (0), .int (0), .int (-6), .int (0), .int (-6), .int 0, .int 0, .int 0, .int 0, .int 0]))) E H := by rw [vuU] at hW; exact hW
  refine lv_aload_n hx hb dX1_init_31 rfl (lv_at hl 0 rfl) ?_
  refine lv_iconst (v := 0) hx hb dX1_init_32 (by decide) ?_
  refine w_puto (T := TX1) (N := 10) (ci := 1) (j := 5) hx hb hown hts hK (hgeA _) hW hS (vuS _ _ _) (Nat.le_of_ble_eq_true rfl) rfl (by decide) inX1 tyX1 tyX1_ok nmX1 wd_102 rfl rfl (ty := .int) rfl rfl rfl dX1_init_33 (fun H locs hz hW hS => ?_)
  have hsz := hz.trans hsz
  have hW : Wd g (va_up lay a (some (objE 1 [.int (0), .int (0), .int (-6), .int (0), .int (-6), .int (0), .int 0, .int 0, .int 0, .int 0]))) E H := by rw [vuU] at hW; exact hW
  refine lv_aload_n hx hb dX1_init_36 rfl (lv_at hl 0 rfl) ?_
  refine lv_iconst (v := 0) hx hb dX1_init_37 (by decide) ?_
  refine w_puto (T := TX1) (N := 10) (ci := 1) (j := 6) hx hb hown hts hK (hgeA _) hW hS (vuS _ _ _) (Nat.le_of_ble_eq_true rfl) rfl (by decide) inX1 tyX1 tyX1_ok nmX1 wd_104 rfl rfl (ty := .int) rfl rfl rfl dX1_init_38 (fun H locs hz hW hS => ?_)
  have hsz := hz.trans hsz
  have hW : Wd g (va_up lay a (some (objE 1 [.int (0), .int (0), .int (-6), .int (0), .int (-6), .int (0), .int (0), .int 0, .int 0, .int 0]))) E H := by rw [vuU] at hW; exact hW
  refine lv_aload_n hx hb dX1_init_41 rfl (lv_at hl 0 rfl) ?_
  refine lv_iconst (v := 0) hx hb dX1_init_42 (by decide) ?_
  refine w_puto (T := TX1) (N := 10) (ci := 1) (j := 7) hx hb hown hts hK (hgeA _) hW hS (vuS _ _ _) (Nat.le_of_ble_eq_true rfl) rfl (by decide) inX1 tyX1 tyX1_ok nmX1 wd_106 rfl rfl (ty := .int) rfl rfl rfl dX1_init_43 (fun H locs hz hW hS => ?_)
  have hsz := hz.trans hsz
  have hW : Wd g (va_up lay a (some (objE 1 [.int (0), .int (0), .int (-6), .int (0), .int (-6), .int (0), .int (0), .int (0), .int 0, .int 0]))) E H := by rw [vuU] at hW; exact hW
  refine lv_aload_n hx hb dX1_init_46 rfl (lv_at hl 0 rfl) ?_
  refine lv_iconst (v := 0) hx hb dX1_init_47 (by decide) ?_
  refine w_puto (T := TX1) (N := 10) (ci := 1) (j := 8) hx hb hown hts hK (hgeA _) hW hS (vuS _ _ _) (Nat.le_of_ble_eq_true rfl) rfl (by decide) inX1 tyX1 tyX1_ok nmX1 wd_108 rfl rfl (ty := .int) rfl rfl rfl dX1_init_48 (fun H locs hz hW hS => ?_)
  have hsz := hz.trans hsz
  have hW : Wd g (va_up lay a (some (objE 1 [.int (0), .int (0), .int (-6), .int (0), .int (-6), .int (0), .int (0), .int (0), .int (0), .int 0]))) E H := by rw [vuU] at hW; exact hW
  refine lv_aload_n hx hb dX1_init_51 rfl (lv_at hl 0 rfl) ?_
  refine lv_bipush (v := (-6)) hx hb dX1_init_52 (by decide) ?_
  refine w_puto (T := TX1) (N := 10) (ci := 1) (j := 9) hx hb hown hts hK (hgeA _) hW hS (vuS _ _ _) (Nat.le_of_ble_eq_true rfl) rfl (by decide) inX1 tyX1 tyX1_ok nmX1 wd_110 rfl rfl (ty := .int) rfl rfl rfl dX1_init_54 (fun H locs hz hW hS => ?_)
  have hsz := hz.trans hsz
  have hW : Wd g (va_up lay a (some (objE 1 [.int (0), .int (0), .int (-6), .int (0), .int (-6), .int (0), .int (0), .int (0), .int (0), .int (-6)]))) E H := by rw [vuU] at hW; exact hW
  exact w_nret hx hb hr hlocks (recast1 (f := finE) (L := zFi) hW rfl) hS hsz dX1_init_57
