theorem wd_36 : Cond.classLink RX4 7 RX0 ∈ lw_gd := gd_in (List.mem_of_getElem? (i := 36) (by decide +kernel)) (by decide +kernel)
theorem wd_37 : Cond.instantiable RX0 16 ∈ lw_gd := gd_in (List.mem_of_getElem? (i := 37) (by decide +kernel)) (by decide +kernel)
theorem wd_196 : Cond.classLink RX4 23 RX3 ∈ lw_gd := gd_in (List.mem_of_getElem? (i := 196) (by decide +kernel)) (by decide +kernel)
theorem wd_197 : Cond.instantiable RX3 2 ∈ lw_gd := gd_in (List.mem_of_getElem? (i := 197) (by decide +kernel)) (by decide +kernel)
theorem wd_33 : Cond.methodLink RX4 1 objectInit ∈ lw_gd := gd_in (List.mem_of_getElem? (i := 33) (by decide +kernel)) (by decide +kernel)
-- ===== a new exchange, seen from outside =====
theorem XL_congr {g : GG} {lay lay2 : LY} {o : Nat} (h : ∀ k, k < 26 → lay2 (o + k) = lay (o + k)) (HB : XL g lay o) : XL g lay2 o := by
  obtain ⟨a, b, c, d, e, f⟩ := HB
  exact ⟨(h 0 (by decide)).trans a, (h 1 (by decide)).trans b, (h 2 (by decide)).trans c, (h 5 (by decide)).trans d, fun k hk => (h k (isLi_lt hk)).trans (e k hk), fun k hk => (h k (isFi_lt hk)).trans (f k hk)⟩
theorem xbF_off {g : GG} {lay : LY} {a k : Nat} (h : k < a ∨ a + 26 ≤ k) : xbF g lay a k = lay k := by
  rw [xbF, vuN (by omega), vuN (by omega), xbL, if_neg (by omega), if_neg (by omega), if_neg (by omega), if_neg (by omega), if_neg (by omega), if_neg (by omega), if_neg (by omega), if_neg (by omega)]
theorem xbE_off {E : ES} {fr : CS} {a k : Nat} (h : k < a ∨ a + 26 ≤ k) : xbE E a 16 4 fr k = E k := by
  rw [xbE, if_neg (by omega), if_neg (by omega), if_neg (by omega), if_neg (by omega), if_neg (by omega), if_neg (by omega), if_neg (by omega), if_neg (by omega)]
theorem xbL_new {g : GG} {lay : LY} {a n1 n2 : Nat} {f : Option (CS → va_E)} : xbL g (va_up lay a f) a n1 n2 = xbL g lay a n1 n2 := by
  funext k
  by_cases h : k = a
  · simp only [xbL, if_pos h]
  · simp only [xbL, vuN h]
theorem xbE_new {E : ES} {a n1 n2 : Nat} {fr L : CS} : xbE (va_up E a L) a n1 n2 fr = xbE E a n1 n2 fr := by
  funext k
  by_cases h : k = a
  · simp only [xbE, if_pos h]
  · simp only [xbE, vuN h]
theorem xbF_ok {g : GG} {lay : LY} {a : Nat} (hA : okL g lay) (hG : (gH g).size ≤ a) : okL g (xbF g lay a) := okL.push (okL.push (xbL_ok hA hG) (by omega)) (by omega)
section WX4
variable {p : Program} {l : Launch} {e : Env} {R : Room} {s : State} {m : MethodId} {args : Array Value} {below : List Frame} {meth : Method} {c : Code} {H : Heap} {locs : List Loc} {cells slots : Nat} {Q : State → Prop}
variable {cc : ByteArray} {pc : Nat} {ls : Array Slot} {rest : List Value} {g : GG} {lay : LY} {E : ES} {H0 : Heap} {nL : Nat}
theorem w_xnew (hx : p.tables.exec = Jvm.exec) (hb : c.code = cc) (hml : c.maxLocals = nL) (hown : s.vm.findClass RX4 = some m.cls) (hts : ∀ w ∈ lw_gd, w.before args s = true) (hK : KK g s) (hA : okL g lay) (hW : Wd g lay E H) (hG : (gH g).size ≤ H.size) (hS : va_S (Ab g) H0 H locs) (hls : ls.size = nL) (hR : rmX0_init.frames + 1 ≤ R.frames ∧ 8 + (2 + 11) + rmX0_init.locals ≤ R.locals) (hcat : (rest.map fun v => v.category).sum + 1 ≤ 8) (hd1 : decode cc pc = .ok (.new 7, 3)) (hd2 : decode cc (pc + 3) = .ok (.dup, 1)) (hd3 : decode cc (pc + 4) = .ok (.invokespecial 9, 3)) (hf : cells + 26 ≤ R.cells ∧ slots + 244 ≤ R.slots)
    (kk : ∀ (fr : CS) (H1 : Heap) (locs1 : List Loc), FS fr → Wd g (xbF g lay H.size) (xbE E H.size 16 4 fr) H1 → H1.size = H.size + 26 → va_S (Ab g) H0 H1 locs1 → W p l e R s m args below meth c H1 locs1 (cells + 26) (slots + 244) Q (F0 m (pc + 7) ls (.ref H.size :: rest))) : W p l e R s m args below meth c H locs cells slots Q (F0 m pc ls rest) := by
  refine w_newo (f := objE 0 [.null, .null, .null, .null, .null, .int 0, .int 0, .int 0, .int 0, .int 0, .int 0, .int 0, .int 0, .int 0, .int 0, .int 0]) (L := z0) hx hb hown hts hK hW hG hS inX0 tyX0 tyX0_ok wd_36 wd_37 wd_24 rfl [.null, .null, .null, .null, .null, .int 0, .int 0, .int 0, .int 0, .int 0, .int 0, .int 0, .int 0, .int 0, .int 0, .int 0] (fun j hj => by rcases (by omega : j = 0 ∨ j = 1 ∨ j = 2 ∨ j = 3 ∨ j = 4 ∨ j = 5 ∨ j = 6 ∨ j = 7 ∨ j = 8 ∨ j = 9 ∨ j = 10 ∨ j = 11 ∨ j = 12 ∨ j = 13 ∨ j = 14 ∨ j = 15) with z | z | z | z | z | z | z | z | z | z | z | z | z | z | z | z <;> subst z <;> rfl) rfl (by omega) (by omega) hd1 (fun H1 hz hW hS => ?_)
  refine lv_dup hx hb hd2 rfl ?_
  have hM := c_X0_init (l := l) (g := g) (E := va_up E H.size z0) (okL.push (f := objE 0 [.null, .null, .null, .null, .null, .int 0, .int 0, .int 0, .int 0, .int 0, .int 0, .int 0, .int 0, .int 0, .int 0, .int 0]) hA hG) (vuS _ _ _)
  rw [← hz] at hM
  refine w_iniE (S := CS) (P := FS) (BH := fun fr Hh => Wd g (xbL g (va_up lay H.size (some (objE 0 [.null, .null, .null, .null, .null, .int 0, .int 0, .int 0, .int 0, .int 0, .int 0, .int 0, .int 0, .int 0, .int 0, .int 0]))) H.size 16 4) (xbE (va_up E H.size z0) H.size 16 4 fr) Hh ∧ Hh.size = H.size + 26) (rest := .ref H.size :: rest) hx hb hml hown hts hK hW hS hls hM (k_X4_9 hts hR) (by show 1 + (rest.map fun v => v.category).sum ≤ 8; omega) hd3 (by omega) (fun fr H2 locs2 hF hB hS => ?_)
  obtain ⟨hW, hz2⟩ := hB
  rw [xbL_new, xbE_new] at hW
  exact kk fr H2 locs2 hF (xbF_Wd hW) hz2 hS
end WX4
/-- the class's cells after its init -/
def RotPost (g : GG) (lay : LY) (E : ES) (a : Nat) (fr : CS) (H : Heap) : Prop := ∃ (lay2 : LY) (E2 : ES), Wd g lay2 E2 H ∧ okL g lay2 ∧ H.size = a + 56 ∧ RL4 g lay2 a (fun _ => none) ∧ (∀ k, k < a ∨ a + 56 ≤ k → lay2 k = lay k ∧ E2 k = E k) ∧ (∀ k, k < 26 → E2 (a + 1 + k) = xbE E (a + 1) 16 4 fr (a + 1 + k)) ∧ E2 (a + 30) 0 = 0 ∧ E2 (a + 54) 1 = 0
set_option maxHeartbeats 8000000 in
set_option maxRecDepth 100000 in
theorem c_X4_init {l : Launch} {g : GG} {lay : LY} {E : ES} {a : Nat} (hA : okL g lay) (hla : lay a = some (objE 4 [.null, .null, .null, .null])) : Met l yX4_init wsX4_init rmX4_init (va_Pc [.ref a] (fun U => KK g U ∧ Wd g lay E U.heap ∧ U.heap.size = a + 1)) (va_Qv (S := CS) FS (fun fr t => RotPost g lay E a fr t.heap) (Ab g)) 55 552 (Ab g) := by
  refine Met.ofW (cc := cX4_init) (maxL := 1) (ret := none) (by decide) rfl ?_
  intro p e s m args below meth c s₁ B hml hv
  obtain ⟨rfl, hK, hW, hsz⟩ := hv
  have hx := B.exec
  have hb := B.bytes
  have hr := B.returns
  have hts := gd_of (atoms_spec (ws := wsX4_init) B.pre)
  have hown : s.vm.findClass RX4 = some m.cls := findClass_of_methodNamed B.named
  have hlocks := B.notSynchronized
  have hS : va_S (Ab g) s.heap s.heap [] := va_S.rf
  have hgeA : ∀ f, okL g (va_up lay a (some f)) := fun f => okL.push hA (hA a _ hla)
  have hW : Wd g (va_up lay a (some (objE 4 [.null, .null, .null, .null]))) E s.heap := by rw [← hla, vuSelf]; exact hW
  have hl := lv_entry [.ref a] (n := 1) (Nat.le_of_ble_eq_true rfl)
  rw [lg_entry_eq]
  generalize (lg_sl [.ref a] ++ List.replicate (1 - (lg_sl [.ref a]).length) Slot.unset).toArray = ls at hl ⊢
  have hl : lv_has ls 1 [(0, .ref a)] := hl
  have hin := (name_of_methodNamed B.named B.method).1
  have hG0 : (gH g).size ≤ a := hA a _ hla
  refine lv_aload_n hx hb dX4_init_0 rfl (lv_at hl 0 rfl) ?_
  refine w_objI (nL := 1) hx hb hml hown hts wd_33 wd_34 wd_35 hl.1 dX4_init_1 (Nat.le_of_ble_eq_true rfl) (Nat.le_of_ble_eq_true rfl) ?_
  refine lv_aload_n hx hb dX4_init_4 rfl (lv_at hl 0 rfl) ?_
  rw [← hla, vuSelf] at hW
  refine w_xnew (nL := 1) hx hb hml hown hts hK hA hW (by omega) hS hl.1 ⟨(Nat.le_of_ble_eq_true rfl), (Nat.le_of_ble_eq_true rfl)⟩ (Nat.le_of_ble_eq_true rfl) dX4_init_5 dX4_init_8 dX4_init_9 ⟨(Nat.le_of_ble_eq_true rfl), (Nat.le_of_ble_eq_true rfl)⟩ (fun fr H1 locs hF hW hz hS => ?_)
  rw [hsz] at hW hz ⊢
  have hsz : H1.size = a + 27 := hz
  have hA1 : okL g (xbF g lay (a + 1)) := xbF_ok hA (by omega)
  have hx1 : XL g (xbF g lay (a + 1)) (a + 1) := xbF_XL
  have ho1 : ∀ k, k < a + 1 ∨ a + 27 ≤ k → xbF g lay (a + 1) k = lay k ∧ xbE E (a + 1) 16 4 fr k = E k := fun k hk => ⟨xbF_off (by omega), xbE_off (by omega)⟩
  have he1 : ∀ k, k < 26 → xbE E (a + 1) 16 4 fr (a + 1 + k) = xbE E (a + 1) 16 4 fr (a + 1 + k) := fun _ _ => rfl
  have hl1 := (ho1 a (Or.inl (by omega))).1.trans hla
  generalize xbF g lay (a + 1) = y1 at hW hA1 hx1 ho1 hl1
  obtain ⟨E1, hE1⟩ : ∃ E1, E1 = xbE E (a + 1) 16 4 fr := ⟨_, rfl⟩
  rw [← hE1] at hW
  simp only [← hE1] at ho1
  refine w_putf (T := TX4) (N := 4) (ci := 4) (j := 0) hx hb hown hts hK hA1 hW hS hl1 (Nat.le_of_ble_eq_true rfl) rfl (by decide) inX4 tyX4 tyX4_ok nmX4 wd_210 rfl rfl hin (ty := .object "RotaryExchange$Exchange") rfl rfl rfl dX4_init_12 (fun H1 locs hz hW hS => ?_)
  have hsz := hz.trans hsz
  have hW : Wd g (va_up y1 a (some (objE 4 [.ref (a + 1), .null, .null, .null]))) E1 H1 := hW
  have hA1' : okL g (va_up y1 a (some (objE 4 [.ref (a + 1), .null, .null, .null]))) := okL.push hA1 hG0
  refine lv_aload_n hx hb dX4_init_15 rfl (lv_at hl 0 rfl) ?_
  refine w_xnew (nL := 1) hx hb hml hown hts hK hA1' hW (by omega) hS hl.1 ⟨(Nat.le_of_ble_eq_true rfl), (Nat.le_of_ble_eq_true rfl)⟩ (Nat.le_of_ble_eq_true rfl) dX4_init_16 dX4_init_19 dX4_init_20 ⟨(Nat.le_of_ble_eq_true rfl), (Nat.le_of_ble_eq_true rfl)⟩ (fun fr2 H1 locs hF2 hW hz hS => ?_)
  rw [hsz] at hW hz ⊢
  have hsz : H1.size = a + 53 := hz
  have hA2 : okL g (xbF g (va_up y1 a (some (objE 4 [.ref (a + 1), .null, .null, .null]))) (a + 27)) := xbF_ok hA1' (by omega)
  have hx2 : XL g (xbF g (va_up y1 a (some (objE 4 [.ref (a + 1), .null, .null, .null]))) (a + 27)) (a + 27) := xbF_XL
  have hx1 : XL g (xbF g (va_up y1 a (some (objE 4 [.ref (a + 1), .null, .null, .null]))) (a + 27)) (a + 1) := XL_congr (fun k hk => (xbF_off (Or.inl (by omega))).trans (vuN (by omega))) hx1
  have hl2 : xbF g (va_up y1 a (some (objE 4 [.ref (a + 1), .null, .null, .null]))) (a + 27) a = some (objE 4 [.ref (a + 1), .null, .null, .null]) := (xbF_off (Or.inl (by omega))).trans (vuS _ _ _)
  have ho2 : ∀ k, k < a ∨ a + 53 ≤ k → xbF g (va_up y1 a (some (objE 4 [.ref (a + 1), .null, .null, .null]))) (a + 27) k = lay k ∧ xbE E1 (a + 27) 16 4 fr2 k = E k := fun k hk => ⟨(xbF_off (by omega)).trans ((vuN (by omega)).trans (ho1 k (by omega)).1), (xbE_off (by omega)).trans (ho1 k (by omega)).2⟩
  have he2 : ∀ k, k < 26 → xbE E1 (a + 27) 16 4 fr2 (a + 1 + k) = xbE E (a + 1) 16 4 fr (a + 1 + k) := fun k hk => (xbE_off (by omega)).trans (by rw [hE1])
  have h30 : xbE E1 (a + 27) 16 4 fr2 (a + 30) 0 = 0 := by
    rw [xbE, if_neg (by omega), if_neg (by omega), if_neg (by omega), if_pos (by omega)]; rfl
  generalize xbF g (va_up y1 a (some (objE 4 [.ref (a + 1), .null, .null, .null]))) (a + 27) = y2 at hW hA2 hx1 hx2 ho2 hl2
  generalize xbE E1 (a + 27) 16 4 fr2 = E2 at hW ho2 he2 h30
  refine w_putf (T := TX4) (N := 4) (ci := 4) (j := 1) hx hb hown hts hK hA2 hW hS hl2 (Nat.le_of_ble_eq_true rfl) rfl (by decide) inX4 tyX4 tyX4_ok nmX4 wd_211 rfl rfl hin (ty := .object "RotaryExchange$Exchange") rfl rfl rfl dX4_init_23 (fun H1 locs hz hW hS => ?_)
  have hsz := hz.trans hsz
  have hW : Wd g (va_up y2 a (some (objE 4 [.ref (a + 1), .ref (a + 27), .null, .null]))) E2 H1 := hW
  have hA2' : okL g (va_up y2 a (some (objE 4 [.ref (a + 1), .ref (a + 27), .null, .null]))) := okL.push hA2 hG0
  refine lv_aload_n hx hb dX4_init_26 rfl (lv_at hl 0 rfl) ?_
  refine lv_iconst (v := 2) hx hb dX4_init_27 (by decide) ?_
  refine w_newq (N := 2) hx hb hown hts hK hW (by omega) hS wd_36 hK.2.1.2.2.2.2.2.2.1 2 rfl (by decide) (by decide) (by decide) (Nat.le_of_ble_eq_true rfl) (Nat.le_of_ble_eq_true rfl) dX4_init_28 (fun H1 hz hW hS => ?_)
  rw [hsz] at hW hz ⊢
  have hsz : H1.size = a + 54 := hz
  have hA3 : okL g (va_up (va_up y2 a (some (objE 4 [.ref (a + 1), .ref (a + 27), .null, .null]))) (a + 53) (some (arQ (gX g) 2 (fun _ => none)))) := okL.push hA2' (by omega)
  refine w_putf (T := TX4) (N := 4) (ci := 4) (j := 2) hx hb hown hts hK hA3 hW hS (by rw [vuN (by omega), vuS]) (Nat.le_of_ble_eq_true rfl) rfl (by decide) inX4 tyX4 tyX4_ok nmX4 wd_212 rfl rfl hin (ty := .array (.object "RotaryExchange$Exchange")) rfl rfl rfl dX4_init_31 (fun H1 locs hz hW hS => ?_)
  have hsz := hz.trans hsz
  have hW : Wd g (va_up (va_up (va_up y2 a (some (objE 4 [.ref (a + 1), .ref (a + 27), .null, .null]))) (a + 53) (some (arQ (gX g) 2 (fun _ => none)))) a (some (objE 4 [.ref (a + 1), .ref (a + 27), .ref (a + 53), .null]))) (va_up E2 (a + 53) z0) H1 := hW
  have hA3 := okL.push (f := objE 4 [.ref (a + 1), .ref (a + 27), .ref (a + 53), .null]) hA3 hG0
  generalize hy3 : va_up (va_up (va_up y2 a (some (objE 4 [.ref (a + 1), .ref (a + 27), .null, .null]))) (a + 53) (some (arQ (gX g) 2 (fun _ => none)))) a (some (objE 4 [.ref (a + 1), .ref (a + 27), .ref (a + 53), .null])) = y3 at hW hA3
  have hl3 : y3 a = some (objE 4 [.ref (a + 1), .ref (a + 27), .ref (a + 53), .null]) := by rw [← hy3, vuS]
  have hl53 : y3 (a + 53) = some (arQ (gX g) 2 (fun _ => none)) := by rw [← hy3, vuN (by omega), vuS]
  have ho3 : ∀ k, ¬ k = a → ¬ k = a + 53 → y3 k = y2 k := fun k h1 h2 => by rw [← hy3, vuN h1, vuN h2, vuN h1]
  refine lv_aload_n hx hb dX4_init_34 rfl (lv_at hl 0 rfl) ?_
  refine w_newo (f := objE 3 [.null, .int 0]) (L := z0) hx hb hown hts hK hW (by omega) hS inX3 tyX3 tyX3_ok wd_196 wd_197 wd_27 rfl [.null, .int 0] (fun j hj => by rcases (by omega : j = 0 ∨ j = 1) with z | z <;> subst z <;> rfl) rfl (Nat.le_of_ble_eq_true rfl) (Nat.le_of_ble_eq_true rfl) dX4_init_35 (fun H1 hz hW hS => ?_)
  rw [hsz] at hW hz ⊢
  have hA4 : okL g (va_up y3 (a + 54) (some (objE 3 [.null, .int 0]))) := okL.push hA3 (by omega)
  refine lv_dup hx hb dX4_init_38 rfl ?_
  have hM := c_X3_init (l := l) (g := g) (E := va_up (va_up E2 (a + 53) z0) (a + 54) z0) hA4 (vuS _ _ _)
  have hzP := hz
  rw [← hz] at hM
  refine w_iniN (rest := [.ref (a + 54), .ref a]) hx hb hml hown hts hK hW hS hl.1 hM (k_X4_25 hK.2.1 hts ⟨(Nat.le_of_ble_eq_true rfl), (Nat.le_of_ble_eq_true rfl)⟩) (Nat.le_of_ble_eq_true rfl) dX4_init_39 ⟨(Nat.le_of_ble_eq_true rfl), (Nat.le_of_ble_eq_true rfl)⟩ (fun H1 locs hz hW hS => ?_)
  have hsz : H1.size = a + 56 := hz
  rw [hzP] at hW
  have hA5 := okL.push (a := a + 54) (f := padE (a + 54)) (okL.push (a := a + 54 + 1) (f := arI g 60) hA4 (by omega)) (by omega)
  refine w_putf (T := TX4) (N := 4) (ci := 4) (j := 3) hx hb hown hts hK hA5 hW hS (by rw [vuN (by omega), vuN (by omega), vuN (by omega)]; exact hl3) (Nat.le_of_ble_eq_true rfl) rfl (by decide) inX4 tyX4 tyX4_ok nmX4 wd_213 rfl rfl hin (ty := .object "RotaryExchange$Pad") rfl rfl rfl dX4_init_42 (fun H1 locs hz hW hS => ?_)
  have hsz := hz.trans hsz
  have hW := recast1 (f := rotE a) (L := z0) hW rfl
  refine W.vret hx hb hr (fun t ht _ => ⟨⟨fr, rfl, hF, ?_⟩, hS.F ht⟩) hS.2.2 dX4_init_45 hlocks
  refine ⟨_, _, by rw [ht]; exact hW, okL.push hA5 hG0, by rw [ht]; exact hsz, ⟨vuS _ _ _, XL_congr (fun k hk => ?_) hx1, XL_congr (fun k hk => ?_) hx2, ?_, ?_, ?_⟩, fun k hk => ⟨?_, ?_⟩, fun k hk => ?_, ?_, ?_⟩
  · rw [vuN (by omega), vuN (by omega), vuN (by omega), vuN (by omega)]; exact ho3 _ (by omega) (by omega)
  · rw [vuN (by omega), vuN (by omega), vuN (by omega), vuN (by omega)]; exact ho3 _ (by omega) (by omega)
  · rw [vuN (by omega), vuN (by omega), vuN (by omega), vuN (by omega)]; exact hl53
  · rw [vuN (by omega), vuS]
  · rw [vuN (by omega), vuN (by omega), vuS]
  · rw [vuN (by omega), vuN (by omega), vuN (by omega), vuN (by omega)]; exact (ho3 _ (by omega) (by omega)).trans (ho2 k (by omega)).1
  · rw [vuN (by omega), vuN (by omega), vuN (by omega), vuN (by omega), vuN (by omega)]; exact (ho2 k (by omega)).2
  · rw [vuN (by omega), vuN (by omega), vuN (by omega), vuN (by omega), vuN (by omega)]; exact he2 k hk
  · rw [vuN (by omega), vuN (by omega), vuN (by omega), vuN (by omega), vuN (by omega)]; exact h30
  · rw [vuN (by omega), vuS]; rfl
