theorem wd_28 : Cond.classLink RL 9 RX4 ∈ lw_gd := gd_in (List.mem_of_getElem? (i := 28) (by decide +kernel)) (by decide +kernel)
theorem wd_29 : Cond.instantiable RX4 4 ∈ lw_gd := gd_in (List.mem_of_getElem? (i := 29) (by decide +kernel)) (by decide +kernel)
theorem wd_30 : Cond.methodLink RL 40 yX4_init ∈ lw_gd := gd_in (List.mem_of_getElem? (i := 30) (by decide +kernel)) (by decide +kernel)
theorem wd_31 : Cond.instanceMethod yX4_init ∈ lw_gd := gd_in (List.mem_of_getElem? (i := 31) (by decide +kernel)) (by decide +kernel)
theorem wd_32 : Cond.code yX4_init cX4_init 1 none ∈ lw_gd := gd_in (List.mem_of_getElem? (i := 32) (by decide +kernel)) (by decide +kernel)
-- ===== the law: its words (the skeleton's), and what the Statement gives =====
def R_law : String := "RotaryExchangeLaw"
def lw_P (b : Addr) (xs : List Int32) (args : Array Value) (s : State) : Prop := args = #[.ref b] ∧ s.IntsAt b xs ∧ xs.length ≤ 260 ∧ (Jvm.Cond.and given_1 narrow_1).before args s = true
def lw_Q (_ : Array Value) (s : State) (o : Outcome) (t : State) : Prop := o = .returned (some (.int 1)) ∧ Framed s o t [] 600000 7302250
def lw_Z (below : List Frame) (a : Array Value) (s : State) : State → Prop := fun t => ∃ o, t.status = .running ∧ Ended t below o ∧ lw_Q a s o t
/-- the law's own end, with 1 on the stack, nothing written that was there before, its room as the claim has it -/
theorem lw_ret {p : Program} {l : Launch} {e : Env} {s : State} {m : MethodId} {below : List Frame} {meth : Method} {c : Code} {b : Nat} (hx : p.tables.exec = Jvm.exec) (hb : c.code = code) (hr : meth.sig.returnType = ret) (hlocks : meth.locks = false) {pc : Nat} {H : Heap} {ls : Array Slot} (hdg : decode code pc = .ok (.ireturn, 1)) : W p l e room_1 s m #[Value.ref b] below meth c H [] 600000 7302250 (lw_Z below #[Value.ref b] s) (F0 m pc ls [.int 1]) := by
  intro T hT X
  obtain ⟨fs, hret, hrun, hended, hW, hframe⟩ := X.leave (v := some (.int 1)) (hlocks := hlocks) (fun h => by rw [hr] at h; cases h)
  have hmeth' : T.vm.method? m = some meth := X.method'
  refine ⟨T.setFrames fs, ?_, .returned (some (.int 1)), hrun, hended, rfl, ⟨_, rfl⟩, hW, hframe⟩
  jvm_step X.here [X.here.top, hx, hb, hdg, hmeth', hr, ret, narrow_b1]
  (try refine ⟨rfl, ?_⟩); (try refine ⟨rfl, ?_⟩)
  first | (intro acts; rw [hret _ acts rfl rfl rfl]) | rw [hret _ _ rfl rfl rfl]
  exact Steps.refl _
/-- what holds at the law's entry: the machine, the code, the tables' words (any of lw_tbl by 'hts w (by decide +kernel)'), the script of L ints xs at the cell b, what the Statement gives of the start (any of its parts by flat_of_before) -/
def lw_At (p : Program) (s : State) (m : MethodId) (meth : Method) (c : Code) (b L : Nat) (xs : Nat → Int32) : Prop :=
  p.tables.exec = Jvm.exec ∧ c.code = code ∧ meth.sig.returnType = ret ∧ c.maxLocals = 9 ∧ s.vm.findClass R_law = some m.cls ∧ (∀ w ∈ lw_tbl, w.before #[Value.ref b] s = true) ∧ va_X b L xs s s.heap ∧ b < s.heap.size ∧ meth.locks = false ∧ (Jvm.Cond.and given_1 narrow_1).before #[Value.ref b] s = true
theorem old_of {args : Array Value} {s : State} {tm : Term} {g : GG} {f : CS} (hg : gH g = s.heap) (hI : s.vm.findClass "[I" = some (gI g)) (harr : (Cond.arrayOf tm .int).before args s = true) (hlen : (Cond.eq (.length tm) (.int 5)).before args s = true) (hex : (Cond.exactly tm "[I").before args s = true) (hel : ∀ j : Nat, j < 5 → (Cond.eq (.elem tm (.int (Int32.ofNat j))) (.int (f j))).before args s = true) : ∃ t : Nat, tm.eval args s none [] s = some (.ref t) ∧ oldA g t 5 f := by
  have hv := va_eqt hlen
  obtain ⟨t, cell, ht, hat, hv2⟩ := Term.length_spec hv
  have hsz : cell.slots.size < 2 ^ 31 := by
    simp only [Term.eval, ht, hat, Option.bind_eq_bind, Option.bind_some] at hv
    by_cases hlt : cell.slots.size < 2147483648
    · exact hlt
    · simp [hlt] at hv
  obtain ⟨hcell, hkn, -, -⟩ := State.arrayAt?_spec hat
  obtain ⟨hof, -⟩ := Cond.arrayOf_spec harr ht hcell
  obtain ⟨a2, c, cA, kA, q1, q2, q3, q4, q5, q6, -⟩ := Cond.exactly_spec (args := args) (first := s) (o := none) (s := s) (idx := []) (t := tm) (cls := "[I") hex
  cases ht.symm.trans q1
  cases hcell.symm.trans q3
  have hcls : cell.cls = gI g := q6.trans (Option.some.inj (q2.symm.trans hI))
  have h5 : cell.slots.size = 5 := (nI_eq hsz (by decide)).mp (Value.int.inj hv2).symm
  have key : ∀ j : Nat, j < 5 → cell.slots[j]? = some (.int (f j)) := by
    intro j hj
    obtain ⟨a, i, cell2, h1, h2, h3, h4, h6⟩ := Term.elem_spec (va_eqt (hel j hj))
    cases ht.symm.trans h1
    cases hat.symm.trans h3
    have hi : i = Int32.ofNat j := by
      have e : (Term.int (Int32.ofNat j)).eval args s none [] s = some (.int (Int32.ofNat j)) := rfl
      cases h2.symm.trans e
      rfl
    have hc : i.toNatClampNeg = j := by rw [hi]; exact Int32.toNatClampNeg_ofNat_of_lt (by omega)
    rw [hc] at h6
    exact h6
  refine ⟨t, ht, cell, by rw [hg]; exact hcell, hcls, ?_, hkn, hof.1⟩
  apply Array.ext_getElem?
  intro j
  by_cases hj : j < 5
  · rw [key j hj]
    show _ = (arrV (gI g) 5 (fun j => .int (f j))).slots[j]?
    rw [arrV_read _ _ hj]
  · rw [Array.getElem?_eq_none (by omega)]
    show _ = (arrV (gI g) 5 (fun j => .int (f j))).slots[j]?
    rw [Array.getElem?_eq_none (by rw [arrV_size]; omega)]
theorem arr_of {s : State} {args : Array Value} {t : FieldType} (h : (Cond.arrayClass t).before args s = true) : ∃ cA : ClassId, ArrOfT s cA t ∧ s.vm.findClass ("[" ++ t.toString) = some cA := by
  obtain ⟨c, k, comp, h1, h2, h3⟩ := Cond.arrayClass_spec h
  exact ⟨c, fun N z => ⟨(fun k h => by cases h), k, h2, comp, h3⟩, h1⟩
theorem arr_over {s : State} {args : Array Value} {C : String} (h : (Cond.arrayOver (.object C)).before args s = true) : ∃ cA : ClassId, ArrOfT s cA (.object C) ∧ va_RA s cA (.object C) := by
  obtain ⟨comp, c, k, h1, h2, h3, h4, h5⟩ := Cond.arrayOver_spec h
  exact ⟨c, fun N z => ⟨(fun k h => by cases h), k, h3, comp, h4⟩, k, comp, h3, h4, h1, h5⟩
def fA : CS := fun k => if k = 0 then 20 else if k = 1 then 40 else if k = 2 then 30 else if k = 3 then 10 else 15
def mA : CS := fun k => if k = 0 then 200 else if k = 1 then 200 else if k = 2 then 100 else if k = 3 then 100 else 200
theorem start_KK {p : Program} {s : State} {m : MethodId} {meth : Method} {c : Code} {b L : Nat} {xs : Nat → Int32} (C0 : lw_At p s m meth c b L xs) : ∃ g : GG, gH g = s.heap ∧ KK g s := by
  obtain ⟨-, -, -, -, -, hts0, -, -, -, hgv⟩ := C0
  have hs := flat_of_before _ hgv
  have htg : ∀ w ∈ lw_gd, w.before #[Value.ref b] s = true := fun w hw => hts0 w (gd_tbl w hw)
  obtain ⟨cX0, iX0, knX0⟩ := u_known (C := RX0) (T := TX0) (N := 16) (n := 16) htg inX0 (hts0 _ (List.mem_of_getElem? (i := 37) (by decide +kernel)))
  obtain ⟨cX1, iX1, knX1⟩ := u_known (C := RX1) (T := TX1) (N := 10) (n := 10) htg inX1 (hts0 _ (List.mem_of_getElem? (i := 87) (by decide +kernel)))
  obtain ⟨cX2, iX2, knX2⟩ := u_known (C := RX2) (T := TX2) (N := 9) (n := 9) htg inX2 (hts0 _ (List.mem_of_getElem? (i := 46) (by decide +kernel)))
  obtain ⟨cX3, iX3, knX3⟩ := u_known (C := RX3) (T := TX3) (N := 2) (n := 2) htg inX3 (hts0 _ (List.mem_of_getElem? (i := 197) (by decide +kernel)))
  obtain ⟨cX4, iX4, knX4⟩ := u_known (C := RX4) (T := TX4) (N := 4) (n := 4) htg inX4 (hts0 _ (List.mem_of_getElem? (i := 29) (by decide +kernel)))
  obtain ⟨cI, aI, fI⟩ := arr_of (t := .int) (hts0 _ (List.mem_of_getElem? (i := 194) (by decide +kernel)))
  obtain ⟨cX, aX, rX⟩ := arr_over (C := RX0) (hts0 _ (List.mem_of_getElem? (i := 195) (by decide +kernel)))
  obtain ⟨cF, aF, rF⟩ := arr_over (C := RX1) (hts0 _ (List.mem_of_getElem? (i := 45) (by decide +kernel)))
  obtain ⟨cL, aL, rL⟩ := arr_over (C := RX2) (hts0 _ (List.mem_of_getElem? (i := 43) (by decide +kernel)))
  obtain ⟨g, hg, h1, h2⟩ : ∃ g : GG, gH g = s.heap ∧ va_K g.1 vwCl (tyG g) s ∧ gI g = cI := by
    refine ⟨((fun k => if k = 0 then cX0 else if k = 1 then cX1 else if k = 2 then cX2 else if k = 3 then cX3 else cX4, fun k => if k = 0 then iX0 else if k = 1 then iX1 else if k = 2 then iX2 else if k = 3 then iX3 else iX4), (cI, cI, cX, cF, cL), s.heap), rfl, ⟨?_, ?_⟩, rfl⟩
    · intro k q hq
      match k, hq with
      | 0, hq => cases hq; exact knX0
      | 1, hq => cases hq; exact knX1
      | 2, hq => cases hq; exact knX2
      | 3, hq => cases hq; exact knX3
      | 4, hq => cases hq; exact knX4
      | k + 5, hq => simp [vwCl] at hq
    · intro k q hq
      match k, hq with
      | 0, hq => cases hq; exact ⟨aI, fI⟩
      | 1, hq => cases hq; exact ⟨aI, fI⟩
      | 2, hq => cases hq; exact ⟨aX, rX⟩
      | 3, hq => cases hq; exact ⟨aF, rF⟩
      | 4, hq => cases hq; exact ⟨aL, rL⟩
      | k + 5, hq => simp [tyG] at hq
  have hI : s.vm.findClass "[I" = some (gI g) := by
    rw [h2, ← fI]
    exact congrArg _ (by decide +kernel)
  have hA : ∀ a : Nat, a < s.heap.size → ¬ Ab g a := fun a ha z => by
    have z : (gH g).size ≤ a := z
    rw [hg] at z
    omega
  obtain ⟨t_fA, e_fA, o_fA⟩ := old_of (s := s) (tm := (.static "RotaryExchange" "FIRST_SETTINGS" "[I")) (f := fA) hg hI (hs _ (by decide +kernel)) (hs _ (by decide +kernel)) (hs _ (by decide +kernel)) (fun j hj => by
    rcases (by omega : j = 0 ∨ j = 1 ∨ j = 2 ∨ j = 3 ∨ j = 4) with z | z | z | z | z <;> subst z
    · exact (show (Cond.eq (.elem (.static "RotaryExchange" "FIRST_SETTINGS" "[I") (.int 0)) (.int 20)).before #[Value.ref b] s = true from hs _ (by decide +kernel))
    · exact (show (Cond.eq (.elem (.static "RotaryExchange" "FIRST_SETTINGS" "[I") (.int 1)) (.int 40)).before #[Value.ref b] s = true from hs _ (by decide +kernel))
    · exact (show (Cond.eq (.elem (.static "RotaryExchange" "FIRST_SETTINGS" "[I") (.int 2)) (.int 30)).before #[Value.ref b] s = true from hs _ (by decide +kernel))
    · exact (show (Cond.eq (.elem (.static "RotaryExchange" "FIRST_SETTINGS" "[I") (.int 3)) (.int 10)).before #[Value.ref b] s = true from hs _ (by decide +kernel))
    · exact (show (Cond.eq (.elem (.static "RotaryExchange" "FIRST_SETTINGS" "[I") (.int 4)) (.int 15)).before #[Value.ref b] s = true from hs _ (by decide +kernel)))
  obtain ⟨t_mA, e_mA, o_mA⟩ := old_of (s := s) (tm := (.static "RotaryExchange" "MOST_SETTINGS" "[I")) (f := mA) hg hI (hs _ (by decide +kernel)) (hs _ (by decide +kernel)) (hs _ (by decide +kernel)) (fun j hj => by
    rcases (by omega : j = 0 ∨ j = 1 ∨ j = 2 ∨ j = 3 ∨ j = 4) with z | z | z | z | z <;> subst z
    · exact (show (Cond.eq (.elem (.static "RotaryExchange" "MOST_SETTINGS" "[I") (.int 0)) (.int 200)).before #[Value.ref b] s = true from hs _ (by decide +kernel))
    · exact (show (Cond.eq (.elem (.static "RotaryExchange" "MOST_SETTINGS" "[I") (.int 1)) (.int 200)).before #[Value.ref b] s = true from hs _ (by decide +kernel))
    · exact (show (Cond.eq (.elem (.static "RotaryExchange" "MOST_SETTINGS" "[I") (.int 2)) (.int 100)).before #[Value.ref b] s = true from hs _ (by decide +kernel))
    · exact (show (Cond.eq (.elem (.static "RotaryExchange" "MOST_SETTINGS" "[I") (.int 3)) (.int 100)).before #[Value.ref b] s = true from hs _ (by decide +kernel))
    · exact (show (Cond.eq (.elem (.static "RotaryExchange" "MOST_SETTINGS" "[I") (.int 4)) (.int 200)).before #[Value.ref b] s = true from hs _ (by decide +kernel)))
  have zF : va_Z RX4 "FIRST_SETTINGS" "[I" (.ref t_fA) (Ab g) s s.heap := va_Zof (args := #[Value.ref b]) (hts0 _ (List.mem_of_getElem? (i := 134) (by decide +kernel))) (hts0 _ (List.mem_of_getElem? (i := 23) (by decide +kernel))) e_fA hA
  have zM : va_Z RX4 "MOST_SETTINGS" "[I" (.ref t_mA) (Ab g) s s.heap := va_Zof (args := #[Value.ref b]) (hts0 _ (List.mem_of_getElem? (i := 267) (by decide +kernel))) (hts0 _ (List.mem_of_getElem? (i := 23) (by decide +kernel))) e_mA hA
  refine ⟨g, hg, h1, ⟨va_Nw.of rfl (hts0 _ (List.mem_of_getElem? (i := 47) (by decide +kernel))), va_Nw.of rfl (hts0 _ (List.mem_of_getElem? (i := 88) (by decide +kernel))), va_Nw.of rfl (hts0 _ (List.mem_of_getElem? (i := 198) (by decide +kernel))), trivial, va_Nw.of rfl (hts0 _ (List.mem_of_getElem? (i := 133) (by decide +kernel))), va_Nw.of rfl (hts0 _ (List.mem_of_getElem? (i := 140) (by decide +kernel))), va_AO.of (hts0 _ (List.mem_of_getElem? (i := 195) (by decide +kernel))), va_AO.of (hts0 _ (List.mem_of_getElem? (i := 45) (by decide +kernel))), va_AO.of (hts0 _ (List.mem_of_getElem? (i := 43) (by decide +kernel)))⟩, t_fA, t_mA, by rw [hg]; exact zF, by rw [hg]; exact zM, ⟨fA, o_fA, rfl, rfl, rfl, rfl, rfl⟩, ⟨mA, o_mA, rfl, rfl, rfl, rfl, rfl⟩⟩
theorem k_L_40 {R : Room} {s : State} {args : Array Value} (hts : ∀ w ∈ lw_gd, w.before args s = true) (hR : rmX4_init.frames + 1 ≤ R.frames ∧ 8 + (1 + 11) + rmX4_init.locals ≤ R.locals) : CallB R s args RL 40 yX4_init cX4_init 1 none wsX4_init rmX4_init 55 552 0 ∧ yX4_init.name = "<init>" ∧ (Cond.instanceMethod yX4_init).before args s = true :=
  cwI 0 hts (gd_GI wd_32) rfl rfl rfl (hts _ wd_23) (hts _ wd_30) (hts _ wd_31) rfl (by decide +kernel) hR
def S0 : SS := fun k j => if k = 5 then (if j = 0 then 20 else if j = 1 then 40 else if j = 2 then 30 else if j = 3 then 10 else 15) else 0
set_option maxHeartbeats 8000000 in
set_option maxRecDepth 100000 in
theorem whole_start {p : Program} {e : Env} {s : State} {m : MethodId} {below : List Frame} {meth : Method} {c : Code} (l : Launch) (hflags : l.flags = flags0) {b L : Nat} {xs : Nat → Int32} (hL : L ≤ 260) (C0 : lw_At p s m meth c b L xs) : W p l e room_1 s m #[Value.ref b] below meth c s.heap [] 0 0 (lw_Z below #[Value.ref b] s) (entryFrame m ([Value.ref b] : List Value).toArray 9) := by
  obtain ⟨g, hg, hK⟩ := start_KK C0
  obtain ⟨hx, hb, hr, hml, hown, hts0, hX, hbl, hlocks, -⟩ := C0
  have hown : s.vm.findClass RL = some m.cls := hown
  have hts : ∀ w ∈ lw_gd, w.before #[Value.ref b] s = true := fun w hw => hts0 w (gd_tbl w hw)
  have hbA : ¬ Ab g b := fun z => by
    have z : (gH g).size ≤ b := z
    rw [hg] at z
    omega
  have hS : va_S (Ab g) s.heap s.heap [] := va_S.rf
  have hA : okL g (fun _ => none) := fun a f h => by cases h
  have hW : Wd g (fun _ => none) (fun _ => z0) s.heap := ⟨fun a f h => (by cases h), fun q _ => by rw [hg]⟩
  have hl := lv_entry ([.ref b]) (n := 9) (Nat.le_of_ble_eq_true rfl)
  rw [lg_entry_eq]
  generalize (lg_sl ([.ref b]) ++ List.replicate (9 - (lg_sl ([.ref b])).length) Slot.unset).toArray = ls at hl ⊢
  have hl : lv_has ls 9 [(0, .ref b)] := hl
  have hgz : (gH g).size = s.heap.size := by rw [hg]
  obtain ⟨o, ho⟩ : ∃ z : Nat, s.heap.size = z := ⟨_, rfl⟩
  refine w_newo (f := objE 4 [.null, .null, .null, .null]) (L := z0) hx hb hown hts hK hW (by omega) hS inX4 tyX4 tyX4_ok wd_28 wd_29 wd_23 rfl [.null, .null, .null, .null] (fun j hj => by rcases (by omega : j = 0 ∨ j = 1 ∨ j = 2 ∨ j = 3) with z | z | z | z <;> subst z <;> rfl) rfl (Nat.le_of_ble_eq_true rfl) (Nat.le_of_ble_eq_true rfl) dL_law_0 (fun H hz hW hS => ?_)
  rw [ho] at hW hz ⊢
  refine lv_dup hx hb dL_law_3 rfl ?_
  have hA1 : okL g (va_up (fun _ => none) o (some (objE 4 [.null, .null, .null, .null]))) := okL.push hA (by omega)
  have hM := c_X4_init (l := l) (E := va_up (fun _ => z0) o z0) hA1 (vuS _ _ _)
  rw [← hz] at hM
  refine w_iniE (S := CS) (P := FS) (BH := fun fr Hh => RotPost g (va_up (fun _ => none) o (some (objE 4 [.null, .null, .null, .null]))) (va_up (fun _ => z0) o z0) o fr Hh) (rest := [.ref o]) hx hb hml hown hts hK hW hS hl.1 hM (k_L_40 hts ⟨(Nat.le_of_ble_eq_true rfl), (Nat.le_of_ble_eq_true rfl)⟩) (Nat.le_of_ble_eq_true rfl) dL_law_4 ⟨(Nat.le_of_ble_eq_true rfl), (Nat.le_of_ble_eq_true rfl)⟩ (fun fr H locs hF hB hS => ?_)
  obtain ⟨lay2, E2, hW, hA2, hz, HR, hoff, hx1, h30, h54⟩ := hB
  refine lv_astore_n (lv' := [(1, .ref o), (0, .ref b)]) hx hb dL_law_7 rfl hl (by decide) rfl (fun ls hl => ?_)
  have HS : SL g lay2 o (fun _ => none) := ⟨fun j a _ h => (by cases h), fun a0 a1 h _ => (by cases h)⟩
  obtain ⟨f0, f1, f2, f3, f4⟩ := hF
  have x5 : E2 (o + 6) = fr := by rw [show o + 6 = o + 1 + 5 by omega, hx1 5 (by decide), xbE, if_neg (by omega), if_neg (by omega), if_neg (by omega), if_neg (by omega), if_neg (by omega), if_pos rfl]
  have x3 : E2 (o + 4) = zLi := by rw [show o + 4 = o + 1 + 3 by omega, hx1 3 (by decide), xbE, if_neg (by omega), if_neg (by omega), if_neg (by omega), if_pos rfl]
  refine t_L_law (H0 := s.heap) (K := fun v _ => v = 1) (lo := o + 54 + 1) hx hb hml hown hts hK hA2 HR HS HR.2.2.2.2.2 hX hbl hbA hL (by decide) (by decide) (Nat.le_of_ble_eq_true rfl) (Nat.le_of_ble_eq_true rfl) (fun pc dg v X H locs ls cl sl h1 h2 hk hS => ?_) hW hS (lv_sub hl [1, 0] rfl) ?_
  · subst hk
    refine va_forget (fun x hx => by have h : (gH g).size ≤ x.base := hS.2.2 x hx; rw [hg] at h; exact h) ?_
    refine W.widen (k := 600000) (n := 7302250) (by omega) (by omega) ?_
    exact lw_ret hx hb hr hlocks dg
  · refine law_ok (S := S0) (fun j hj => ?_) ?_ (by rw [x3]; rfl) h30 rfl (by omega) (fun _ => rfl)
    · rw [x5]
      rcases (by omega : j = 0 ∨ j = 1 ∨ j = 2 ∨ j = 3 ∨ j = 4) with z | z | z | z | z <;> subst z
      · rw [f0]; rfl
      · rw [f1]; rfl
      · rw [f2]; rfl
      · rw [f3]; rfl
      · rw [f4]; rfl
    · unfold setOK S0
      simp
