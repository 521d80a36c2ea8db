theorem wd_49 : Cond.code yX2_init cX2_init 1 none ∈ lw_gd := gd_in (List.mem_of_getElem? (i := 49) (by decide +kernel)) (by decide +kernel)
theorem wd_48 : Cond.instanceMethod yX2_init ∈ lw_gd := gd_in (List.mem_of_getElem? (i := 48) (by decide +kernel)) (by decide +kernel)
theorem wd_90 : Cond.code yX1_init cX1_init 1 none ∈ lw_gd := gd_in (List.mem_of_getElem? (i := 90) (by decide +kernel)) (by decide +kernel)
theorem wd_89 : Cond.instanceMethod yX1_init ∈ lw_gd := gd_in (List.mem_of_getElem? (i := 89) (by decide +kernel)) (by decide +kernel)
theorem wd_200 : Cond.code yX3_init cX3_init 1 none ∈ lw_gd := gd_in (List.mem_of_getElem? (i := 200) (by decide +kernel)) (by decide +kernel)
theorem wd_27 : Cond.initialized RX3 ∈ lw_gd := gd_in (List.mem_of_getElem? (i := 27) (by decide +kernel)) (by decide +kernel)
theorem wd_199 : Cond.instanceMethod yX3_init ∈ lw_gd := gd_in (List.mem_of_getElem? (i := 199) (by decide +kernel)) (by decide +kernel)
theorem wd_40 : Cond.code yX0_init cX0_init 2 none ∈ lw_gd := gd_in (List.mem_of_getElem? (i := 40) (by decide +kernel)) (by decide +kernel)
theorem wd_39 : Cond.instanceMethod yX0_init ∈ lw_gd := gd_in (List.mem_of_getElem? (i := 39) (by decide +kernel)) (by decide +kernel)
theorem wd_38 : Cond.methodLink RX4 9 yX0_init ∈ lw_gd := gd_in (List.mem_of_getElem? (i := 38) (by decide +kernel)) (by decide +kernel)
theorem wd_42 : Cond.classLink RX0 9 RX2 ∈ lw_gd := gd_in (List.mem_of_getElem? (i := 42) (by decide +kernel)) (by decide +kernel)
theorem wd_46 : Cond.instantiable RX2 9 ∈ lw_gd := gd_in (List.mem_of_getElem? (i := 46) (by decide +kernel)) (by decide +kernel)
theorem wd_44 : Cond.classLink RX0 17 RX1 ∈ lw_gd := gd_in (List.mem_of_getElem? (i := 44) (by decide +kernel)) (by decide +kernel)
theorem wd_87 : Cond.instantiable RX1 10 ∈ lw_gd := gd_in (List.mem_of_getElem? (i := 87) (by decide +kernel)) (by decide +kernel)
theorem k_X0_23 {R : Room} {s : State} {args : Array Value} (hNw : nestOK s) (hts : ∀ w ∈ lw_gd, w.before args s = true) (hR : rmX2_init.frames + 1 ≤ R.frames ∧ 8 + (1 + 11) + rmX2_init.locals ≤ R.locals) : va_CN R s args RX0 23 yX2_init RX4 cX2_init 1 none wsX2_init rmX2_init 0 0 0 ∧ yX2_init.name = "<init>" ∧ (Cond.instanceMethod yX2_init).before args s = true :=
  ⟨va_cnB 0 hts (gd_GI wd_49) rfl rfl rfl hNw.1 (hts _ wd_25) (by decide +kernel) hR, rfl, hts _ wd_48⟩
theorem k_X0_28 {R : Room} {s : State} {args : Array Value} (hNw : nestOK s) (hts : ∀ w ∈ lw_gd, w.before args s = true) (hR : rmX1_init.frames + 1 ≤ R.frames ∧ 8 + (1 + 11) + rmX1_init.locals ≤ R.locals) : va_CN R s args RX0 28 yX1_init RX4 cX1_init 1 none wsX1_init rmX1_init 0 0 0 ∧ yX1_init.name = "<init>" ∧ (Cond.instanceMethod yX1_init).before args s = true :=
  ⟨va_cnB 0 hts (gd_GI wd_90) rfl rfl rfl hNw.2.1 (hts _ wd_26) (by decide +kernel) hR, rfl, hts _ wd_89⟩
theorem k_X4_25 {R : Room} {s : State} {args : Array Value} (hNw : nestOK s) (hts : ∀ w ∈ lw_gd, w.before args s = true) (hR : rmX3_init.frames + 1 ≤ R.frames ∧ 8 + (1 + 11) + rmX3_init.locals ≤ R.locals) : va_CN R s args RX4 25 yX3_init RX4 cX3_init 1 none wsX3_init rmX3_init 1 60 0 ∧ yX3_init.name = "<init>" ∧ (Cond.instanceMethod yX3_init).before args s = true :=
  ⟨va_cnB 0 hts (gd_GI wd_200) rfl rfl rfl hNw.2.2.1 (hts _ wd_27) (by decide +kernel) hR, rfl, hts _ wd_199⟩
theorem k_X4_9 {R : Room} {s : State} {args : Array Value} (hts : ∀ w ∈ lw_gd, w.before args s = true) (hR : rmX0_init.frames + 1 ≤ R.frames ∧ 8 + (2 + 11) + rmX0_init.locals ≤ R.locals) : CallB R s args RX4 9 yX0_init cX0_init 2 none wsX0_init rmX0_init 25 228 0 ∧ yX0_init.name = "<init>" ∧ (Cond.instanceMethod yX0_init).before args s = true :=
  cwI 0 hts (gd_GI wd_40) rfl rfl rfl (hts _ wd_24) (hts _ wd_38) (hts _ wd_39) rfl (by decide +kernel) hR
/-- a new exchange at a, with n1 lines and n2 finders laid -/
def xbL (g : GG) (lay : LY) (a n1 n2 : Nat) : LY := fun k => if k = a then some (exE a) else if k = a + 1 then some (arQ (gL g) 16 (fun j => if j < n1 then some (a + (6 + j)) else none)) else if k = a + 2 then some (arQ (gF g) 4 (fun j => if j < n2 then some (a + (22 + j)) else none)) else if k = a + 3 then some lineE else if k = a + 4 then some finE else if k = a + 5 then some (arI g 5) else if a + 6 ≤ k ∧ k < a + 6 + n1 then some lineE else if a + 22 ≤ k ∧ k < a + 22 + n2 then some finE else lay k
def zEx : CS := fun k => if k = 5 then 2 else if k = 6 then 1 else if k = 8 then -1 else 0
def xbE (E : ES) (a n1 n2 : Nat) (fr : CS) : ES := fun k => if k = a then zEx else if k = a + 1 then z0 else if k = a + 2 then z0 else if k = a + 3 then zLi else if k = a + 4 then zFi else if k = a + 5 then fr else if a + 6 ≤ k ∧ k < a + 6 + n1 then zLi else if a + 22 ≤ k ∧ k < a + 22 + n2 then zFi else E k
theorem xbL_1 {g : GG} {lay : LY} {a i : Nat} (hi : i < 16) : va_up (va_up (xbL g lay a i 0) (a + 6 + i) (some lineE)) (a + 1) (some (arQ (gL g) 16 (va_up (fun j => if j < i then some (a + (6 + j)) else none) i (some (a + 6 + i))))) = xbL g lay a (i + 1) 0 := by
  have hq : va_up (fun j => if j < i then some (a + (6 + j)) else none) i (some (a + 6 + i)) = fun j => if j < i + 1 then some (a + (6 + j)) else none := by
    funext j
    by_cases h1 : j = i
    · subst h1; rw [vuS, if_pos (by omega), Nat.add_assoc]
    · rw [vuN h1]
      by_cases h2 : j < i
      · rw [if_pos h2, if_pos (by omega)]
      · rw [if_neg h2, if_neg (by omega)]
  rw [hq]
  funext k
  by_cases h1 : k = a + 1
  · subst h1; rw [vuS, xbL, if_neg (by omega), if_pos rfl]
  · rw [vuN h1]
    by_cases h2 : k = a + 6 + i
    · subst h2; rw [vuS, xbL, if_neg (by omega), if_neg (by omega), if_neg (by omega), if_neg (by omega), if_neg (by omega), if_neg (by omega), if_pos (by omega)]
    · rw [vuN h2, xbL, xbL, if_neg h1, if_neg h1]
      have e : (a + 6 ≤ k ∧ k < a + 6 + i) ↔ (a + 6 ≤ k ∧ k < a + 6 + (i + 1)) := by omega
      simp only [e]
theorem xbE_1 {E : ES} {a i : Nat} {fr : CS} (hi : i < 16) : va_up (xbE E a i 0 fr) (a + 6 + i) zLi = xbE E a (i + 1) 0 fr := by
  funext k
  by_cases h2 : k = a + 6 + i
  · subst h2; rw [vuS, xbE, if_neg (by omega), if_neg (by omega), if_neg (by omega), if_neg (by omega), if_neg (by omega), if_neg (by omega), if_pos (by omega)]
  · rw [vuN h2, xbE, xbE]
    have e : (a + 6 ≤ k ∧ k < a + 6 + i) ↔ (a + 6 ≤ k ∧ k < a + 6 + (i + 1)) := by omega
    simp only [e]
theorem xbL_2 {g : GG} {lay : LY} {a i : Nat} (hi : i < 4) : va_up (va_up (xbL g lay a 16 i) (a + 22 + i) (some finE)) (a + 2) (some (arQ (gF g) 4 (va_up (fun j => if j < i then some (a + (22 + j)) else none) i (some (a + 22 + i))))) = xbL g lay a 16 (i + 1) := by
  have hq : va_up (fun j => if j < i then some (a + (22 + j)) else none) i (some (a + 22 + i)) = fun j => if j < i + 1 then some (a + (22 + j)) else none := by
    funext j
    by_cases h1 : j = i
    · subst h1; rw [vuS, if_pos (by omega), Nat.add_assoc]
    · rw [vuN h1]
      by_cases h2 : j < i
      · rw [if_pos h2, if_pos (by omega)]
      · rw [if_neg h2, if_neg (by omega)]
  rw [hq]
  funext k
  by_cases h1 : k = a + 2
  · subst h1; rw [vuS, xbL, if_neg (by omega), if_neg (by omega), if_pos rfl]
  · rw [vuN h1]
    by_cases h2 : k = a + 22 + i
    · subst h2; rw [vuS, xbL, if_neg (by omega), if_neg (by omega), if_neg (by omega), if_neg (by omega), if_neg (by omega), if_neg (by omega), if_neg (by omega), if_pos (by omega)]
    · rw [vuN h2, xbL, xbL, if_neg h1, if_neg h1]
      have e : (a + 22 ≤ k ∧ k < a + 22 + i) ↔ (a + 22 ≤ k ∧ k < a + 22 + (i + 1)) := by omega
      simp only [e]
theorem xbE_2 {E : ES} {a i : Nat} {fr : CS} (hi : i < 4) : va_up (xbE E a 16 i fr) (a + 22 + i) zFi = xbE E a 16 (i + 1) fr := by
  funext k
  by_cases h2 : k = a + 22 + i
  · subst h2; rw [vuS, xbE, if_neg (by omega), if_neg (by omega), if_neg (by omega), if_neg (by omega), if_neg (by omega), if_neg (by omega), if_neg (by omega), if_pos (by omega)]
  · rw [vuN h2, xbE, xbE]
    have e : (a + 22 ≤ k ∧ k < a + 22 + i) ↔ (a + 22 ≤ k ∧ k < a + 22 + (i + 1)) := by omega
    simp only [e]
theorem xbL_ok {g : GG} {lay : LY} {a n1 n2 : Nat} (hA : okL g lay) (hG : (gH g).size ≤ a) : okL g (xbL g lay a n1 n2) := by
  intro k f h
  by_cases hk : k < a
  · simp only [xbL] at h
    rw [if_neg (by omega), if_neg (by omega), if_neg (by omega), if_neg (by omega), if_neg (by omega), if_neg (by omega), if_neg (by omega), if_neg (by omega)] at h
    exact hA k f h
  · omega
set_option maxHeartbeats 8000000 in
theorem x0_loop1 {p : Program} {l : Launch} {e : Env} {s : State} {m : MethodId} {args : Array Value} {below : List Frame} {meth : Method} {c : Code} {Q : State → Prop} {g : GG} {lay : LY} {E : ES} {a : Nat} {fr : CS} (hx : p.tables.exec = Jvm.exec) (hb : c.code = cX0_init) (hml : c.maxLocals = 2) (hown : s.vm.findClass RX0 = some m.cls) (hts : ∀ w ∈ lw_gd, w.before args s = true) (hK : KK g s) (hA : okL g lay) (hG : (gH g).size ≤ a) : ∀ (j i : Nat) (H : Heap) (locs : List Loc) (ls : Array Slot), i + j = 16 → Wd g (xbL g lay a i 0) (xbE E a i 0 fr) H → H.size = a + 6 + i → va_S (Ab g) s.heap H locs → lv_has ls 2 [(0, .ref a), (1, .int (nI i))] →
    (∀ (H : Heap) (locs : List Loc) (ls : Array Slot), Wd g (xbL g lay a 16 0) (xbE E a 16 0 fr) H → H.size = a + 6 + 16 → va_S (Ab g) s.heap H locs → lv_has ls 2 [(0, .ref a), (1, .int (nI 16))] → W p l e rmX0_init s m args below meth c H locs (5 + 16) (44 + 9 * 16) Q (F0 m 141 ls [])) → W p l e rmX0_init s m args below meth c H locs (5 + i) (44 + 9 * i) Q (F0 m 113 ls [])
  | j, i, H, locs, ls, he, hW, hsz, hS, hl, kk => by
    have hge : okL g (xbL g lay a i 0) := xbL_ok hA hG
    have hla : (xbL g lay a i 0) a = some (exE a) := by rw [xbL, if_pos rfl]
    have hlr : (xbL g lay a i 0) (a + 1) = some (arQ (gL g) 16 (fun j => if j < i then some (a + (6 + j)) else none)) := by rw [xbL, if_neg (by omega), if_pos rfl]
    refine lv_iload_n hx hb dX0_init_113 rfl (lv_at hl 1 rfl) ?_
    refine lv_aload_n hx hb dX0_init_114 rfl (lv_at hl 0 rfl) ?_
    refine g_X0_11 hx hb hown hts hK hW hla rfl dX0_init_115 ?_
    refine w_alen (v := 16) hx hb hK hW 4 rfl hlr rfl rfl rfl dX0_init_118 ?_
    refine lv_icmp_ge (tgt := 141) hx hb dX0_init_119 (by decide) (fun hc => ?_) (fun hc => ?_)
    · have e1 : i = 16 := by
        have := (nI_leI (a := 16) (b := i) (by decide) (by omega)).mp hc
        omega
      subst e1
      exact kk H locs ls hW hsz hS hl
    · obtain ⟨j', rfl⟩ : ∃ j', j = j' + 1 := ⟨j - 1, by
        have : ¬ 16 ≤ i := fun z => hc (nI_le (a := 16) z (by omega))
        omega⟩
      have hi : i < 16 := by omega
      refine lv_aload_n hx hb dX0_init_122 rfl (lv_at hl 0 rfl) ?_
      refine g_X0_11 hx hb hown hts hK hW hla rfl dX0_init_123 ?_
      refine lv_iload_n hx hb dX0_init_126 rfl (lv_at hl 1 rfl) ?_
      refine w_newo (f := objE 2 [.int 0, .int 0, .int 0, .int 0, .int 0, .int 0, .int 0, .int 0, .int 0]) (L := z0) hx hb hown hts hK hW (by omega) hS inX2 tyX2 tyX2_ok wd_42 wd_46 wd_25 rfl [.int 0, .int 0, .int 0, .int 0, .int 0, .int 0, .int 0, .int 0, .int 0] (fun j hj => by rcases (by omega : j = 0 ∨ j = 1 ∨ j = 2 ∨ j = 3 ∨ j = 4 ∨ j = 5 ∨ j = 6 ∨ j = 7 ∨ j = 8) with z | z | z | z | z | z | z | z | z <;> subst z <;> rfl) rfl (by show 5 + i + 1 ≤ 25; omega) (by show 44 + 9 * i + 9 ≤ 228; omega) dX0_init_127 (fun H1 hz hW hS => ?_)
      rw [hsz] at hW hz ⊢
      refine lv_dup hx hb dX0_init_130 rfl ?_
      have hge2 : okL g (va_up (xbL g lay a i 0) (a + 6 + i) (some (objE 2 [.int 0, .int 0, .int 0, .int 0, .int 0, .int 0, .int 0, .int 0, .int 0]))) := okL.push hge (by omega)
      refine w_iniN (rest := [.ref (a + 6 + i), .int (nI i), .ref (a + 1)]) hx hb hml hown hts hK hW hS hl.1 (c_X2_init (sz := H1.size) hge2 (vuS _ _ _)) (k_X0_23 hK.2.1 hts ⟨Nat.le_of_ble_eq_true rfl, Nat.le_of_ble_eq_true rfl⟩) (Nat.le_of_ble_eq_true rfl) dX0_init_131 ⟨by show 5 + i + 1 + 0 ≤ 25; omega, by show 44 + 9 * i + 9 + 0 ≤ 228; omega⟩ (fun H2 locs2 hz2 hW hS => ?_)
      rw [vuU, vuU] at hW
      have hge3 : okL g (va_up (xbL g lay a i 0) (a + 6 + i) (some lineE)) := okL.push hge (by omega)
      refine w_astq (n := 16) hx hb hK hge3 hW hS 4 2 (by rw [vuN (by omega)]; exact hlr) rfl (vuS _ _ _) (by rw [vuS]; rfl) rfl (nIn hi (by decide)) dX0_init_134 (fun H3 locs3 hz3 hW hS => ?_)
      rw [nI_clamp (by omega), xbL_1 hi, xbE_1 hi] at hW
      refine lv_iinc (k := 1) (v := nI (i + 1)) (lv' := [(1, .int (nI (i + 1))), (0, .ref a)]) hx hb dX0_init_135 hl rfl (nI_1 i) (by decide) rfl (fun ls hl => ?_)
      refine lv_goto (tgt := 113) hx hb dX0_init_138 (by decide) ?_
      have nxt := x0_loop1 hx hb hml hown hts hK hA hG j' (i + 1) H3 locs3 ls (by omega) hW (by omega) hS (lv_sub hl [1, 0] rfl) kk
      rw [show 5 + (i + 1) = 5 + i + 1 + 0 by omega, show 44 + 9 * (i + 1) = 44 + 9 * i + 9 + 0 by omega] at nxt
      exact nxt
termination_by j => j
set_option maxHeartbeats 8000000 in
theorem x0_loop2 {p : Program} {l : Launch} {e : Env} {s : State} {m : MethodId} {args : Array Value} {below : List Frame} {meth : Method} {c : Code} {Q : State → Prop} {g : GG} {lay : LY} {E : ES} {a : Nat} {fr : CS} (hx : p.tables.exec = Jvm.exec) (hb : c.code = cX0_init) (hml : c.maxLocals = 2) (hown : s.vm.findClass RX0 = some m.cls) (hts : ∀ w ∈ lw_gd, w.before args s = true) (hK : KK g s) (hA : okL g lay) (hG : (gH g).size ≤ a) : ∀ (j i : Nat) (H : Heap) (locs : List Loc) (ls : Array Slot), i + j = 4 → Wd g (xbL g lay a 16 i) (xbE E a 16 i fr) H → H.size = a + 22 + i → va_S (Ab g) s.heap H locs → lv_has ls 2 [(0, .ref a), (1, .int (nI i))] →
    (∀ (H : Heap) (locs : List Loc) (ls : Array Slot), Wd g (xbL g lay a 16 4) (xbE E a 16 4 fr) H → H.size = a + 22 + 4 → va_S (Ab g) s.heap H locs → lv_has ls 2 [(0, .ref a), (1, .int (nI 4))] → W p l e rmX0_init s m args below meth c H locs (21 + 4) (188 + 10 * 4) Q (F0 m 171 ls [])) → W p l e rmX0_init s m args below meth c H locs (21 + i) (188 + 10 * i) Q (F0 m 143 ls [])
  | j, i, H, locs, ls, he, hW, hsz, hS, hl, kk => by
    have hge : okL g (xbL g lay a 16 i) := xbL_ok hA hG
    have hla : (xbL g lay a 16 i) a = some (exE a) := by rw [xbL, if_pos rfl]
    have hlr : (xbL g lay a 16 i) (a + 2) = some (arQ (gF g) 4 (fun j => if j < i then some (a + (22 + j)) else none)) := by rw [xbL, if_neg (by omega), if_neg (by omega), if_pos rfl]
    refine lv_iload_n hx hb dX0_init_143 rfl (lv_at hl 1 rfl) ?_
    refine lv_aload_n hx hb dX0_init_144 rfl (lv_at hl 0 rfl) ?_
    refine g_X0_19 hx hb hown hts hK hW hla rfl dX0_init_145 ?_
    refine w_alen (v := 4) hx hb hK hW 3 rfl hlr rfl rfl rfl dX0_init_148 ?_
    refine lv_icmp_ge (tgt := 171) hx hb dX0_init_149 (by decide) (fun hc => ?_) (fun hc => ?_)
    · have e1 : i = 4 := by
        have := (nI_leI (a := 4) (b := i) (by decide) (by omega)).mp hc
        omega
      subst e1
      exact kk H locs ls hW hsz hS hl
    · obtain ⟨j', rfl⟩ : ∃ j', j = j' + 1 := ⟨j - 1, by
        have : ¬ 4 ≤ i := fun z => hc (nI_le (a := 4) z (by omega))
        omega⟩
      have hi : i < 4 := by omega
      refine lv_aload_n hx hb dX0_init_152 rfl (lv_at hl 0 rfl) ?_
      refine g_X0_19 hx hb hown hts hK hW hla rfl dX0_init_153 ?_
      refine lv_iload_n hx hb dX0_init_156 rfl (lv_at hl 1 rfl) ?_
      refine w_newo (f := objE 1 [.int 0, .int 0, .int 0, .int 0, .int 0, .int 0, .int 0, .int 0, .int 0, .int 0]) (L := z0) hx hb hown hts hK hW (by omega) hS inX1 tyX1 tyX1_ok wd_44 wd_87 wd_26 rfl [.int 0, .int 0, .int 0, .int 0, .int 0, .int 0, .int 0, .int 0, .int 0, .int 0] (fun j hj => by rcases (by omega : j = 0 ∨ j = 1 ∨ j = 2 ∨ j = 3 ∨ j = 4 ∨ j = 5 ∨ j = 6 ∨ j = 7 ∨ j = 8 ∨ j = 9) with z | z | z | z | z | z | z | z | z | z <;> subst z <;> rfl) rfl (by show 21 + i + 1 ≤ 25; omega) (by show 188 + 10 * i + 10 ≤ 228; omega) dX0_init_157 (fun H1 hz hW hS => ?_)
      rw [hsz] at hW hz ⊢
      refine lv_dup hx hb dX0_init_160 rfl ?_
      have hge2 : okL g (va_up (xbL g lay a 16 i) (a + 22 + i) (some (objE 1 [.int 0, .int 0, .int 0, .int 0, .int 0, .int 0, .int 0, .int 0, .int 0, .int 0]))) := okL.push hge (by omega)
      refine w_iniN (rest := [.ref (a + 22 + i), .int (nI i), .ref (a + 2)]) hx hb hml hown hts hK hW hS hl.1 (c_X1_init (sz := H1.size) hge2 (vuS _ _ _)) (k_X0_28 hK.2.1 hts ⟨Nat.le_of_ble_eq_true rfl, Nat.le_of_ble_eq_true rfl⟩) (Nat.le_of_ble_eq_true rfl) dX0_init_161 ⟨by show 21 + i + 1 + 0 ≤ 25; omega, by show 188 + 10 * i + 10 + 0 ≤ 228; omega⟩ (fun H2 locs2 hz2 hW hS => ?_)
      rw [vuU, vuU] at hW
      have hge3 : okL g (va_up (xbL g lay a 16 i) (a + 22 + i) (some finE)) := okL.push hge (by omega)
      refine w_astq (n := 4) hx hb hK hge3 hW hS 3 1 (by rw [vuN (by omega)]; exact hlr) rfl (vuS _ _ _) (by rw [vuS]; rfl) rfl (nIn hi (by decide)) dX0_init_164 (fun H3 locs3 hz3 hW hS => ?_)
      rw [nI_clamp (by omega), xbL_2 hi, xbE_2 hi] at hW
      refine lv_iinc (k := 1) (v := nI (i + 1)) (lv' := [(1, .int (nI (i + 1))), (0, .ref a)]) hx hb dX0_init_165 hl rfl (nI_1 i) (by decide) rfl (fun ls hl => ?_)
      refine lv_goto (tgt := 143) hx hb dX0_init_168 (by decide) ?_
      have nxt := x0_loop2 hx hb hml hown hts hK hA hG j' (i + 1) H3 locs3 ls (by omega) hW (by omega) hS (lv_sub hl [1, 0] rfl) kk
      rw [show 21 + (i + 1) = 21 + i + 1 + 0 by omega, show 188 + 10 * (i + 1) = 188 + 10 * i + 10 + 0 by omega] at nxt
      exact nxt
termination_by j => j
