-- ===== the law's methods: rules =====
theorem Wd.sub {g : GG} {lay lay2 : LY} {E : ES} {H : Heap} (hW : Wd g lay2 E H) (h : ∀ a f, lay a = some f → lay2 a = some f) : Wd g lay E H := ⟨fun a f hf => hW.1 a f (h a f hf), hW.2⟩
theorem XL.sub {g : GG} {lay lay2 : LY} {o : Nat} (h : ∀ a f, lay a = some f → lay2 a = some f) (HB : XL g lay o) : XL g lay2 o :=
  ⟨h _ _ HB.1, h _ _ HB.2.1, h _ _ HB.2.2.1, h _ _ HB.2.2.2.1, fun k hk => h _ _ (HB.2.2.2.2.1 k hk), fun k hk => h _ _ (HB.2.2.2.2.2 k hk)⟩
theorem RL4.sub {g : GG} {lay lay2 : LY} {o : Nat} {sv : Nat → Option Nat} (h : ∀ a f, lay a = some f → lay2 a = some f) (HR : RL4 g lay o sv) : RL4 g lay2 o sv :=
  ⟨h _ _ HR.1, HR.2.1.sub h, HR.2.2.1.sub h, h _ _ HR.2.2.2.1, h _ _ HR.2.2.2.2.1, h _ _ HR.2.2.2.2.2⟩
def CV (n r : Int32) : Prop := ¬ r < 0 ∧ r < n
section LW
variable {p : Program} {l : Launch} {e : Env} {R : Room} {s : State} {m : MethodId} {args : Array Value} {below : List Frame} {meth : Method} {c : Code} {H : Heap} {locs : List Loc} {cells slots : Nat} {Q : State → Prop}
variable {cc : ByteArray} {pc : Nat} {ls : Array Slot} {rest st : List Value} {g : GG} {lay : LY} {E E1 : ES} {H0 : Heap} {a : Nat} {f : CS → va_E} {L : CS}
variable {y : MethodName} {bytes : ByteArray} {maxL nL n index mc ms : Nat} {ret : Option FieldType} {rm : Room} {own C : String} {As : List Value} {ws : List Cond}
theorem w_newi2 {o lo : Nat} {sv : Nat → Option Nat} {flo : CS → va_E} (hx : p.tables.exec = Jvm.exec) (hb : c.code = cc) (hts : ∀ w ∈ lw_gd, w.before args s = true) (hK : KK g s) (hW : Wd g lay E H) (hA : okL g lay) (HR : RL4 g lay o sv) (hlo : lay lo = some flo) (hS : va_S (Ab g) H0 H locs) (harr : Cond.arrayClass .int ∈ lw_gd) {n : Int32} {N : Nat} (hn : ¬ n < 0) (hN : n.toNatClampNeg = N) (hbytes : N * 4 ≤ 536870912) (hcells : cells + 1 ≤ R.cells) (hslots : slots + N ≤ R.slots) (hdg : decode cc pc = .ok (.newarray .int, 2))
    (kk : ∀ (a : Nat) (lay1 : LY) (H1 : Heap), lo < a → okL g lay1 → RL4 g lay1 o sv → lay1 a = some (arI g N) → (∀ z f, lay z = some f → lay1 z = some f) → Wd g lay1 (va_up E a (fun _ => 0)) H1 → va_S (Ab g) H0 H1 locs → W p l e R s m args below meth c H1 locs (cells + 1) (slots + N) Q (F0 m (pc + 2) ls (.ref a :: rest))) : W p l e R s m args below meth c H locs cells slots Q (F0 m pc ls (.int n :: rest)) := by
  have hlt : lo < H.size := hW.lt hlo
  have hG : (gH g).size ≤ H.size := Nat.le_trans (hA _ _ hlo) (Nat.le_of_lt hlt)
  refine w_newi hx hb hts hK hW hG hS harr hn hN hbytes hcells hslots hdg (fun H1 hz hW1 hS1 => ?_)
  have hsu : ∀ z f, lay z = some f → va_up lay H.size (some (arI g N)) z = some f := fun z f hf => by
    rw [vuN (Nat.ne_of_lt (hW.lt hf))]; exact hf
  exact kk H.size _ H1 hlt (hA.push hG) (HR.sub hsu) (vuS _ _ _) hsu hW1 hS1
theorem w_csiA (hx : p.tables.exec = Jvm.exec) (hb : c.code = cc) (hml : c.maxLocals = nL) (hown : s.vm.findClass own = some m.cls) (hts : ∀ w ∈ lw_gd, w.before args s = true) (hK : KK g s) (hW : Wd g lay E H) (hS : va_S (Ab g) H0 H locs) (hls : ls.size = nL) {Φ : Int32 → ES → Prop} (hM : Met l y ws rm (va_Pc As (fun U => KK g U ∧ Wd g lay E U.heap)) (va_Qi Φ (fun E' t => Wd g lay E' t.heap) (Ab g)) mc ms (Ab g)) (cw : CallB R s args own index y bytes maxL ret ws rm mc ms n ∧ (Cond.static y).before args s = true) (hn : As.length = n) (hst : st = As.reverse ++ rest) (hcat : (rest.map fun v => v.category).sum ≤ 8) (hdg : decode cc pc = .ok (.invokestatic index, 3)) (hf : cells + mc ≤ R.cells ∧ slots + ms ≤ R.slots)
    (kk : ∀ (r : Int32) (E1 : ES) (H1 : Heap) (locs1 : List Loc), Φ r E1 → Wd g lay E1 H1 → va_S (Ab g) H0 H1 locs1 → W p l e R s m args below meth c H1 locs1 (cells + mc) (slots + ms) Q (F0 m (pc + 3) ls (.int r :: rest))) : W p l e R s m args below meth c H locs cells slots Q (F0 m pc ls st) := by
  subst hst
  refine va_calli (va_runS (As := As) (rest := rest) ⟨hx, hb, hml, hown, hts⟩ hM cw ⟨blindW, fun U hU hW' => ⟨rfl, KK_warm hW' hK, by rw [hU]; exact hW⟩⟩ rfl hn hls rfl (lv_room hcat) hdg hf) hS (fun q _ h => h) (fun q h => h) (fun r u t H1 locs1 ht hvm hw hB hz hk hS1 => ?_)
  have hB2 : Wd g lay u t.heap := hB
  rw [ht] at hB2
  exact kk r u H1 locs1 hw hB2 hS1
theorem w_csave {o : Nat} {K : Int32 → ES → (Nat → Option Nat) → Prop} {p1 : Int32} {CI : String} (hx : p.tables.exec = Jvm.exec) (hb : c.code = cc) (hml : c.maxLocals = nL) (hown : s.vm.findClass own = some m.cls) (hts : ∀ w ∈ lw_gd, w.before args s = true) (hK : KK g s) (hW : Wd g lay E H) (hS : va_S (Ab g) H0 H locs) (hls : ls.size = nL) (hM : Met l y ws rm (va_Pc [.ref o, .int p1] (fun U => KK g U ∧ Wd g lay E U.heap)) (va_Qi (S := LY × (Nat → Option Nat) × ES) (SvP g lay o K) (fun u t => Wd g u.1 u.2.2 t.heap) (Ab g)) 26 244 (Ab g)) (cw : CallW R s args own CI index y bytes maxL ret ws rm 26 244 1) (hrc : ∃ cellB : Cell, H[o]? = some cellB ∧ cellB.vm.isStatics = false ∧ s.vm.findClass CI = some cellB.cls) (hcat : (rest.map fun v => v.category).sum ≤ 8) (hdg : decode cc pc = .ok (.invokevirtual index, 3)) (hf : cells + 26 ≤ R.cells ∧ slots + 244 ≤ R.slots)
    (kk : ∀ (r : Int32) (lay1 : LY) (sv1 : Nat → Option Nat) (E1 : ES) (H1 : Heap) (locs1 : List Loc), okL g lay1 → RL4 g lay1 o sv1 → SL g lay1 o sv1 → K r E1 sv1 → Wd g lay1 E1 H1 → va_S (Ab g) H0 H1 locs1 → W p l e R s m args below meth c H1 locs1 (cells + 26) (slots + 244) Q (F0 m (pc + 3) ls (.int r :: rest))) : W p l e R s m args below meth c H locs cells slots Q (F0 m pc ls (.int p1 :: .ref o :: rest)) := by
  refine va_calli (va_runV (As := [.int p1]) (rest := rest) ⟨hx, hb, hml, hown, hts⟩ hM cw ⟨blindW, hrc, fun U hU hW' => ⟨rfl, KK_warm hW' hK, by rw [hU]; exact hW⟩⟩ rfl rfl hls rfl (lv_room hcat) hdg hf) hS (fun q _ h => h) (fun q h => h) (fun r u t H1 locs1 ht hvm hw hB hz hk hS1 => ?_)
  have hB2 : Wd g u.1 u.2.2 t.heap := hB
  rw [ht] at hB2
  obtain ⟨q1, q2, q3, q4⟩ := hw
  exact kk r u.1 u.2.1 u.2.2 H1 locs1 q1 q2 q3 q4 hB2 hS1
theorem blindX {lay : LY} {E : ES} {av : List Value} {b L : Nat} {xs : Nat → Int32} : FrameBlind (va_Pc av (fun U => va_X b L xs U U.heap ∧ KK g U ∧ Wd g lay E U.heap)) := fun _ _ _ _ q => ⟨q.1, (q.2.1).moved (Vm.Alike.refl _), KK_same rfl q.2.2.1, q.2.2.2⟩
theorem w_ccell {b L : Nat} {xs : Nat → Int32} {k v : Int32} (hx : p.tables.exec = Jvm.exec) (hb : c.code = cc) (hml : c.maxLocals = nL) (hown : s.vm.findClass own = some m.cls) (hts : ∀ w ∈ lw_gd, w.before args s = true) (hK : KK g s) (hW : Wd g lay E H) (hS : va_S (Ab g) H0 H locs) (hls : ls.size = nL) (hX : va_X b L xs s H0) (hbl : b < H0.size) (hbA : ¬ Ab g b) (hM : Met l y ws rm (va_Pc [.ref b, .int k, .int v] (fun U => va_X b L xs U U.heap ∧ KK g U ∧ Wd g lay E U.heap)) (va_Qi (fun r E1 => E1 = E ∧ CV v r) (fun E' t => Wd g lay E' t.heap) (Ab g)) 0 0 (Ab g)) (cw : CallB R s args own index y bytes maxL ret ws rm 0 0 3 ∧ (Cond.static y).before args s = true) (hcat : (rest.map fun v => v.category).sum ≤ 8) (hdg : decode cc pc = .ok (.invokestatic index, 3)) (hf : cells + 0 ≤ R.cells ∧ slots + 0 ≤ R.slots)
    (kk : ∀ (r : Int32) (H1 : Heap) (locs1 : List Loc), CV v r → Wd g lay E H1 → va_S (Ab g) H0 H1 locs1 → W p l e R s m args below meth c H1 locs1 cells slots Q (F0 m (pc + 3) ls (.int r :: rest))) : W p l e R s m args below meth c H locs cells slots Q (F0 m pc ls (.int v :: .int k :: .ref b :: rest)) := by
  refine va_calli (va_runS (As := [.ref b, .int k, .int v]) (rest := rest) ⟨hx, hb, hml, hown, hts⟩ hM cw ⟨blindX, fun U hU hW' => ⟨rfl, (by rw [hU]; exact (hX.kept (hS.2.1 b hbl hbA)).moved hW'.alike), KK_warm hW' hK, by rw [hU]; exact hW⟩⟩ rfl rfl hls rfl (lv_room hcat) hdg hf) hS (fun q _ h => h) (fun q h => h) (fun r u t H1 locs1 ht hvm hw hB hz hk hS1 => ?_)
  have hB2 : Wd g lay u t.heap := hB
  rw [ht, hw.1] at hB2
  exact kk r H1 locs1 hw.2 hB2 hS1
/-- a loop whose rounds make cells: the fuel bounds them -/
theorem w_loopG {KT : Type} {σ : Type} {Wl : KT → Nat → σ → Prop} {kx : KT} {Pw : σ → Heap → Prop} {lvf : σ → List (Nat × Value)} {nL : Nat} {Aw : Nat → Prop} {dc ds CB SB : Nat} (n : Nat) (q : σ) (hc : cells + n * dc ≤ CB) (hs : slots + n * ds ≤ SB) (hw : Wl kx n q) (hW : Pw q H) (hS : va_S Aw H0 H locs) (hl : lv_has ls nL (lvf q)) (h0 : ∀ q, Wl kx 0 q → False) (step : ∀ (K : KT) (_ : K = kx) (n : Nat) (q : σ) (H : Heap) (locs : List Loc) (ls : Array Slot) (cl sl : Nat), cl + (n + 1) * dc ≤ CB → sl + (n + 1) * ds ≤ SB → Wl K (n + 1) q → Pw q H → va_S Aw H0 H locs → lv_has ls nL (lvf q) → (∀ (q : σ) (H : Heap) (locs : List Loc) (ls : Array Slot) (cl sl : Nat), cl + n * dc ≤ CB → sl + n * ds ≤ SB → Wl K n q → Pw q H → va_S Aw H0 H locs → lv_has ls nL (lvf q) → W p l e R s m args below meth c H locs cl sl Q (F0 m pc ls [])) → W p l e R s m args below meth c H locs cl sl Q (F0 m pc ls [])) : W p l e R s m args below meth c H locs cells slots Q (F0 m pc ls []) := by
  revert H locs ls q cells slots
  induction n with
  | zero => exact fun q _ _ hw => absurd hw (h0 q)
  | succ n ih => exact fun q hc hs hw hW hS hl => step kx rfl n q _ _ _ _ _ hc hs hw hW hS hl (fun q H locs ls cl sl hc hs hw hW hS hl => ih q hc hs hw hW hS hl)
end LW
theorem CV_of {j m : Nat} (hj : j < 2 ^ 31) (h0 : 0 < m) (hm : m < 2 ^ 31) : CV (nI m) (nI j - nI j / nI m * nI m) := by
  rw [pk_rem hj h0 hm]
  have := Nat.mod_lt j h0
  exact ⟨nI_pos (by omega), nI_lt this hm⟩
set_option maxHeartbeats 4000000 in
set_option maxRecDepth 100000 in
theorem c_L_cell {l : Launch} {g : GG} {lay : LY} {E0 : ES} {b L : Nat} {xs : Nat → Int32} {p1 p2 : Int32} (hL : L ≤ 260) (h0 : ¬ p1 < 0) (h1 : p1 < 1000) (h2 : 0 < p2) : Met l yL_cell wsL_cell rmL_cell (va_Pc [.ref b, .int p1, .int p2] (fun U => va_X b L xs U U.heap ∧ KK g U ∧ Wd g lay E0 U.heap)) (va_Qi (fun r E1 => E1 = E0 ∧ CV p2 r) (fun E' t => Wd g lay E' t.heap) (Ab g)) 0 0 (Ab g) := by
  refine Met.ofW (cc := cL_cell) (maxL := 3) (ret := (some .int)) (by decide) rfl ?_
  intro p e s m args below meth c s₁ B hml hv
  obtain ⟨rfl, hX, hK, hW⟩ := hv
  have hx := B.exec
  have hb := B.bytes
  have hr := B.returns
  have hts := gd_of (atoms_spec (ws := wsL_cell) B.pre)
  have hown : s.vm.findClass RL = some m.cls := findClass_of_methodNamed B.named
  have hlocks := B.notSynchronized
  have hS : va_S (fun q => s.heap.size ≤ q) s.heap s.heap [] := va_S.rf
  have hS2 : va_S (Ab g) s.heap s.heap [] := va_S.rf
  have hl := lv_entry [.ref b, .int p1, .int p2] (n := 3) (Nat.le_of_ble_eq_true rfl)
  rw [lg_entry_eq]
  generalize (lg_sl [.ref b, .int p1, .int p2] ++ List.replicate (3 - (lg_sl [.ref b, .int p1, .int p2]).length) Slot.unset).toArray = ls at hl ⊢
  have hl : lv_has ls 3 [(0, .ref b), (1, .int p1), (2, .int p2)] := hl
  have hbl : b < s.heap.size := by
    obtain ⟨scr, q1, -⟩ := hX
    exact (Array.getElem?_eq_some_iff.mp q1).1
  have hbA : ¬ (fun q => s.heap.size ≤ q) b := fun z => absurd z (by show ¬ s.heap.size ≤ b; omega)
  obtain ⟨k, hk2, rfl⟩ := nI_of h0
  obtain ⟨v, hv2, rfl⟩ := nI_of (x := p2) (fun z => by rw [Int32.lt_iff_toInt_lt] at z h2; have : (0 : Int32).toInt = 0 := rfl; omega)
  have hk : k < 1000 := (nI_ltI hk2 (b := 1000) (by decide)).mp h1
  have hv0 : 0 < v := (nI_ltI (a := 0) (by decide) hv2).mp h2
  have hvn : ¬ nI v = 0 := nI_ne0 hv0 hv2
  refine lv_aload_n hx hb dL_cell_0 rfl (lv_at hl 0 rfl) ?_
  refine va_slen (A := fun q => s.heap.size ≤ q) hx hb hX hbl hbA hS dL_cell_1 ?_
  have fin : ∀ j : Nat, j < 2 ^ 31 → W p l e rmL_cell s m (#[.ref b, .int (nI k), .int (nI v)] : Array Value) below meth c s.heap [] 0 0 (MQ below (va_Qi (fun r E1 => E1 = E0 ∧ CV (nI v) r) (fun E' t => Wd g lay E' t.heap) (Ab g)) #[.ref b, .int (nI k), .int (nI v)] s 0 0 (Ab g)) (F0 m 28 ls [.int (nI j)]) := by
    intro j hj
    refine lv_iload_n hx hb dL_cell_28 rfl (lv_at hl 2 rfl) ?_
    refine lv_irem hx hb dL_cell_29 hvn ?_
    exact w_iret hx hb hr hlocks hW hS2 ⟨rfl, CV_of hj hv0 hv2⟩ dL_cell_30
  refine lv_if_ne (tgt := 14) hx hb dL_cell_2 (by decide) (fun c1 => ?_) (fun c1 => ?_)
  · have hL0 : 0 < L := by
      rcases Nat.eq_zero_or_pos L with z | z
      · subst z; exact absurd rfl c1
      · exact z
    refine lv_aload_n hx hb dL_cell_14 rfl (lv_at hl 0 rfl) ?_
    refine lv_iload_n hx hb dL_cell_15 rfl (lv_at hl 1 rfl) ?_
    refine lv_aload_n hx hb dL_cell_16 rfl (lv_at hl 0 rfl) ?_
    refine va_slen (A := fun q => s.heap.size ≤ q) hx hb hX hbl hbA hS dL_cell_17 ?_
    refine lv_irem hx hb dL_cell_18 (nI_ne0 (n := L) hL0 (by omega)) ?_
    rw [show Int32.ofNat L = nI L from rfl, pk_rem (by omega) hL0 (by omega)]
    have hm := Nat.mod_lt k hL0
    refine va_sld (A := fun q => s.heap.size ≤ q) hx hb hX hbl hbA hS (nI_in hm (by omega)) dL_cell_19 ?_
    refine lv_iload_n hx hb dL_cell_20 rfl (lv_at hl 1 rfl) ?_
    refine lv_bipush (v := 7) hx hb dL_cell_21 (by decide) ?_
    refine lv_irem hx hb dL_cell_23 (by decide) ?_
    refine lv_ishr hx hb dL_cell_24 ?_
    refine lv_ldc hx hb hown (hts _ wd_459) dL_cell_25 ?_
    refine lv_iand hx hb dL_cell_27 ?_
    obtain ⟨j, hj, ej⟩ := pk_andE (xs (nI (k % L)).toNatClampNeg >>> ((nI k - nI k / 7 * 7) &&& 31)) (m := 4194303) 22 (by decide)
    rw [ej]
    exact fin j (by omega)
  · refine lv_iload_n hx hb dL_cell_5 rfl (lv_at hl 1 rfl) ?_
    refine lv_bipush (v := 37) hx hb dL_cell_6 (by decide) ?_
    refine lv_imul hx hb dL_cell_8 ?_
    refine lv_iconst (v := 5) hx hb dL_cell_9 (by decide) ?_
    refine lv_iadd hx hb dL_cell_10 ?_
    refine lv_goto (tgt := 28) hx hb dL_cell_11 (by decide) ?_
    rw [show (37 : Int32) = nI 37 from rfl, pk_mul, show (5 : Int32) = nI 5 from rfl, nI_add]
    exact fin _ (by omega)
