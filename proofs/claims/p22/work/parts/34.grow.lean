-- ===== the machine: worlds that grow =====
/-- an object under construction: its fields as they are -/
def objE (ci : Nat) (fs : List Value) : CS → va_E := fun _ => .inr (ci, fs)
section WG
variable {p : Program} {l : Launch} {e : Env} {R : Room} {s : State} {m : MethodId} {args : Array Value} {below : List Frame} {meth : Method} {c : Code} {H : Heap} {locs : List Loc} {cells slots : Nat} {Q : State → Prop}
variable {cc : ByteArray} {pc : Nat} {ls : Array Slot} {rest st : List Value} {g : GG} {lay : LY} {E E1 : ES} {H0 : Heap} {a : Nat} {f : CS → va_E} {L : CS}
theorem Wd.lt {a2 : Nat} {f2 : CS → va_E} (hW : Wd g lay E H) (h : lay a2 = some f2) : a2 < H.size := (hW.1 a2 f2 h).lt
theorem Wd.push {H1 : Heap} (hW : Wd g lay E H) (hG : (gH g).size ≤ H.size) (h1 : va_at g.1 vwCl (H.size, f L) H1) (o1 : ∀ q : Nat, q < H.size → H1[q]? = H[q]?) : Wd g (va_up lay H.size (some f)) (va_up E H.size L) H1 := by
  refine ⟨fun a2 f2 h2 => ?_, fun q hq => by rw [o1 q (by omega)]; exact hW.2 q hq⟩
  by_cases e : a2 = H.size
  · subst e
    rw [vuS] at h2 ⊢
    cases h2
    exact h1
  · rw [vuN e] at h2 ⊢
    exact (hW.1 a2 f2 h2).kept (o1 a2 (hW.lt h2))
theorem Wd.relay {H1 : Heap} {f1 : CS → va_E} (hW : Wd g lay E H) (hge : okL g lay) (hla : lay a = some f) (h1 : va_at g.1 vwCl (a, f1 (E a)) H1) (oq : ∀ q : Nat, q ≠ a → H1[q]? = H[q]?) : Wd g (va_up lay a (some f1)) E H1 := by
  refine ⟨fun a2 f2 h2 => ?_, fun q hq => ?_⟩
  · by_cases e : a2 = a
    · subst e
      rw [vuS] at h2
      cases h2
      exact h1
    · rw [vuN e] at h2
      exact (hW.1 a2 f2 h2).kept (oq a2 e)
  · rw [oq q (fun e => by have := hge a f hla; omega)]
    exact hW.2 q hq
/-- the same cells under other names -/
theorem Wd.recast {lay2 : LY} {E2 : ES} (hW : Wd g lay E H) (h : ∀ a f2, lay2 a = some f2 → ∃ f1, lay a = some f1 ∧ f1 (E a) = f2 (E2 a)) : Wd g lay2 E2 H := by
  refine ⟨fun a f2 h2 => ?_, hW.2⟩
  obtain ⟨f1, h1, h3⟩ := h a f2 h2
  rw [← h3]; exact hW.1 a f1 h1
theorem okL.push (hge : okL g lay) (hG : (gH g).size ≤ a) : okL g (va_up lay a (some f)) := by
  intro a2 f2 h2
  by_cases e : a2 = a
  · subst e; exact hG
  · rw [vuN e] at h2; exact hge a2 f2 h2
theorem vaS_push {H1 : Heap} (hS : va_S (Ab g) H0 H locs) (z1 : H1.size = H.size + 1) (o1 : ∀ q : Nat, q < H.size → H1[q]? = H[q]?) : va_S (Ab g) H0 H1 locs := ⟨Nat.le_trans hS.1 (by omega), fun x h1 h2 => (o1 x (Nat.lt_of_lt_of_le h1 hS.1)).trans (hS.2.1 x h1 h2), hS.2.2⟩
theorem w_newo (hx : p.tables.exec = Jvm.exec) (hb : c.code = cc) {own C : String} {T : u_T} {N ci index : Nat} (hown : s.vm.findClass own = some m.cls) (hts : ∀ w ∈ lw_gd, w.before args s = true) (hK : KK g s) (hW : Wd g lay E H) (hG : (gH g).size ≤ H.size) (hS : va_S (Ab g) H0 H locs) (hin : ∀ w ∈ u_ws C T N, w ∈ lw_gd) (ty : Nat → FieldType) (hty : ∀ k, k < N → parseFieldDescriptor (T k).2.2.1 = some (ty k)) (hcl : Cond.classLink own index C ∈ lw_gd) (hinst : Cond.instantiable C N ∈ lw_gd) (hini : Cond.initialized C ∈ lw_gd) (hc : vwCl[ci]? = some (C, T, N)) (fs : List Value) (hfs : ∀ j, j < N → defaultValue (ty j) = vp_V fs j) (f : CS → va_E) (L : CS) (hf : f L = .inr (ci, fs)) (hcells : cells + 1 ≤ R.cells) (hslots : slots + N ≤ R.slots) (hdg : decode cc pc = .ok (.new index, 3))
    (kk : ∀ H1 : Heap, H1.size = H.size + 1 → Wd g (va_up lay H.size (some f)) (va_up E H.size L) H1 → va_S (Ab g) H0 H1 locs → W p l e R s m args below meth c H1 locs (cells + 1) (slots + N) Q (F0 m (pc + 3) ls (.ref H.size :: rest))) : W p l e R s m args below meth c H locs cells slots Q (F0 m pc ls rest) := by
  have hKn := hK.1.1 ci _ hc
  refine W.newcK hx hb hown (hts _ hcl) (hts _ hinst) (hts _ hini) rfl hdg hcells hslots hKn.2.1 rfl fun H1 kC hkC e1 z1 o1 => ?_
  refine kk H1 z1 (hW.push hG ?_ o1) (vaS_push hS z1 o1)
  rw [hf]
  exact ⟨_, hc, (u_born ty hts hin hKn hkC e1 hty).to hfs⟩
theorem w_newi (hx : p.tables.exec = Jvm.exec) (hb : c.code = cc) (hts : ∀ w ∈ lw_gd, w.before args s = true) (hK : KK g s) (hW : Wd g lay E H) (hG : (gH g).size ≤ H.size) (hS : va_S (Ab g) H0 H locs) (harr : Cond.arrayClass .int ∈ lw_gd) {n : Int32} {N : Nat} (hn : ¬ n < 0) (hN : n.toNatClampNeg = N) (hbytes : N * 4 ≤ 536870912) (hcells : cells + 1 ≤ R.cells) (hslots : slots + N ≤ R.slots) (hdg : decode cc pc = .ok (.newarray .int, 2))
    (kk : ∀ H1 : Heap, H1.size = H.size + 1 → Wd g (va_up lay H.size (some (arI g N))) (va_up E H.size (fun _ => 0)) H1 → va_S (Ab g) H0 H1 locs → W p l e R s m args below meth c H1 locs (cells + 1) (slots + N) Q (F0 m (pc + 2) ls (.ref H.size :: rest))) : W p l e R s m args below meth c H locs cells slots Q (F0 m pc ls (.int n :: rest)) := by
  refine va_newaK (atype := .int) hx hb (hts _ harr) rfl hdg rfl hn hN hbytes hcells hslots rfl fun H1 cA e1 z1 o1 hAr hNm => ?_
  have hc : cA = gI g := Option.some.inj (hNm.symm.trans (hK.1.2 0 _ rfl).2)
  subst hc
  refine kk H1 z1 (hW.push hG ?_ o1) (vaS_push hS z1 o1)
  show H1[H.size]? = some (vp_cell _ _)
  rw [vp_cell_i]
  exact e1
theorem w_newq (hx : p.tables.exec = Jvm.exec) (hb : c.code = cc) {own C : String} {index : Nat} (hown : s.vm.findClass own = some m.cls) (hts : ∀ w ∈ lw_gd, w.before args s = true) (hK : KK g s) (hW : Wd g lay E H) (hG : (gH g).size ≤ H.size) (hS : va_S (Ab g) H0 H locs) (hclink : Cond.classLink own index C ∈ lw_gd) (hover : va_AO C s) (t0 : Nat) {cA0 : ClassId} (ht : (tyG g)[t0]? = some (cA0, .object C)) {n : Int32} {N : Nat} (hn : ¬ n < 0) (hN : n.toNatClampNeg = N) (hbytes : N * 4 ≤ 536870912) (hcells : cells + 1 ≤ R.cells) (hslots : slots + N ≤ R.slots) (hdg : decode cc pc = .ok (.anewarray index, 3))
    (kk : ∀ H1 : Heap, H1.size = H.size + 1 → Wd g (va_up lay H.size (some (arQ cA0 N (fun _ => none)))) (va_up E H.size (fun _ => 0)) H1 → va_S (Ab g) H0 H1 locs → W p l e R s m args below meth c H1 locs (cells + 1) (slots + N) Q (F0 m (pc + 3) ls (.ref H.size :: rest))) : W p l e R s m args below meth c H locs cells slots Q (F0 m pc ls (.int n :: rest)) := by
  subst hN
  refine W.anew hx hb hown (hts _ hclink) (va_AO.use hover) rfl hdg rfl hn hbytes hcells hslots fun cA kA comp f1 f2 f3 f4 => ?_
  obtain ⟨-, -, -, -, -, h4⟩ := (hK.1.2 t0 _ ht).2
  have hc : cA = cA0 := Option.some.inj (f1.symm.trans h4)
  subst hc
  generalize hH1 : H.push ({ cls := cA, slots := Array.replicate n.toNatClampNeg .null, vm := .none } : Cell) = H1
  have z1 : H1.size = H.size + 1 := by rw [← hH1, Array.size_push]
  have o1 : ∀ q : Nat, q < H.size → H1[q]? = H[q]? := fun q hq => by rw [← hH1, Array.getElem?_push, if_neg (Nat.ne_of_lt hq)]
  refine kk H1 z1 (hW.push hG ?_ o1) (vaS_push hS z1 o1)
  show H1[H.size]? = some (vp_cell _ _)
  rw [vp_cell_q, ← hH1, Array.getElem?_push_size, ← arrV_new]
  rfl
theorem w_astq (hx : p.tables.exec = Jvm.exec) (hb : c.code = cc) (hK : KK g s) (hge : okL g lay) (hW : Wd g lay E H) (hS : va_S (Ab g) H0 H locs) (t0 ci : Nat) {cA : ClassId} {r : vw_C} {n v : Nat} {vs : List Value} {q : Nat → Option Nat} {fv : CS → va_E} (hla : lay a = some (arQ cA n q)) (ht : (tyG g)[t0]? = some (cA, .object r.1)) (hlv : lay v = some fv) (hfv : fv (E v) = .inr (ci, vs)) (hc : vwCl[ci]? = some r) {i : Int32} (hin : vp_in i n) (hdg : decode cc pc = .ok (.aastore, 1))
    (kk : ∀ (H1 : Heap) (locs1 : List Loc), H1.size = H.size → Wd g (va_up lay a (some (arQ cA n (va_up q i.toNatClampNeg (some v))))) E H1 → va_S (Ab g) H0 H1 locs1 → W p l e R s m args below meth c H1 locs1 cells slots Q (F0 m (pc + 1) ls rest)) : W p l e R s m args below meth c H locs cells slots Q (F0 m pc ls (.ref v :: .int i :: .ref a :: rest)) := by
  have hlt : i.toNatClampNeg < n := Nat.not_le.mp fun z => hin (Or.inr z)
  have h0 : ¬ i < 0 := fun z => hin (Or.inl z)
  have hv := hW.1 v fv hlv
  rw [hfv] at hv
  obtain ⟨r', hr', cellV, g1, g2, g3, -⟩ := hv
  have hcls := (hK.1.1 ci r hc).2
  obtain ⟨kA, comp, k1, k2, k3, -⟩ := (hK.1.2 t0 _ ht).2
  have hcomp : comp = g.1.1 ci := Option.some.inj (k3.symm.trans hcls.1)
  subst hcomp
  obtain ⟨kC, hkC, -⟩ := hcls.2
  refine W.aast hx hb (hW.1 a _ hla) (fun z h => by cases h) (fun h => by cases h) k1 k2 rfl hkC ⟨h0, by show _ < (arrV _ _ _).slots.size; rw [arrV_size]; exact hlt⟩ g1 (fun z h => by rw [g3] at h; cases h) (by rw [g2]; exact hkC) (by rw [g2]; exact va_assign hcls) rfl rfl hdg fun H1 e z oq => ?_
  refine kk H1 _ z (hW.relay hge hla ?_ oq) (vaS_put hS hge hla z oq)
  show H1[a]? = some (vp_cell _ _)
  rw [e, vp_cell_q, vp_cell_q, arrV_store]
  congr 2
  funext z
  by_cases hz : z = i.toNatClampNeg
  · subst hz
    simp [updV, va_up, va_rf]
  · simp [updV, va_up, hz]
end WG
