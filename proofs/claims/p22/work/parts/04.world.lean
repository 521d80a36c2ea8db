-- ===== the world: cells at addresses, each with a row of ints; where they lie is the layout =====
abbrev CS : Type := Nat → Int32
abbrev ES : Type := Nat → CS
abbrev LY : Type := Nat → Option (CS → va_E)
/-- the ids of classes and slots; of int[], boolean[], Exchange[], Finder[], Line[]; the heap at the law's start -/
abbrev GG : Type := va_G × (ClassId × ClassId × ClassId × ClassId × ClassId) × Heap
def gI (g : GG) : ClassId := g.2.1.1
def gZ (g : GG) : ClassId := g.2.1.2.1
def gX (g : GG) : ClassId := g.2.1.2.2.1
def gF (g : GG) : ClassId := g.2.1.2.2.2.1
def gL (g : GG) : ClassId := g.2.1.2.2.2.2
def gH (g : GG) : Heap := g.2.2
def Ab (g : GG) : Nat → Prop := fun q => (gH g).size ≤ q
def tyG (g : GG) : List (ClassId × FieldType) := [(gI g, .int), (gI g, .int), (gX g, .object RX0), (gF g, .object RX1), (gL g, .object RX2)]
def nestOK (U : State) : Prop := va_Nw (.methodLinkNest RX0 23 yX2_init RX4) U ∧ va_Nw (.methodLinkNest RX0 28 yX1_init RX4) U ∧ va_Nw (.methodLinkNest RX4 25 yX3_init RX4) U ∧ True ∧ va_Nw (.fieldLinkNest RX0 33 RX4 "FIRST_SETTINGS" "[I" RX4) U ∧ va_Nw (.castable "[I" "java/lang/Cloneable") U ∧ va_AO RX0 U ∧ va_AO RX1 U ∧ va_AO RX2 U
/-- a row of ints of the old heap -/
def oldA (g : GG) (t n : Nat) (f : CS) : Prop := ∃ cell : Cell, (gH g)[t]? = some cell ∧ cell.cls = gI g ∧ cell.slots = (vp_cell (gI g) (n, .inl f)).slots ∧ cell.vm ≠ .unknown ∧ ∀ k, cell.vm ≠ .statics k
/-- the two static rows of the class -/
def stOK (g : GG) (U : State) : Prop := ∃ t0 t1 : Nat, va_Z RX4 "FIRST_SETTINGS" "[I" (.ref t0) (Ab g) U (gH g) ∧ va_Z RX4 "MOST_SETTINGS" "[I" (.ref t1) (Ab g) U (gH g) ∧ (∃ f : CS, oldA g t0 5 f ∧ f 0 = 20 ∧ f 1 = 40 ∧ f 2 = 30 ∧ f 3 = 10 ∧ f 4 = 15) ∧ (∃ f : CS, oldA g t1 5 f ∧ f 0 = 200 ∧ f 1 = 200 ∧ f 2 = 100 ∧ f 3 = 100 ∧ f 4 = 200)
def KK (g : GG) (U : State) : Prop := va_K g.1 vwCl (tyG g) U ∧ nestOK U ∧ stOK g U
theorem nestOK_warm {s U : State} (hW : s.WarmedH U.vm) (h : nestOK s) : nestOK U := ⟨h.1.warmM hW, h.2.1.warmM hW, h.2.2.1.warmM hW, trivial, h.2.2.2.2.1.warmF hW, h.2.2.2.2.2.1.warmC hW, h.2.2.2.2.2.2.1.moved hW.alike, h.2.2.2.2.2.2.2.1.moved hW.alike, h.2.2.2.2.2.2.2.2.moved hW.alike⟩
theorem nestOK_same {u U : State} (hv : u.vm = U.vm) (h : nestOK u) : nestOK U := ⟨h.1.same rfl hv, h.2.1.same rfl hv, h.2.2.1.same rfl hv, trivial, h.2.2.2.2.1.same rfl hv, h.2.2.2.2.2.1.same rfl hv, h.2.2.2.2.2.2.1.moved (by rw [hv]; exact Vm.Alike.refl _), h.2.2.2.2.2.2.2.1.moved (by rw [hv]; exact Vm.Alike.refl _), h.2.2.2.2.2.2.2.2.moved (by rw [hv]; exact Vm.Alike.refl _)⟩
theorem stOK_moved {g : GG} {u U : State} (hvm : u.vm.Alike U.vm) (h : stOK g u) : stOK g U := by
  obtain ⟨t0, t1, h0, h1, h2⟩ := h
  exact ⟨t0, t1, h0.moved hvm, h1.moved hvm, h2⟩
theorem KK_warm {g : GG} {s U : State} (hW : s.WarmedH U.vm) (h : KK g s) : KK g U := ⟨h.1.moved hW.alike, nestOK_warm hW h.2.1, stOK_moved hW.alike h.2.2⟩
theorem KK_same {g : GG} {u U : State} (hv : u.vm = U.vm) (h : KK g u) : KK g U := by
  have ha : u.vm.Alike U.vm := by rw [hv]; exact Vm.Alike.refl _
  exact ⟨h.1.moved ha, nestOK_same hv h.2.1, stOK_moved ha h.2.2⟩
def Wd (g : GG) (lay : LY) (E : ES) (H : Heap) : Prop := (∀ (a : Nat) (f : CS → va_E), lay a = some f → va_at g.1 vwCl (a, f (E a)) H) ∧ ∀ q : Nat, q < (gH g).size → H[q]? = (gH g)[q]?
def okL (g : GG) (lay : LY) : Prop := ∀ (a : Nat) (f : CS → va_E), lay a = some f → (gH g).size ≤ a
/-- a world that differs in cells that the layout doesn't name -/
theorem Wd.eqOn {g : GG} {lay : LY} {E E' : ES} {H : Heap} (h : Wd g lay E H) (he : ∀ a f, lay a = some f → E a = E' a) : Wd g lay E' H := ⟨fun a f hf => by rw [← he a f hf]; exact h.1 a f hf, h.2⟩
-- one cell set; a block of n cells laid at o
theorem vuS {α : Type} (f : Nat → α) (k : Nat) (v : α) : va_up f k v k = v := by simp [va_up]
theorem vuN {α : Type} {f : Nat → α} {k j : Nat} {v : α} (h : j ≠ k) : va_up f k v j = f j := by simp [va_up, h]
theorem vuU {α : Type} (f : Nat → α) (k : Nat) (v w : α) : va_up (va_up f k v) k w = va_up f k w := by
  funext j; by_cases h : j = k <;> simp [va_up, h]
theorem vuSelf {α : Type} (f : Nat → α) (k : Nat) : va_up f k (f k) = f := by
  funext j; by_cases h : j = k <;> simp [va_up, h]
def put (n o : Nat) (X E : ES) : ES := fun a => if o ≤ a ∧ a < o + n then X (a - o) else E a
def vw (o : Nat) (E : ES) : ES := fun k => E (o + k)
theorem putAt {n o k : Nat} {X E : ES} (h : k < n) : put n o X E (o + k) = X k := by
  have h1 : o ≤ o + k ∧ o + k < o + n := ⟨by omega, by omega⟩
  simp [put, h]
theorem putOff {n o a : Nat} {X E : ES} (h : a < o ∨ o + n ≤ a) : put n o X E a = E a := by
  have h1 : ¬ (o ≤ a ∧ a < o + n) := by omega
  simp [put, h1]
theorem putVw (n o : Nat) (E : ES) : put n o (vw o E) E = E := by
  funext a
  by_cases h : o ≤ a ∧ a < o + n
  · simp [put, h, vw]
  · simp [put, h]
theorem vwPut {n o : Nat} {X E : ES} {k : Nat} (h : k < n) : vw o (put n o X E) k = X k := putAt h
theorem putPut (n o : Nat) (X Y E : ES) : put n o X (put n o Y E) = put n o X E := by
  funext a
  by_cases h : o ≤ a ∧ a < o + n <;> simp [put, h]
theorem putUp {n o k : Nat} {X E : ES} {L : CS} (h : k < n) : va_up (put n o X E) (o + k) L = put n o (va_up X k L) E := by
  funext a
  by_cases e : a = o + k
  · subst e
    rw [vuS, putAt h, vuS]
  · rw [vuN e]
    by_cases h1 : o ≤ a ∧ a < o + n
    · have h2 : a - o ≠ k := by omega
      simp [put, h1, vuN h2]
    · simp [put, h1]
-- the kinds of cells
def lineE (L : CS) : va_E := .inr (2, [.int (L 0), .int (L 1), .int (L 2), .int (L 3), .int (L 4), .int (L 5), .int (L 6), .int (L 7), .int (L 8)])
def finE (L : CS) : va_E := .inr (1, [.int (L 0), .int (L 1), .int (L 2), .int (L 3), .int (L 4), .int (L 5), .int (L 6), .int (L 7), .int (L 8), .int (L 9)])
def exE (o : Nat) (L : CS) : va_E := .inr (0, [.ref (o + 1), .ref (o + 2), .ref (o + 3), .ref (o + 4), .ref (o + 5), .int (L 5), .int (L 6), .int (L 7), .int (L 8), .int (L 9), .int (L 10), .int (L 11), .int (L 12), .int (L 13), .int (L 14), .int (L 15)])
def arI (g : GG) (n : Nat) (L : CS) : va_E := .inl (gI g, n, .inl L)
def arZ (g : GG) (n : Nat) (L : CS) : va_E := .inl (gZ g, n, .inl L)
def arQ (cA : ClassId) (n : Nat) (f : Nat → Option Nat) (_ : CS) : va_E := .inl (cA, n, .inr (.inr (.inr (.inr f))))
def padE (o : Nat) (L : CS) : va_E := .inr (3, [.ref (o + 1), .int (L 1)])
def rotE (o : Nat) (_ : CS) : va_E := .inr (4, [.ref (o + 1), .ref (o + 27), .ref (o + 53), .ref (o + 54)])
def isLi (k : Nat) : Prop := k = 3 ∨ (6 ≤ k ∧ k < 22)
def isFi (k : Nat) : Prop := k = 4 ∨ (22 ≤ k ∧ k < 26)
def lix (n : Int32) : Nat := if n < 0 ∨ 16 ≤ n then 3 else 6 + n.toNatClampNeg
def fix (n : Int32) : Nat := if n < 0 ∨ 4 ≤ n then 4 else 22 + n.toNatClampNeg
theorem isLi_lt {k : Nat} (h : isLi k) : k < 26 := by rcases h with rfl | h <;> omega
theorem isFi_lt {k : Nat} (h : isFi k) : k < 26 := by rcases h with rfl | h <;> omega
/-- what the layout has of an exchange at o -/
def XL (g : GG) (lay : LY) (o : Nat) : Prop := lay o = some (exE o) ∧ lay (o + 1) = some (arQ (gL g) 16 (fun j => some (o + (6 + j)))) ∧ lay (o + 2) = some (arQ (gF g) 4 (fun j => some (o + (22 + j)))) ∧ lay (o + 5) = some (arI g 5) ∧ (∀ k, isLi k → lay (o + k) = some lineE) ∧ ∀ k, isFi k → lay (o + k) = some finE
def PL (g : GG) (lay : LY) (o : Nat) : Prop := lay o = some (padE o) ∧ lay (o + 1) = some (arI g 60)
/-- the whole component at o: the object, two exchanges, the row of the slots, the pad -/
def RL4 (g : GG) (lay : LY) (o : Nat) (sv : Nat → Option Nat) : Prop := lay o = some (rotE o) ∧ XL g lay (o + 1) ∧ XL g lay (o + 27) ∧ lay (o + 53) = some (arQ (gX g) 2 sv) ∧ PL g lay (o + 54)
-- the judgements of a method
def JMi (l : Launch) (g : GG) (lay : LY) (y : MethodName) (ws : List Cond) (rm : Room) (av : List Value) (E : ES) (Φ : Int32 → ES → Prop) : Prop :=
  Met l y ws rm (va_Pc av (fun U => KK g U ∧ Wd g lay E U.heap)) (va_Qi Φ (fun E' t => Wd g lay E' t.heap) (Ab g)) 0 0 (Ab g)
def JMv (l : Launch) (g : GG) (lay : LY) (y : MethodName) (ws : List Cond) (rm : Room) (av : List Value) (E : ES) (Φ : ES → Prop) : Prop :=
  Met l y ws rm (va_Pc av (fun U => KK g U ∧ Wd g lay E U.heap)) (va_Qv Φ (fun E' t => Wd g lay E' t.heap) (Ab g)) 0 0 (Ab g)
def JMr (l : Launch) (g : GG) (lay : LY) (y : MethodName) (ws : List Cond) (rm : Room) (av : List Value) (E : ES) (Φ : Nat → ES → Prop) : Prop :=
  Met l y ws rm (va_Pc av (fun U => KK g U ∧ Wd g lay E U.heap)) (va_Qr (S := ES) (fun _ => True) (fun E' a t => Φ a E' ∧ Wd g lay E' t.heap) (Ab g)) 0 0 (Ab g)
theorem blindW {g : GG} {lay : LY} {E : ES} {av : List Value} : FrameBlind (va_Pc av (fun U => KK g U ∧ Wd g lay E U.heap)) := fun _ _ _ _ q => ⟨q.1, KK_same rfl q.2.1, q.2.2⟩
/-- the words of a method: its code, and the tables' good ones -/
theorem gd_of {c0 : Cond} {args : Array Value} {s : State} (h : ∀ w ∈ (c0 :: lw_gd), w.before args s = true) : ∀ w ∈ lw_gd, w.before args s = true := fun w hw => h w (List.mem_cons_of_mem _ hw)
theorem gd_GI {c0 : Cond} (h0 : c0 ∈ lw_gd) : GoodIn lw_gd (c0 :: lw_gd) := fun w hw => by
  rcases List.mem_cons.mp hw with rfl | h
  · exact ⟨h0, good_of_word (gd_good _ h0)⟩
  · exact ⟨h, good_of_word (gd_good _ h)⟩
theorem gd_GV {own C : String} {idx : Nat} {y : MethodName} {c0 : Cond} (h1 : Cond.methodLink own idx y ∈ lw_gd) (h2 : Cond.instanceMethod y ∈ lw_gd) (h3 : Cond.selects C y y ∈ lw_gd) (h4 : Cond.initialized C ∈ lw_gd) (h0 : c0 ∈ lw_gd) : GoodIn lw_gd (wsV own idx C y (c0 :: lw_gd)) := fun w hw => by
  have h : w ∈ lw_gd := by
    simp only [wsV, List.cons_append, List.nil_append, List.mem_cons] at hw
    rcases hw with rfl | rfl | rfl | rfl | rfl | h
    · exact h1
    · exact h2
    · exact h3
    · exact h4
    · exact h0
    · exact h
  exact ⟨h, good_of_word (gd_good _ h)⟩
theorem gd_GS {own : String} {idx : Nat} {y : MethodName} {c0 : Cond} (h1 : Cond.methodLink own idx y ∈ lw_gd) (h2 : Cond.static y ∈ lw_gd) (h4 : Cond.initialized own ∈ lw_gd) (h0 : c0 ∈ lw_gd) : GoodIn lw_gd (wsS own idx y (c0 :: lw_gd)) := fun w hw => by
  have h : w ∈ lw_gd := by
    simp only [wsS, List.cons_append, List.nil_append, List.mem_cons] at hw
    rcases hw with rfl | rfl | rfl | rfl | h
    · exact h1
    · exact h2
    · exact h4
    · exact h0
    · exact h
  exact ⟨h, good_of_word (gd_good _ h)⟩
section WR
variable {p : Program} {l : Launch} {e : Env} {R : Room} {s : State} {m : MethodId} {args : Array Value} {below : List Frame} {meth : Method} {c : Code} {H : Heap} {locs : List Loc} {cells slots : Nat} {Q : State → Prop}
variable {cc : ByteArray} {pc : Nat} {ls : Array Slot} {rest st : List Value} {g : GG} {lay : LY} {E E1 : ES} {H0 : Heap} {a : Nat} {f : CS → va_E} {L : CS}
theorem Wd.at {a : Nat} {f : CS → va_E} {L : CS} (hW : Wd g lay E H) (hla : lay a = some f) (hL : E a = L) : va_at g.1 vwCl (a, f L) H := by
  rw [← hL]; exact hW.1 a f hla
theorem Wd.one {a : Nat} {f : CS → va_E} {L : CS} {e : va_E} (hW : Wd g lay E H) (hla : lay a = some f) (hL : E a = L) (he : f L = e) : va_P g.1 vwCl [(a, e)] H := by
  intro k q hk
  have hz : k < 1 := (List.getElem?_eq_some_iff.mp hk).1
  rw [show k = 0 by omega] at hk
  cases hk
  rw [← he]; exact hW.at hla hL
/-- one cell of the world written -/
theorem Wd.set {H1 : Heap} {L1 : CS} (hW : Wd g lay E H) (hge : okL g lay) (hla : lay a = some f) (h1 : va_at g.1 vwCl (a, f L1) H1) (oq : ∀ q : Nat, q ≠ a → H1[q]? = H[q]?) (hE : va_up E a L1 = E1) : Wd g lay E1 H1 := by
  refine ⟨fun a2 f2 h2 => ?_, fun q hq => ?_⟩
  · by_cases e : a2 = a
    · subst e
      cases hla.symm.trans h2
      rw [← hE, vuS]
      exact h1
    · rw [← hE, vuN e]
      exact (hW.1 a2 f2 h2).kept (oq a2 e)
  · rw [oq q (fun e => by have := hge a f hla; omega)]
    exact hW.2 q hq
theorem vaS_put {H1 : Heap} {i : Nat} (hS : va_S (Ab g) H0 H locs) (hge : okL g lay) (hla : lay a = some f) (z : H1.size = H.size) (oq : ∀ q : Nat, q ≠ a → H1[q]? = H[q]?) : va_S (Ab g) H0 H1 (locs ++ [⟨a, i⟩]) := by
  refine ⟨by rw [z]; exact hS.1, fun q h1 h2 => ?_, fun q hq => ?_⟩
  · rw [oq q (fun e => h2 (by rw [e]; exact hge a f hla))]
    exact hS.2.1 q h1 h2
  · rcases List.mem_append.mp hq with h | h
    · exact hS.2.2 q h
    · rw [List.mem_singleton.mp h]
      exact hge a f hla
theorem w_get (hx : p.tables.exec = Jvm.exec) (hb : c.code = cc) {own C : String} {T : u_T} {N ci index j : Nat} (hown : s.vm.findClass own = some m.cls) (hts : ∀ w ∈ lw_gd, w.before args s = true) (hK : KK g s) (hW : Wd g lay E H) (hla : lay a = some f) (hL : E a = L) {fs : List Value} {v : Value} (hfe : f L = .inr (ci, fs)) (hv : fs[j]? = some v) (hc : vwCl[ci]? = some (C, T, N)) (hj : j < N) (hin : ∀ w ∈ u_ws C T N, w ∈ lw_gd) (hlk : Cond.fieldLink own index C (T j).2.1 (T j).2.2.1 ∈ lw_gd) (hsame : (T j).1 = C) (hdg : decode cc pc = .ok (.getfield index, 3))
    (kk : W p l e R s m args below meth c H locs cells slots Q (F0 m (pc + 3) ls (v :: rest))) : W p l e R s m args below meth c H locs cells slots Q (F0 m pc ls (.ref a :: rest)) :=
  va_get (D := g.1) hx hb hts hin hown hK.1 (hW.one hla hL hfe) 0 rfl hc j hj (hts _ hlk) (by rw [hsame]; exact fun _ h => h) hv hdg kk
theorem w_put (hx : p.tables.exec = Jvm.exec) (hb : c.code = cc) {own C : String} {T : u_T} {N ci index j : Nat} (hown : s.vm.findClass own = some m.cls) (hts : ∀ w ∈ lw_gd, w.before args s = true) (hK : KK g s) (hge : okL g lay) (hW : Wd g lay E H) (hS : va_S (Ab g) H0 H locs) (hla : lay a = some f) (hL : E a = L) {fs : List Value} {x : Int32} (hfe : f L = .inr (ci, fs)) (hfe2 : f (upd L j x) = .inr (ci, fs.set j (.int x))) (hl : j < fs.length) (hc : vwCl[ci]? = some (C, T, N)) (hj : j < N) (hin : ∀ w ∈ u_ws C T N, w ∈ lw_gd) (ty0 : Nat → FieldType) (hty : ∀ k, k < N → parseFieldDescriptor (T k).2.2.1 = some (ty0 k)) (hnm : ∀ a, a < N → ∀ b, b < N → a ≠ b → (T a).2.1 ≠ (T b).2.1) (hlk : Cond.fieldLink own index C (T j).2.1 (T j).2.2.1 ∈ lw_gd) (hsame : (T j).1 = C) (hfin : (T j).2.2.2 = false) {ty : FieldType} (hd : parseFieldDescriptor (T j).2.2.1 = some ty) (hn : narrow ty (.int x) = .int x) (hfit : fits ty (.int x) = true) (hdg : decode cc pc = .ok (.putfield index, 3)) (hE : va_up E a (upd L j x) = E1)
    (kk : ∀ (H1 : Heap) (locs1 : List Loc), Wd g lay E1 H1 → va_S (Ab g) H0 H1 locs1 → W p l e R s m args below meth c H1 locs1 cells slots Q (F0 m (pc + 3) ls rest)) : W p l e R s m args below meth c H locs cells slots Q (F0 m pc ls (.int x :: .ref a :: rest)) := by
  have hap := va_apart (own := own) hts hin ty0 hty hnm hK.1 hc
  obtain ⟨r, h1, cell, q1, q2, q3, q4⟩ := (hW.one hla hL hfe) 0 _ rfl
  have hr : r = (C, T, N) := Option.some.inj (h1.symm.trans hc)
  subst hr
  obtain ⟨hSl, hfc, kC, hkC, hkind⟩ := hK.1.1 ci _ hc
  obtain ⟨cf, kf, fi, fd, hi, hsl⟩ := hSl j hj
  have hlay := hts _ (hin _ (u_in_lay hj))
  unfold u_lay at hlay
  rw [if_neg (by rw [hfin]; decide)] at hlay
  have hst := (u_facts hfc hkC (u_lays hts hin hj) hi).1
  have h6 := u_store hfc hkC hkind hlay hi hd hn hfit
  refine W.putK hx hb (f := fd) ⟨hown, hts _ hlk, ⟨_, _, _, by rw [hsame] at hi; exact hi⟩, hst⟩ (by rw [q2]; exact h6) q1 q3 (by rw [hsl]; exact k2_hasslot (q4 j hj)) rfl rfl hdg fun H' e1 e2 e3 => ?_
  rw [hsl] at e1 ⊢
  refine kk H' _ (hW.set hge hla ?_ e3 hE) (vaS_put hS hge hla e2 e3)
  rw [hfe2]
  exact ⟨_, hc, t_OB.to (V := updV (vp_V fs) j (.int x)) ⟨_, e1, q2, q3, t_set q4 hap hj (.int x)⟩ (fun i _ => vp_updV_set hl (.int x) i)⟩
theorem w_iald (hx : p.tables.exec = Jvm.exec) (hb : c.code = cc) (hK : KK g s) (hW : Wd g lay E H) {n : Nat} (hla : lay a = some (arI g n)) (hL : E a = L) {i : Int32} (hin : vp_in i n) (hdg : decode cc pc = .ok (.iaload, 1))
    (kk : W p l e R s m args below meth c H locs cells slots Q (F0 m (pc + 1) ls (.int (L i.toNatClampNeg) :: rest))) : W p l e R s m args below meth c H locs cells slots Q (F0 m pc ls (.int i :: .ref a :: rest)) :=
  va_iald (D := g.1) hx hb hK.1 (hW.one hla hL rfl) 0 0 rfl rfl hin hdg kk
theorem w_aldq (hx : p.tables.exec = Jvm.exec) (hb : c.code = cc) (hK : KK g s) (hW : Wd g lay E H) {n : Nat} {cA : ClassId} {C : String} {q : Nat → Option Nat} (t0 : Nat) (ht : (tyG g)[t0]? = some (cA, .object C)) (hla : lay a = some (arQ cA n q)) {i : Int32} (hin : vp_in i n) (hdg : decode cc pc = .ok (.aaload, 1))
    (kk : W p l e R s m args below meth c H locs cells slots Q (F0 m (pc + 1) ls (va_rf (q i.toNatClampNeg) :: rest))) : W p l e R s m args below meth c H locs cells slots Q (F0 m pc ls (.int i :: .ref a :: rest)) :=
  va_aldq (D := g.1) hx hb hK.1 (hW.one hla rfl rfl) 0 t0 rfl ht hin hdg kk
theorem w_alen (hx : p.tables.exec = Jvm.exec) (hb : c.code = cc) (hK : KK g s) (hW : Wd g lay E H) {cA : ClassId} {z : vp_A} {ty : FieldType} (t0 : Nat) (ht : (tyG g)[t0]? = some (cA, ty)) (hla : lay a = some f) (hL : E a = L) (hfe : f L = .inl (cA, z)) {v : Int32} (hv : Int32.ofNat z.1 = v) (hdg : decode cc pc = .ok (.arraylength, 1))
    (kk : W p l e R s m args below meth c H locs cells slots Q (F0 m (pc + 1) ls (.int v :: rest))) : W p l e R s m args below meth c H locs cells slots Q (F0 m pc ls (.ref a :: rest)) :=
  va_alen (D := g.1) hx hb hK.1 (hW.one hla hL hfe) 0 t0 rfl ht hv hdg kk
theorem w_iast (hx : p.tables.exec = Jvm.exec) (hb : c.code = cc) (hK : KK g s) (hge : okL g lay) (hW : Wd g lay E H) (hS : va_S (Ab g) H0 H locs) {n : Nat} (hla : lay a = some (arI g n)) (hL : E a = L) {i x : Int32} (hin : vp_in i n) (hdg : decode cc pc = .ok (.iastore, 1)) (hE : va_up E a (upd L i.toNatClampNeg x) = E1)
    (kk : ∀ (H1 : Heap) (locs1 : List Loc), Wd g lay E1 H1 → va_S (Ab g) H0 H1 locs1 → W p l e R s m args below meth c H1 locs1 cells slots Q (F0 m (pc + 1) ls rest)) : W p l e R s m args below meth c H locs cells slots Q (F0 m pc ls (.int x :: .int i :: .ref a :: rest)) := by
  refine W.iast hx hb ((hW.one hla hL rfl) 0 _ rfl) ((hK.1.2 0 _ rfl).1 n (fun j => .int (L j))) (fun q => by cases q) (by show ¬ (i < 0 ∨ (arrV _ _ _).slots.size ≤ _); rw [arrV_size]; exact hin) rfl rfl hdg fun H1 e z oq => ?_
  refine kk H1 _ (hW.set hge hla ?_ oq hE) (vaS_put hS hge hla z oq)
  show H1[a]? = some (vp_cell _ _)
  rw [e]
  rw [vp_cell_i, vp_cell_i, arrV_store]
  congr 2
  funext q
  by_cases hq : q = i.toNatClampNeg
  · subst hq
    simp [updV, upd]
  · simp [updV, upd, hq]
theorem w_recv {C : String} {T : u_T} {N ci : Nat} {fs : List Value} (hK : KK g s) (hW : Wd g lay E H) (hla : lay a = some f) (hL : E a = L) (hfe : f L = .inr (ci, fs)) (hc : vwCl[ci]? = some (C, T, N)) : ∃ cellB : Cell, H[a]? = some cellB ∧ cellB.vm.isStatics = false ∧ s.vm.findClass C = some cellB.cls :=
  va_recv hK.1 (hW.one hla hL hfe) (q := (C, T, N)) hc (q0 := 0) rfl
variable {y : MethodName} {bytes : ByteArray} {maxL nL n index : Nat} {ret : Option FieldType} {rm : Room} {own C : String} {As : List Value} {ws : List Cond}
theorem w_cvi (hx : p.tables.exec = Jvm.exec) (hb : c.code = cc) (hml : c.maxLocals = nL) (hown : s.vm.findClass own = some m.cls) (hts : ∀ w ∈ lw_gd, w.before args s = true) (hK : KK g s) (hW : Wd g lay E H) (hS : va_S (Ab g) H0 H locs) (hls : ls.size = nL) {Φ : Int32 → ES → Prop} (hM : JMi l g lay y ws rm (.ref a :: As) E Φ) (cw : CallW R s args own C index y bytes maxL ret ws rm 0 0 n) (hrc : ∃ cellB : Cell, H[a]? = some cellB ∧ cellB.vm.isStatics = false ∧ s.vm.findClass C = some cellB.cls) (hn : As.length = n) (hst : st = As.reverse ++ .ref a :: rest) (hcat : (rest.map fun v => v.category).sum ≤ 8) (hdg : decode cc pc = .ok (.invokevirtual index, 3)) (hf : cells + 0 ≤ R.cells ∧ slots + 0 ≤ R.slots)
    (kk : ∀ (r : Int32) (E1 : ES) (H1 : Heap) (locs1 : List Loc), Φ r E1 → Wd g lay E1 H1 → va_S (Ab g) H0 H1 locs1 → W p l e R s m args below meth c H1 locs1 cells slots Q (F0 m (pc + 3) ls (.int r :: rest))) : W p l e R s m args below meth c H locs cells slots Q (F0 m pc ls st) := by
  subst hst
  refine va_calli (va_runV (As := As) (rest := rest) ⟨hx, hb, hml, hown, hts⟩ hM cw ⟨blindW, hrc, fun U hU hW' => ⟨rfl, KK_warm hW' hK, by rw [hU]; exact hW⟩⟩ rfl hn hls rfl (lv_room hcat) hdg hf) hS (fun q _ h => h) (fun q h => h) (fun r u t H1 locs1 ht hvm hw hB hz hk hS1 => ?_)
  rw [ht] at hB
  exact kk r u H1 locs1 hw hB hS1
theorem w_cvv (hx : p.tables.exec = Jvm.exec) (hb : c.code = cc) (hml : c.maxLocals = nL) (hown : s.vm.findClass own = some m.cls) (hts : ∀ w ∈ lw_gd, w.before args s = true) (hK : KK g s) (hW : Wd g lay E H) (hS : va_S (Ab g) H0 H locs) (hls : ls.size = nL) {Φ : ES → Prop} (hM : JMv l g lay y ws rm (.ref a :: As) E Φ) (cw : CallW R s args own C index y bytes maxL ret ws rm 0 0 n) (hrc : ∃ cellB : Cell, H[a]? = some cellB ∧ cellB.vm.isStatics = false ∧ s.vm.findClass C = some cellB.cls) (hn : As.length = n) (hst : st = As.reverse ++ .ref a :: rest) (hcat : (rest.map fun v => v.category).sum ≤ 8) (hdg : decode cc pc = .ok (.invokevirtual index, 3)) (hf : cells + 0 ≤ R.cells ∧ slots + 0 ≤ R.slots)
    (kk : ∀ (E1 : ES) (H1 : Heap) (locs1 : List Loc), Φ E1 → Wd g lay E1 H1 → va_S (Ab g) H0 H1 locs1 → W p l e R s m args below meth c H1 locs1 cells slots Q (F0 m (pc + 3) ls rest)) : W p l e R s m args below meth c H locs cells slots Q (F0 m pc ls st) := by
  subst hst
  refine va_callv (va_runV (As := As) (rest := rest) ⟨hx, hb, hml, hown, hts⟩ hM cw ⟨blindW, hrc, fun U hU hW' => ⟨rfl, KK_warm hW' hK, by rw [hU]; exact hW⟩⟩ rfl hn hls rfl (lv_room hcat) hdg hf) hS (fun q _ h => h) (fun q h => h) (fun u t H1 locs1 ht hvm hw hB hz hk hS1 => ?_)
  rw [ht] at hB
  exact kk u H1 locs1 hw hB hS1
theorem w_cvr (hx : p.tables.exec = Jvm.exec) (hb : c.code = cc) (hml : c.maxLocals = nL) (hown : s.vm.findClass own = some m.cls) (hts : ∀ w ∈ lw_gd, w.before args s = true) (hK : KK g s) (hW : Wd g lay E H) (hS : va_S (Ab g) H0 H locs) (hls : ls.size = nL) {Φ : Nat → ES → Prop} (hM : JMr l g lay y ws rm (.ref a :: As) E Φ) (cw : CallW R s args own C index y bytes maxL ret ws rm 0 0 n) (hrc : ∃ cellB : Cell, H[a]? = some cellB ∧ cellB.vm.isStatics = false ∧ s.vm.findClass C = some cellB.cls) (hn : As.length = n) (hst : st = As.reverse ++ .ref a :: rest) (hcat : (rest.map fun v => v.category).sum ≤ 8) (hdg : decode cc pc = .ok (.invokevirtual index, 3)) (hf : cells + 0 ≤ R.cells ∧ slots + 0 ≤ R.slots)
    (kk : ∀ (r : Nat) (E1 : ES) (H1 : Heap) (locs1 : List Loc), Φ r E1 → Wd g lay E1 H1 → va_S (Ab g) H0 H1 locs1 → W p l e R s m args below meth c H1 locs1 cells slots Q (F0 m (pc + 3) ls (.ref r :: rest))) : W p l e R s m args below meth c H locs cells slots Q (F0 m pc ls st) := by
  subst hst
  refine va_callr (va_runV (As := As) (rest := rest) ⟨hx, hb, hml, hown, hts⟩ hM cw ⟨blindW, hrc, fun U hU hW' => ⟨rfl, KK_warm hW' hK, by rw [hU]; exact hW⟩⟩ rfl hn hls rfl (lv_room hcat) hdg hf) hS (fun q _ h => h) (fun q h => h) (fun u ra t H1 locs1 ht hvm hw hB hz hk hS1 => ?_)
  rw [ht] at hB
  exact kk ra u H1 locs1 hB.1 hB.2 hS1
theorem w_csi (hx : p.tables.exec = Jvm.exec) (hb : c.code = cc) (hml : c.maxLocals = nL) (hown : s.vm.findClass own = some m.cls) (hts : ∀ w ∈ lw_gd, w.before args s = true) (hK : KK g s) (hW : Wd g lay E H) (hS : va_S (Ab g) H0 H locs) (hls : ls.size = nL) {Φ : Int32 → ES → Prop} (hM : JMi l g lay y ws rm As E Φ) (cw : CallB R s args own index y bytes maxL ret ws rm 0 0 n ∧ (Cond.static y).before args s = true) (hn : As.length = n) (hst : st = As.reverse ++ rest) (hcat : (rest.map fun v => v.category).sum ≤ 8) (hdg : decode cc pc = .ok (.invokestatic index, 3)) (hf : cells + 0 ≤ R.cells ∧ slots + 0 ≤ R.slots)
    (kk : ∀ (r : Int32) (E1 : ES) (H1 : Heap) (locs1 : List Loc), Φ r E1 → Wd g lay E1 H1 → va_S (Ab g) H0 H1 locs1 → W p l e R s m args below meth c H1 locs1 cells slots Q (F0 m (pc + 3) ls (.int r :: rest))) : W p l e R s m args below meth c H locs cells slots Q (F0 m pc ls st) := by
  subst hst
  refine va_calli (va_runS (As := As) (rest := rest) ⟨hx, hb, hml, hown, hts⟩ hM cw ⟨blindW, fun U hU hW' => ⟨rfl, KK_warm hW' hK, by rw [hU]; exact hW⟩⟩ rfl hn hls rfl (lv_room hcat) hdg hf) hS (fun q _ h => h) (fun q h => h) (fun r u t H1 locs1 ht hvm hw hB hz hk hS1 => ?_)
  rw [ht] at hB
  exact kk r u H1 locs1 hw hB hS1
theorem w_csiN {host : String} (hx : p.tables.exec = Jvm.exec) (hb : c.code = cc) (hml : c.maxLocals = nL) (hown : s.vm.findClass own = some m.cls) (hts : ∀ w ∈ lw_gd, w.before args s = true) (hK : KK g s) (hW : Wd g lay E H) (hS : va_S (Ab g) H0 H locs) (hls : ls.size = nL) {Φ : Int32 → ES → Prop} (hM : JMi l g lay y ws rm As E Φ) (cw : va_CN R s args own index y host bytes maxL ret ws rm 0 0 n ∧ (Cond.static y).before args s = true ∧ True) (hn : As.length = n) (hst : st = As.reverse ++ rest) (hcat : (rest.map fun v => v.category).sum ≤ 8) (hdg : decode cc pc = .ok (.invokestatic index, 3)) (hf : cells + 0 ≤ R.cells ∧ slots + 0 ≤ R.slots)
    (kk : ∀ (r : Int32) (E1 : ES) (H1 : Heap) (locs1 : List Loc), Φ r E1 → Wd g lay E1 H1 → va_S (Ab g) H0 H1 locs1 → W p l e R s m args below meth c H1 locs1 cells slots Q (F0 m (pc + 3) ls (.int r :: rest))) : W p l e R s m args below meth c H locs cells slots Q (F0 m pc ls st) := by
  subst hst
  refine va_calli (va_runSN (As := As) (rest := rest) ⟨hx, hb, hml, hown, hts⟩ hM cw ⟨blindW, fun U hU hW' => ⟨rfl, KK_warm hW' hK, by rw [hU]; exact hW⟩⟩ rfl hn hls rfl (lv_room hcat) hdg hf) hS (fun q _ h => h) (fun q h => h) (fun r u t H1 locs1 ht hvm hw hB hz hk hS1 => ?_)
  rw [ht] at hB
  exact kk r u H1 locs1 hw hB hS1
end WR
section WE
variable {p : Program} {l : Launch} {e : Env} {R : Room} {s : State} {m : MethodId} {args : Array Value} {below : List Frame} {meth : Method} {c : Code} {H : Heap} {locs : List Loc}
variable {cc : ByteArray} {pc : Nat} {ls : Array Slot} {g : GG} {lay : LY} {E : ES}
theorem w_iret {v : Int32} {Φ : Int32 → ES → Prop} (hx : p.tables.exec = Jvm.exec) (hb : c.code = cc) (hr : meth.sig.returnType = some .int) (hlocks : meth.locks = false) (hW : Wd g lay E H) (hS : va_S (Ab g) s.heap H locs) (hq : Φ v E) (hdg : decode cc pc = .ok (.ireturn, 1)) : W p l e R s m args below meth c H locs 0 0 (MQ below (va_Qi Φ (fun E' t => Wd g lay E' t.heap) (Ab g)) args s 0 0 (Ab g)) (F0 m pc ls [.int v]) :=
  W.iret hx hb hr (fun t ht _ => ⟨⟨v, E, rfl, hq, (by show Wd g lay E t.heap; rw [ht]; exact hW)⟩, hS.F ht⟩) hS.2.2 hdg hlocks
theorem narZ {v : Int32} (h : v = 0 ∨ v = 1) : narrow .boolean (.int v) = .int v := by rcases h with rfl | rfl <;> decide
theorem fitZ {v : Int32} (h : v = 0 ∨ v = 1) : fits .boolean (.int v) = true := by rcases h with rfl | rfl <;> decide
theorem w_zret {v : Int32} {Φ : Int32 → ES → Prop} (hx : p.tables.exec = Jvm.exec) (hb : c.code = cc) (hr : meth.sig.returnType = some .boolean) (hlocks : meth.locks = false) (hW : Wd g lay E H) (hS : va_S (Ab g) s.heap H locs) (hz : v = 0 ∨ v = 1) (hq : Φ v E) (hdg : decode cc pc = .ok (.ireturn, 1)) : W p l e R s m args below meth c H locs 0 0 (MQ below (va_Qi Φ (fun E' t => Wd g lay E' t.heap) (Ab g)) args s 0 0 (Ab g)) (F0 m pc ls [.int v]) :=
  W.zret (ty := .boolean) hx hb hr (narZ hz) (fun t ht _ => ⟨⟨v, E, rfl, hq, (by show Wd g lay E t.heap; rw [ht]; exact hW)⟩, hS.F ht⟩) hS.2.2 hdg hlocks
theorem w_vret {Φ : ES → Prop} (hx : p.tables.exec = Jvm.exec) (hb : c.code = cc) (hr : meth.sig.returnType = none) (hlocks : meth.locks = false) (hW : Wd g lay E H) (hS : va_S (Ab g) s.heap H locs) (hq : Φ E) (hdg : decode cc pc = .ok (.return_, 1)) : W p l e R s m args below meth c H locs 0 0 (MQ below (va_Qv Φ (fun E' t => Wd g lay E' t.heap) (Ab g)) args s 0 0 (Ab g)) (F0 m pc ls []) :=
  W.vret hx hb hr (fun t ht _ => ⟨⟨E, rfl, hq, (by show Wd g lay E t.heap; rw [ht]; exact hW)⟩, hS.F ht⟩) hS.2.2 hdg hlocks
theorem w_aret {v : Nat} {rt : FieldType} {Φ : Nat → ES → Prop} (hx : p.tables.exec = Jvm.exec) (hb : c.code = cc) (hr : meth.sig.returnType = some rt) (hrt : (∃ n, rt = .object n) ∨ ∃ t, rt = .array t) (hlocks : meth.locks = false) (hW : Wd g lay E H) (hS : va_S (Ab g) s.heap H locs) (hq : Φ v E) (hdg : decode cc pc = .ok (.areturn, 1)) : W p l e R s m args below meth c H locs 0 0 (MQ below (va_Qr (S := ES) (fun _ => True) (fun E' a t => Φ a E' ∧ Wd g lay E' t.heap) (Ab g)) args s 0 0 (Ab g)) (F0 m pc ls [.ref v]) :=
  W.aret hx hb hr hrt (Or.inr ⟨v, rfl⟩) (fun t ht _ => ⟨⟨E, v, rfl, trivial, hq, (by show Wd g lay E t.heap; rw [ht]; exact hW)⟩, hS.F ht⟩) hS.2.2 hdg hlocks
end WE
theorem gd_GSU {own : String} {idx : Nat} {y : MethodName} {c0 : Cond} (h1 : Cond.methodLink own idx y ∈ lw_gd) (h2 : Cond.static y ∈ lw_gd) (h4 : Cond.initialized y.cls ∈ lw_gd) (h0 : c0 ∈ lw_gd) : GoodIn lw_gd (va_wsS own idx y (c0 :: lw_gd)) := fun w hw => by
  have h : w ∈ lw_gd := by
    simp only [va_wsS, List.cons_append, List.nil_append, List.mem_cons] at hw
    rcases hw with rfl | rfl | rfl | rfl | h
    · exact h1
    · exact h2
    · exact h4
    · exact h0
    · exact h
  exact ⟨h, good_of_word (gd_good _ h)⟩
