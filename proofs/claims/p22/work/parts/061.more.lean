theorem vuE {E0 : ES} {a : Nat} {L L' L1 : CS} (h : L1 = L') : va_up (va_up E0 a L) a L' = va_up E0 a L1 := by rw [vuU, h]
theorem puE {n o k : Nat} {X E X1 : ES} {L' : CS} (hk : k < n) (h : X1 = va_up X k L') : va_up (put n o X E) (o + k) L' = put n o X1 E := by rw [putUp hk, h]
theorem putSelf {n o : Nat} {X E : ES} (h : ∀ k, k < n → E (o + k) = X k) : put n o X E = E := by
  funext a
  by_cases h1 : o ≤ a ∧ a < o + n
  · have h2 := h (a - o) (by omega)
    rw [show o + (a - o) = a by omega] at h2
    simp [put, h1, h2]
  · simp [put, h1]
theorem neTwo {o o2 i j : Nat} (hd : o2 + 26 ≤ o ∨ o + 26 ≤ o2) (hi : i < 26) (hj : j < 26) : o + i ≠ o2 + j := by omega
theorem offTwo {o o2 k : Nat} (hd : o2 + 26 ≤ o ∨ o + 26 ≤ o2) (hk : k < 26) : o2 + k < o ∨ o + 26 ≤ o2 + k := by omega
theorem clamp_lt {x : Int32} {n : Nat} (h0 : ¬ x < 0) (h : ¬ Int32.ofNat n ≤ x) (hn : n < 2 ^ 31) : x.toNatClampNeg < n := by
  have h1 : (0 : Int) ≤ x.toInt := by have := mt Int32.lt_iff_toInt_lt.mpr h0; simp at this; exact this
  have h2 : x.toInt < n := by
    have h3 := mt Int32.le_iff_toInt_le.mpr h
    have h4 : (Int32.ofNat n).toInt = n := nI_toInt hn
    omega
  have h5 : x.toNatClampNeg = x.toInt.toNat := rfl
  omega
theorem isLi_lix (n : Int32) : isLi (lix n) := by
  unfold lix isLi
  by_cases h : n < 0 ∨ 16 ≤ n
  · rw [if_pos h]; exact Or.inl rfl
  · rw [if_neg h]
    have h1 := clamp_lt (n := 16) (fun q => h (Or.inl q)) (fun q => h (Or.inr q)) (by decide)
    exact Or.inr ⟨by omega, by omega⟩
theorem isFi_fix (n : Int32) : isFi (fix n) := by
  unfold fix isFi
  by_cases h : n < 0 ∨ 4 ≤ n
  · rw [if_pos h]; exact Or.inl rfl
  · rw [if_neg h]
    have h1 := clamp_lt (n := 4) (fun q => h (Or.inl q)) (fun q => h (Or.inr q)) (by decide)
    exact Or.inr ⟨by omega, by omega⟩
section WR2
variable {p : Program} {l : Launch} {e : Env} {R : Room} {s : State} {m : MethodId} {args : Array Value} {below : List Frame} {meth : Method} {c : Code} {H : Heap} {locs : List Loc} {cells slots : Nat} {Q : State → Prop}
variable {cc : ByteArray} {pc : Nat} {ls : Array Slot} {rest st : List Value} {g : GG} {lay : LY} {E E1 : ES} {H0 : Heap} {a : Nat} {f : CS → va_E} {L : CS}
theorem w_loop {KT : Type} {σ : Type} {Wl : KT → Nat → σ → Prop} {kx : KT} {Pw : σ → Heap → Prop} {lvf : σ → List (Nat × Value)} {nL : Nat} {Aw : Nat → Prop} (n : Nat) (q : σ) (hw : Wl kx n q) (hW : Pw q H) (hS : va_S Aw H0 H locs) (hl : lv_has ls nL (lvf q)) (h0 : ∀ q, Wl kx 0 q → False) (step : ∀ (K : KT) (_ : K = kx) (n : Nat) (q : σ) (H : Heap) (locs : List Loc) (ls : Array Slot), Wl K (n + 1) q → Pw q H → va_S Aw H0 H locs → lv_has ls nL (lvf q) → (∀ (q : σ) (H : Heap) (locs : List Loc) (ls : Array Slot), Wl K n q → Pw q H → va_S Aw H0 H locs → lv_has ls nL (lvf q) → W p l e R s m args below meth c H locs cells slots Q (F0 m pc ls [])) → W p l e R s m args below meth c H locs cells slots Q (F0 m pc ls [])) : W p l e R s m args below meth c H locs cells slots Q (F0 m pc ls []) := by
  revert H locs ls q
  induction n with
  | zero => exact fun q hw => absurd hw (h0 q)
  | succ n ih => exact fun q hw hW hS hl => step kx rfl n q _ _ _ hw hW hS hl (fun q H locs ls hw hW hS hl => ih q hw hW hS hl)
theorem lv_tabOut (hx : p.tables.exec = Jvm.exec) (hb : c.code = cc) {x : Int32} {dflt lo hi : Int} {offs : Array Int} {len tgt : Nat} (hdg : decode cc pc = .ok (.tableswitch dflt lo hi offs, len)) (h : x.toInt < lo ∨ hi < x.toInt) (ht : (pc : Int) + dflt = (tgt : Int)) (k : W p l e R s m args below meth c H locs cells slots Q (F0 m tgt ls rest)) : W p l e R s m args below meth c H locs cells slots Q (F0 m pc ls (.int x :: rest)) := lv_tableOut hx hb hdg h ht k
end WR2
