-- ===== the class's own init =====
section WX
variable {p : Program} {l : Launch} {e : Env} {R : Room} {s : State} {m : MethodId} {args : Array Value} {below : List Frame} {meth : Method} {c : Code} {H : Heap} {locs : List Loc} {cells slots : Nat} {Q : State → Prop}
variable {cc : ByteArray} {pc : Nat} {ls : Array Slot} {rest : List Value} {g : GG} {lay : LY} {E : ES} {H0 : Heap} {a : Nat}
variable {y : MethodName} {bytes : ByteArray} {maxL nL index mc ms : Nat} {rm : Room} {own : String} {ws : List Cond}
theorem w_iniE {S : Type} {P : S → Prop} {BH : S → Heap → Prop} (hx : p.tables.exec = Jvm.exec) (hb : c.code = cc) (hml : c.maxLocals = nL) (hown : s.vm.findClass own = some m.cls) (hts : ∀ w ∈ lw_gd, w.before args s = true) (hK : KK g s) (hW : Wd g lay E H) (hS : va_S (Ab g) H0 H locs) (hls : ls.size = nL) (hM : Met l y ws rm (va_Pc [.ref a] (fun U => KK g U ∧ Wd g lay E U.heap ∧ U.heap.size = H.size)) (va_Qv (S := S) P (fun u t => BH u t.heap) (Ab g)) mc ms (Ab g)) (cw : CallB R s args own index y bytes maxL none ws rm mc ms 0 ∧ y.name = "<init>" ∧ (Cond.instanceMethod y).before args s = true) (hcat : (rest.map fun v => v.category).sum ≤ 8) (hdg : decode cc pc = .ok (.invokespecial index, 3)) (hf : cells + mc ≤ R.cells ∧ slots + ms ≤ R.slots)
    (kk : ∀ (u : S) (H1 : Heap) (locs1 : List Loc), P u → BH u H1 → va_S (Ab g) H0 H1 locs1 → W p l e R s m args below meth c H1 locs1 (cells + mc) (slots + ms) Q (F0 m (pc + 3) ls rest)) : W p l e R s m args below meth c H locs cells slots Q (F0 m pc ls (.ref a :: rest)) := by
  refine va_callv (va_runI (As := []) (rest := rest) ⟨hx, hb, hml, hown, hts⟩ hM cw ⟨blindN, fun U hU hW' => ⟨rfl, KK_warm hW' hK, by rw [hU]; exact hW, by rw [hU]⟩⟩ rfl rfl hls rfl (lv_room hcat) hdg hf) hS (fun q _ h => h) (fun q h => h) (fun u t H1 locs1 ht hvm hw hB hz hk hS1 => ?_)
  have hB2 : BH u t.heap := hB
  rw [ht] at hB2
  exact kk u H1 locs1 hw hB2 hS1
end WX
/-- a row of references under another name: only its own places are read -/
theorem Wd.reQ {g : GG} {lay : LY} {E : ES} {H : Heap} {a n : Nat} {cA : ClassId} {q q2 : Nat → Option Nat} (hW : Wd g lay E H) (hla : lay a = some (arQ cA n q)) (hq : ∀ j, j < n → q2 j = q j) : Wd g (va_up lay a (some (arQ cA n q2))) E H := by
  refine ⟨fun a2 f2 h2 => ?_, hW.2⟩
  by_cases e : a2 = a
  · subst e
    rw [vuS] at h2
    cases h2
    have h1 : H[a2]? = some (vp_cell cA (n, .inr (.inr (.inr (.inr q))))) := hW.1 a2 _ hla
    show H[a2]? = some (vp_cell cA (n, .inr (.inr (.inr (.inr q2)))))
    rw [h1, vp_cell_q, vp_cell_q]
    unfold arrV
    congr 2
    apply Array.ext (by simp)
    intro i h3 h4
    simp only [Array.getElem_ofFn]
    rw [hq i (by simpa using h3)]
  · rw [vuN e] at h2
    exact hW.1 a2 f2 h2
def xbF (g : GG) (lay : LY) (a : Nat) : LY := va_up (va_up (xbL g lay a 16 4) (a + 1) (some (arQ (gL g) 16 (fun j => some (a + (6 + j)))))) (a + 2) (some (arQ (gF g) 4 (fun j => some (a + (22 + j)))))
theorem xbF_Wd {g : GG} {lay : LY} {E : ES} {H : Heap} {a : Nat} (hW : Wd g (xbL g lay a 16 4) E H) : Wd g (xbF g lay a) E H := by
  have h1 := hW.reQ (a := a + 1) (n := 16) (cA := gL g) (q := fun j => if j < 16 then some (a + (6 + j)) else none) (q2 := fun j => some (a + (6 + j))) (by rw [xbL, if_neg (by omega), if_pos rfl]) (fun j hj => by rw [if_pos hj])
  exact h1.reQ (a := a + 2) (n := 4) (cA := gF g) (q := fun j => if j < 4 then some (a + (22 + j)) else none) (q2 := fun j => some (a + (22 + j))) (by rw [vuN (by omega), xbL, if_neg (by omega), if_neg (by omega), if_pos rfl]) (fun j hj => by rw [if_pos hj])
theorem xbF_XL {g : GG} {lay : LY} {a : Nat} : XL g (xbF g lay a) a := by
  refine ⟨?_, ?_, vuS _ _ _, ?_, fun k hk => ?_, fun k hk => ?_⟩
  · rw [xbF, vuN (by omega), vuN (by omega), xbL, if_pos rfl]
  · rw [xbF, vuN (by omega), vuS]
  · rw [xbF, vuN (by omega), vuN (by omega), xbL, if_neg (by omega), if_neg (by omega), if_neg (by omega), if_neg (by omega), if_neg (by omega), if_pos rfl]
  · rcases hk with rfl | ⟨h1, h2⟩
    · rw [xbF, vuN (by omega), vuN (by omega), xbL, if_neg (by omega), if_neg (by omega), if_neg (by omega), if_pos rfl]
    · rw [xbF, vuN (by omega), vuN (by omega), xbL, if_neg (by omega), if_neg (by omega), if_neg (by omega), if_neg (by omega), if_neg (by omega), if_neg (by omega), if_pos (by omega)]
  · rcases hk with rfl | ⟨h1, h2⟩
    · rw [xbF, vuN (by omega), vuN (by omega), xbL, if_neg (by omega), if_neg (by omega), if_neg (by omega), if_neg (by omega), if_pos rfl]
    · rw [xbF, vuN (by omega), vuN (by omega), xbL, if_neg (by omega), if_neg (by omega), if_neg (by omega), if_neg (by omega), if_neg (by omega), if_neg (by omega), if_neg (by omega), if_pos (by omega)]
