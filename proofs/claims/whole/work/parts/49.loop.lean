theorem wd_80 : Cond.classLink RL 7 RX4 ∈ lw_gd := gd_in (List.mem_of_getElem? (i := 80) (by decide +kernel)) (by decide +kernel)
theorem wd_81 : Cond.instantiable RX4 4 ∈ lw_gd := gd_in (List.mem_of_getElem? (i := 81) (by decide +kernel)) (by decide +kernel)
theorem wd_642 : Cond.classLink RL 10 RX5 ∈ lw_gd := gd_in (List.mem_of_getElem? (i := 642) (by decide +kernel)) (by decide +kernel)
theorem wd_643 : Cond.instantiable RX5 10 ∈ lw_gd := gd_in (List.mem_of_getElem? (i := 643) (by decide +kernel)) (by decide +kernel)
theorem wd_82 : Cond.methodLink RL 9 yX4_init ∈ lw_gd := gd_in (List.mem_of_getElem? (i := 82) (by decide +kernel)) (by decide +kernel)
theorem wd_83 : Cond.instanceMethod yX4_init ∈ lw_gd := gd_in (List.mem_of_getElem? (i := 83) (by decide +kernel)) (by decide +kernel)
theorem wd_84 : Cond.code yX4_init cX4_init 1 none ∈ lw_gd := gd_in (List.mem_of_getElem? (i := 84) (by decide +kernel)) (by decide +kernel)
theorem wd_644 : Cond.methodLink RL 12 yX5_init ∈ lw_gd := gd_in (List.mem_of_getElem? (i := 644) (by decide +kernel)) (by decide +kernel)
theorem wd_645 : Cond.instanceMethod yX5_init ∈ lw_gd := gd_in (List.mem_of_getElem? (i := 645) (by decide +kernel)) (by decide +kernel)
theorem wd_646 : Cond.code yX5_init cX5_init 1 none ∈ lw_gd := gd_in (List.mem_of_getElem? (i := 646) (by decide +kernel)) (by decide +kernel)
-- ===== the law's loop =====
theorem len4 {L i : Nat} (hL : L ≤ 2048) (hi : i ≤ 2052) (h : ¬ nI L - 4 < nI i) : i + 4 ≤ L := by
  have h1 := mt Int32.lt_iff_toInt_lt.mpr h
  have e1 : (nI i).toInt = (i : Int) := nI_toInt (by omega)
  by_cases h4 : 4 ≤ L
  · have e2 : nI L - 4 = nI (L - 4) := by
      have e3 : nI (L - 4) + 4 = nI L := by
        rw [show (4 : Int32) = nI 4 from rfl, nI_add]
        congr 1; omega
      rw [← e3, Int32.add_sub_cancel]
    rw [e2, nI_toInt (by omega), e1] at h1
    omega
  · exfalso
    have e3 : (nI L - 4).toInt < 0 := by
      rcases (by omega : L = 0 ∨ L = 1 ∨ L = 2 ∨ L = 3) with z | z | z | z <;> subst z <;> decide
    rw [e1] at h1
    omega
section LL
variable {p : Program} {l : Launch} {e : Env} {s : State} {m : MethodId} {below : List Frame} {meth : Method} {c : Code} {g : GG} {b L o : Nat} {xs : Nat → Int32}
set_option maxHeartbeats 8000000 in
theorem law_loop (hx : p.tables.exec = Jvm.exec) (hb : c.code = code) (hr : meth.sig.returnType = ret) (hml : c.maxLocals = 4) (hown : s.vm.findClass RL = some m.cls) (hts : ∀ w ∈ lw_gd, w.before #[Value.ref b] s = true) (hlocks : meth.locks = false) (hK : KK g s) (hg : gH g = s.heap) (hX : va_X b L xs s s.heap) (hbl : b < s.heap.size) (hbA : ¬ Ab g b) (hL : L ≤ 2048) : ∀ (j n q : Nat) (sv : Nat → Option Nat) (lay : LY) (E : ES) (H : Heap) (locs : List Loc) (cells slots : Nat) (ls : Array Slot), n + j = 513 → q ≤ 64 * n → cells ≤ 100 + 26 * n → slots ≤ 2000 + 244 * n → okL g lay → RL4 g lay o sv → ML g lay (o + 56) → SL g lay o sv → Inv q o sv E → Wd g lay E H → va_S (Ab g) s.heap H locs → lv_has ls 4 (lvL b o (4 * n)) → W p l e room_1 s m #[Value.ref b] below meth c H locs cells slots (lw_Z below #[Value.ref b] s) (F0 m 18 ls [])
  | j, n, q, sv, lay, E, H, locs, cells, slots, ls, hn, hq, hcc, hss, hA, HR, HM, HS, hI, hW, hS, hl => by
    refine lv_iload_n hx hb dL_law_18 rfl (lv_at hl 3 rfl) ?_
    refine lv_aload_n hx hb dL_law_19 rfl (lv_at hl 0 rfl) ?_
    refine va_slen hx hb hX hbl hbA hS dL_law_20 ?_
    refine lv_iconst (v := 4) hx hb dL_law_21 (by decide) ?_
    refine lv_isub hx hb dL_law_22 ?_
    refine lv_icmp_gt (tgt := 677) hx hb dL_law_23 (by decide) (fun _ => ?_) (fun hlt => ?_)
    · refine va_forget (fun x hx => by have h : (gH g).size ≤ x.base := hS.2.2 x hx; rw [hg] at h; exact h) ?_
      refine W.widen (k := 600000) (n := 7302250) (by omega) (by omega) ?_
      refine lv_iconst (v := 1) hx hb dL_law_677 (by decide) ?_
      exact lw_ret hx hb hr hlocks dL_law_678
    · have hi4 : 4 * n + 4 ≤ L := len4 hL (by omega) hlt
      have hi : 4 * n + 3 < L := by omega
      have hcz : cells ≤ 500000 ∧ slots ≤ 7000000 := ⟨by omega, by omega⟩
      have hq2 : q + 64 < 2 ^ 30 := by omega
      have back : ∀ (q2 : Nat) (sv2 : Nat → Option Nat) (lay2 : LY) (E2 : ES) (H2 : Heap) (locs2 : List Loc) (cells2 slots2 : Nat), q2 ≤ 64 * (n + 1) → cells2 ≤ 100 + 26 * (n + 1) → slots2 ≤ 2000 + 244 * (n + 1) → okL g lay2 → RL4 g lay2 o sv2 → ML g lay2 (o + 56) → SL g lay2 o sv2 → Inv q2 o sv2 E2 → Wd g lay2 E2 H2 → va_S (Ab g) s.heap H2 locs2 → W p l e room_1 s m #[Value.ref b] below meth c H2 locs2 cells2 slots2 (lw_Z below #[Value.ref b] s) (F0 m 671 ls []) := by
        intro q2 sv2 lay2 E2 H2 locs2 cells2 slots2 a1 a2 a3 a4 a5 a6 a7 a8 a9 a10
        obtain ⟨j', rfl⟩ : ∃ j', j = j' + 1 := ⟨j - 1, by omega⟩
        refine lv_iinc (k := 3) (v := nI (4 * (n + 1))) (lv' := [(3, .int (nI (4 * (n + 1)))), (0, .ref b), (1, .ref o), (2, .ref (o + 56))]) hx hb dL_law_671 hl rfl (by
          rw [show Int32.ofInt 4 = nI 4 from by decide, nI_add]
          congr 1) (by decide) rfl (fun ls hl => ?_)
        refine lv_goto (tgt := 18) hx hb dL_law_674 (by decide) ?_
        exact law_loop hx hb hr hml hown hts hlocks hK hg hX hbl hbA hL j' (n + 1) q2 sv2 lay2 E2 H2 locs2 cells2 slots2 ls (by omega) a1 a2 a3 a4 a5 a6 a7 a8 a9 a10 (lv_sub hl [1, 2, 3, 0] rfl)
      have back1 : ∀ (E2 : ES) (H2 : Heap) (locs2 : List Loc), Wd g lay E2 H2 → va_S (Ab g) s.heap H2 locs2 → Inv (q + 64) o sv E2 → W p l e room_1 s m #[Value.ref b] below meth c H2 locs2 cells slots (lw_Z below #[Value.ref b] s) (F0 m 671 ls []) := fun E2 H2 locs2 b1 b2 b3 => back (q + 64) sv lay E2 H2 locs2 cells slots (by omega) (by omega) (by omega) hA HR HM HS b3 b1 b2
      refine lv_aload_n hx hb dL_law_26 rfl (lv_at hl 0 rfl) ?_
      refine lv_iload_n hx hb dL_law_27 rfl (lv_at hl 3 rfl) ?_
      refine va_sld hx hb hX hbl hbA hS (nIn (N := L) (by omega) (by omega)) dL_law_28 ?_
      refine lv_bipush (v := 31) hx hb dL_law_29 (by decide) ?_
      refine lv_iand hx hb dL_law_31 ?_
      refine lv_topi (fun v _ => ?_)
      by_cases k0 : v = 0
      · rw [k0]
        refine lv_tableIn (off := 92) (tgt := 124) hx hb dL_law_32 (by decide) (by decide) rfl (by decide) ?_
        exact law_setUp hx hb hml hown hts hK hX hbl hbA hL hi HR HM hW hS hl hcz (P_setUp hA HR HM hI hq2 (xs (4 * n + 1)) (xs (4 * n + 2))) back1
      by_cases k1 : v = 1
      · rw [k1]
        refine lv_tableIn (off := 125) (tgt := 157) hx hb dL_law_32 (by decide) (by decide) rfl (by decide) ?_
        exact law_set hx hb hml hown hts hK hX hbl hbA hL hi HR HM hW hS hl hcz (P_set hA HR HM hI hq2 (xs (4 * n + 1)) (xs (4 * n + 2))) back1
      by_cases k2 : v = 2
      · rw [k2]
        refine lv_tableIn (off := 158) (tgt := 190) hx hb dL_law_32 (by decide) (by decide) rfl (by decide) ?_
        exact law_lift hx hb hml hown hts hK hX hbl hbA hL hi HR HM hW hS hl hcz (P_lift hA HR HM hI hq2 (xs (4 * n + 1))) back1
      by_cases k3 : v = 3
      · rw [k3]
        refine lv_tableIn (off := 181) (tgt := 213) hx hb dL_law_32 (by decide) (by decide) rfl (by decide) ?_
        exact law_hang hx hb hml hown hts hK hX hbl hbA hL hi HR HM hW hS hl hcz (P_hang hA HR HM hI hq2 (xs (4 * n + 1))) back1
      by_cases k4 : v = 4
      · rw [k4]
        refine lv_tableIn (off := 204) (tgt := 236) hx hb dL_law_32 (by decide) (by decide) rfl (by decide) ?_
        exact law_dial hx hb hml hown hts hK hX hbl hbA hL hi HR HM hW hS hl hcz (P_dial hA HR HM hI hq2 (xs (4 * n + 1)) (xs (4 * n + 2))) back1
      by_cases k5 : v = 5
      · rw [k5]
        refine lv_tableIn (off := 237) (tgt := 269) hx hb dL_law_32 (by decide) (by decide) rfl (by decide) ?_
        exact law_tick hx hb hml hown hts hK hX hbl hbA hL hi HR HM hW hS hl hcz (P_tick hA HR HM hI hq2 (xs (4 * n + 1))) back1
      by_cases k6 : v = 6
      · rw [k6]
        refine lv_tableIn (off := 260) (tgt := 292) hx hb dL_law_32 (by decide) (by decide) rfl (by decide) ?_
        exact law_line hx hb hml hown hts hK hX hbl hbA hL hi HR HM hW hS hl hcz (P_line hA HR HM hI hq2 (xs (4 * n + 1)) (xs (4 * n + 2))) back1
      by_cases k7 : v = 7
      · rw [k7]
        refine lv_tableIn (off := 293) (tgt := 325) hx hb dL_law_32 (by decide) (by decide) rfl (by decide) ?_
        exact law_finder hx hb hml hown hts hK hX hbl hbA hL hi HR HM hW hS hl hcz (P_finder hA HR HM hI hq2 (xs (4 * n + 1)) (xs (4 * n + 2))) back1
      by_cases k8 : v = 8
      · rw [k8]
        refine lv_tableIn (off := 326) (tgt := 358) hx hb dL_law_32 (by decide) (by decide) rfl (by decide) ?_
        exact law_connector hx hb hml hown hts hK hX hbl hbA hL hi HR HM hW hS hl hcz (P_connector hA HR HM hI hq2 (xs (4 * n + 1)) (xs (4 * n + 2))) back1
      by_cases k9 : v = 9
      · rw [k9]
        refine lv_tableIn (off := 359) (tgt := 391) hx hb dL_law_32 (by decide) (by decide) rfl (by decide) ?_
        exact law_count hx hb hml hown hts hK hX hbl hbA hL hi HR HM hW hS hl hcz (P_count hA HR HM hI hq2 (xs (4 * n + 1))) back1
      by_cases k10 : v = 10
      · rw [k10]
        refine lv_tableIn (off := 382) (tgt := 414) hx hb dL_law_32 (by decide) (by decide) rfl (by decide) ?_
        exact law_trace hx hb hml hown hts hK hX hbl hbA hL hi HR HM hW hS hl hcz (P_trace hA HR HM hI hq2 (xs (4 * n + 1)) (xs (4 * n + 2))) back1
      by_cases k11 : v = 11
      · rw [k11]
        refine lv_tableIn (off := 415) (tgt := 447) hx hb dL_law_32 (by decide) (by decide) rfl (by decide) ?_
        exact law_until hx hb hml hown hts hK hX hbl hbA hL hi HR HM hW hS hl hcz (P_until hA HR HM hI hq2 (xs (4 * n + 1)) (xs (4 * n + 2)) (xs (4 * n + 3))) back1
      by_cases k12 : v = 12
      · rw [k12]
        refine lv_tableIn (off := 458) (tgt := 490) hx hb dL_law_32 (by decide) (by decide) rfl (by decide) ?_
        exact law_attempt hx hb hml hown hts hK hX hbl hbA hL hi HR HM hW hS hl hcz (P_attempt hA HR HM hI hq2 (xs (4 * n + 1)) (xs (4 * n + 2)) (xs (4 * n + 3))) back1
      by_cases k13 : v = 13
      · rw [k13]
        refine lv_tableIn (off := 501) (tgt := 533) hx hb dL_law_32 (by decide) (by decide) rfl (by decide) ?_
        exact law_put hx hb hml hown hts hK hX hbl hbA hL hi HR HM hW hS hl hcz (P_put hA HR HM hI hq2 (pL (xs (4 * n + 1)) (xs (4 * n + 2)))) back1
      by_cases k14 : v = 14
      · rw [k14]
        refine lv_tableIn (off := 554) (tgt := 586) hx hb dL_law_32 (by decide) (by decide) rfl (by decide) ?_
        exact law_wipe hx hb hml hown hts hK hX hbl hbA hL hi HR HM hW hS hl hcz (P_wipe hA HR HM hI hq2 ) back1
      by_cases k15 : v = 15
      · rw [k15]
        refine lv_tableIn (off := 567) (tgt := 599) hx hb dL_law_32 (by decide) (by decide) rfl (by decide) ?_
        exact law_fault hx hb hml hown hts hK hX hbl hbA hL hi HR HM hW hS hl hcz (P_fault hA HR HM hI hq2 ) back1
      by_cases k16 : v = 16
      · rw [k16]
        refine lv_tableIn (off := 580) (tgt := 612) hx hb dL_law_32 (by decide) (by decide) rfl (by decide) ?_
        exact law_carryOut hx hb hml hown hts hK hX hbl hbA hL hi HR HM hW hS hl hcz (P_carryOut hA HR HM hI hq2 ) back1
      by_cases k17 : v = 17
      · rw [k17]
        refine lv_tableIn (off := 593) (tgt := 625) hx hb dL_law_32 (by decide) (by decide) rfl (by decide) ?_
        exact law_save (q := q) hx hb hml hown hts hK hX hbl hbA hL hi HR HM hW hS hl hcz hA HS hI (fun lay1 sv1 E2 H2 locs2 b1 b2 b3 b4 b5 b6 b7 => back q sv1 lay1 E2 H2 locs2 (cells + 26) (slots + 244) (by omega) (by omega) (by omega) b1 b2 b3 b4 b7 b5 b6)
      by_cases k18 : v = 18
      · rw [k18]
        refine lv_tableIn (off := 616) (tgt := 648) hx hb dL_law_32 (by decide) (by decide) rfl (by decide) ?_
        exact law_restore hx hb hml hown hts hK hX hbl hbA hL hi HR HM hW hS hl hcz (P_restore hA HR HM hI hq2 HS (xs (4 * n + 1))) back1
      have hout : v.toInt < 0 ∨ 18 < v.toInt := by
        have key : ∀ t : Nat, t ≤ 18 → ¬ v = nI t → ¬ v.toInt = t := fun t ht h1 h2 => h1 (Int32.toInt_inj.mp (h2.trans (nI_toInt (by omega)).symm))
        have := key 0 (by decide) k0
        have := key 1 (by decide) k1
        have := key 2 (by decide) k2
        have := key 3 (by decide) k3
        have := key 4 (by decide) k4
        have := key 5 (by decide) k5
        have := key 6 (by decide) k6
        have := key 7 (by decide) k7
        have := key 8 (by decide) k8
        have := key 9 (by decide) k9
        have := key 10 (by decide) k10
        have := key 11 (by decide) k11
        have := key 12 (by decide) k12
        have := key 13 (by decide) k13
        have := key 14 (by decide) k14
        have := key 15 (by decide) k15
        have := key 16 (by decide) k16
        have := key 17 (by decide) k17
        have := key 18 (by decide) k18
        omega
      refine lv_tabOut (tgt := 671) hx hb dL_law_32 hout (by decide) ?_
      exact back1 E H locs hW hS (Inv_q (by omega) hI)
termination_by j => j
end LL
theorem PM_ext {M M' : ES} (h0 : M' 0 = M 0) (h1 : M' 1 = M 1) (h4 : M' 4 = M 4) (h : PM M) : PM M' := by
  obtain ⟨⟨h, N, G, a, b⟩, c, d, e⟩ := h
  exact ⟨⟨h, N, G, h1.trans a, b⟩, by rw [h0]; exact c, by rw [h4]; exact d, by rw [h4]; exact e⟩
theorem RL4_congr {g : GG} {lay lay2 : LY} {o : Nat} {sv : Nat → Option Nat} (h : ∀ k, k < 56 → lay2 (o + k) = lay (o + k)) (HR : RL4 g lay o sv) : RL4 g lay2 o sv := by
  have e : ∀ t k, t + k < 56 → lay2 (o + t + k) = lay (o + t + k) := fun t k hk => by rw [Nat.add_assoc]; exact h _ hk
  exact ⟨(h 0 (by decide)).trans HR.1, XL_congr (fun k hk => e 1 k (by omega)) HR.2.1, XL_congr (fun k hk => e 27 k (by omega)) HR.2.2.1, (h 53 (by decide)).trans HR.2.2.2.1, (h 54 (by decide)).trans HR.2.2.2.2.1, (h 55 (by decide)).trans HR.2.2.2.2.2⟩
theorem k_L_9 {R : Room} {s : State} {args : Array Value} (hts : ∀ w ∈ lw_gd, w.before args s = true) (hR : rmX4_init.frames + 1 ≤ R.frames ∧ 8 + (1 + 11) + rmX4_init.locals ≤ R.locals) : CallB R s args RL 9 yX4_init cX4_init 1 none wsX4_init rmX4_init 55 552 0 ∧ yX4_init.name = "<init>" ∧ (Cond.instanceMethod yX4_init).before args s = true :=
  cwI 0 hts (gd_GI wd_84) rfl rfl rfl (hts _ wd_74) (hts _ wd_82) (hts _ wd_83) rfl (by decide +kernel) hR
theorem k_L_12 {R : Room} {s : State} {args : Array Value} (hts : ∀ w ∈ lw_gd, w.before args s = true) (hR : rmX5_init.frames + 1 ≤ R.frames ∧ 8 + (1 + 11) + rmX5_init.locals ≤ R.locals) : CallB R s args RL 12 yX5_init cX5_init 1 none wsX5_init rmX5_init 6 1122 0 ∧ yX5_init.name = "<init>" ∧ (Cond.instanceMethod yX5_init).before args s = true :=
  cwI 0 hts (gd_GI wd_646) rfl rfl rfl (hts _ wd_79) (hts _ wd_644) (hts _ wd_645) rfl (by decide +kernel) hR
set_option maxHeartbeats 8000000 in
set_option maxRecDepth 100000 in
theorem whole_start {p : Program} {e : Env} {s : State} {m : MethodId} {below : List Frame} {meth : Method} {c : Code} (l : Launch) (hflags : l.flags = flags0) {b L : Nat} {xs : Nat → Int32} (hL : L ≤ 2048) (C0 : lw_At p s m meth c b L xs) : W p l e room_1 s m #[Value.ref b] below meth c s.heap [] 0 0 (lw_Z below #[Value.ref b] s) (entryFrame m ([Value.ref b] : List Value).toArray 4) := by
  obtain ⟨g, hg, hK⟩ := start_KK C0
  obtain ⟨hx, hb, hr, hml, hown, hts0, hX, hbl, hlocks, -⟩ := C0
  have hown : s.vm.findClass RL = some m.cls := hown
  have hts : ∀ w ∈ lw_gd, w.before #[Value.ref b] s = true := fun w hw => hts0 w (gd_tbl w hw)
  have hbA : ¬ Ab g b := fun z => by
    have z : (gH g).size ≤ b := z
    rw [hg] at z
    omega
  have hS : va_S (Ab g) s.heap s.heap [] := va_S.rf
  have hA : okL g (fun _ => none) := fun a f h => by cases h
  have hW : Wd g (fun _ => none) (fun _ => z0) s.heap := ⟨fun a f h => (by cases h), fun q _ => by rw [hg]⟩
  have hl := lv_entry ([.ref b]) (n := 4) (Nat.le_of_ble_eq_true rfl)
  rw [lg_entry_eq]
  generalize (lg_sl ([.ref b]) ++ List.replicate (4 - (lg_sl ([.ref b])).length) Slot.unset).toArray = ls at hl ⊢
  have hl : lv_has ls 4 [(0, .ref b)] := hl
  have hgz : (gH g).size = s.heap.size := by rw [hg]
  generalize ho : s.heap.size = o at hgz
  refine w_newo (f := objE 4 [.null, .null, .null, .null]) (L := z0) hx hb hown hts hK hW (by omega) hS inX4 tyX4 tyX4_ok wd_80 wd_81 wd_74 rfl [.null, .null, .null, .null] (fun j hj => by rcases (by omega : j = 0 ∨ j = 1 ∨ j = 2 ∨ j = 3) with z | z | z | z <;> subst z <;> rfl) rfl (Nat.le_of_ble_eq_true rfl) (Nat.le_of_ble_eq_true rfl) dL_law_0 (fun H hz hW hS => ?_)
  rw [ho] at hW hz ⊢
  refine lv_dup hx hb dL_law_3 rfl ?_
  have hA1 : okL g (va_up (fun _ => none) o (some (objE 4 [.null, .null, .null, .null]))) := okL.push hA (by omega)
  have hM := c_X4_init (l := l) (E := va_up (fun _ => z0) o z0) hA1 (vuS _ _ _)
  rw [← hz] at hM
  refine w_iniE (S := CS) (P := FS) (BH := fun fr Hh => RotPost g (va_up (fun _ => none) o (some (objE 4 [.null, .null, .null, .null]))) (va_up (fun _ => z0) o z0) o fr Hh) (rest := [.ref o]) hx hb hml hown hts hK hW hS hl.1 hM (k_L_9 hts ⟨(Nat.le_of_ble_eq_true rfl), (Nat.le_of_ble_eq_true rfl)⟩) (Nat.le_of_ble_eq_true rfl) dL_law_4 ⟨(Nat.le_of_ble_eq_true rfl), (Nat.le_of_ble_eq_true rfl)⟩ (fun fr H locs hF hB hS => ?_)
  obtain ⟨lay2, E2, hW, hA2, hz, HR, hoff, hx1, h30, h54⟩ := hB
  refine lv_astore_n (lv' := [(1, .ref o), (0, .ref b)]) hx hb dL_law_7 rfl hl (by decide) rfl (fun ls hl => ?_)
  refine w_newo (f := objE 5 [.null, .null, .null, .null, .null, .int 0, .int 0, .int 0, .null, .int 0]) (L := z0) hx hb hown hts hK hW (by omega) hS inX5 tyX5 tyX5_ok wd_642 wd_643 wd_79 rfl [.null, .null, .null, .null, .null, .int 0, .int 0, .int 0, .null, .int 0] (fun j hj => by rcases (by omega : j = 0 ∨ j = 1 ∨ j = 2 ∨ j = 3 ∨ j = 4 ∨ j = 5 ∨ j = 6 ∨ j = 7 ∨ j = 8 ∨ j = 9) with z | z | z | z | z | z | z | z | z | z <;> subst z <;> rfl) rfl (Nat.le_of_ble_eq_true rfl) (Nat.le_of_ble_eq_true rfl) dL_law_8 (fun H hz2 hW hS => ?_)
  rw [hz] at hW hz2 ⊢
  refine lv_dup hx hb dL_law_11 rfl ?_
  have hA3 : okL g (va_up lay2 (o + 56) (some (objE 5 [.null, .null, .null, .null, .null, .int 0, .int 0, .int 0, .null, .int 0]))) := okL.push hA2 (by omega)
  have hM := c_X5_init (l := l) (E := va_up E2 (o + 56) z0) hA3 (vuS _ _ _)
  rw [← hz2] at hM
  refine w_iniE (S := ES) (P := PM) (BH := fun M Hh => Wd g (mlay g (va_up lay2 (o + 56) (some (objE 5 [.null, .null, .null, .null, .null, .int 0, .int 0, .int 0, .null, .int 0]))) (o + 56)) (put 7 (o + 56) M (va_up E2 (o + 56) z0)) Hh) (rest := [.ref (o + 56)]) hx hb hml hown hts hK hW hS hl.1 hM (k_L_12 hts ⟨(Nat.le_of_ble_eq_true rfl), (Nat.le_of_ble_eq_true rfl)⟩) (Nat.le_of_ble_eq_true rfl) dL_law_12 ⟨(Nat.le_of_ble_eq_true rfl), (Nat.le_of_ble_eq_true rfl)⟩ (fun M H locs hPM hW hS => ?_)
  have hlow : ∀ k, k < 56 → mlay g (va_up lay2 (o + 56) (some (objE 5 [.null, .null, .null, .null, .null, .int 0, .int 0, .int 0, .null, .int 0]))) (o + 56) (o + k) = lay2 (o + k) := fun k hk => by
    rw [mlay, vuN (by omega), vuN (by omega), vuN (by omega), vuN (by omega), vuN (by omega), vuN (by omega), vuN (by omega), vuN (by omega)]
  have hA4 : okL g (mlay g (va_up lay2 (o + 56) (some (objE 5 [.null, .null, .null, .null, .null, .int 0, .int 0, .int 0, .null, .int 0]))) (o + 56)) := okL.push (okL.push (okL.push (okL.push (okL.push (okL.push (okL.push hA3 (by omega)) (by omega)) (by omega)) (by omega)) (by omega)) (by omega)) (by omega)
  have HR : RL4 g (mlay g (va_up lay2 (o + 56) (some (objE 5 [.null, .null, .null, .null, .null, .int 0, .int 0, .int 0, .null, .int 0]))) (o + 56)) o (fun _ => none) := RL4_congr hlow HR
  have HM : ML g (mlay g (va_up lay2 (o + 56) (some (objE 5 [.null, .null, .null, .null, .null, .int 0, .int 0, .int 0, .null, .int 0]))) (o + 56)) (o + 56) := mlay_ML
  have elow : ∀ k, k < o + 56 → put 7 (o + 56) M (va_up E2 (o + 56) z0) k = E2 k := fun k hk => (putOff (Or.inl hk)).trans (vuN (by omega))
  have hI : Inv 0 o (fun _ => none) (put 7 (o + 56) M (va_up E2 (o + 56) z0)) := Inv_init (E0 := va_up (fun _ => z0) o z0) (fr := fr) (fun k hk => (elow _ (by omega)).trans (hx1 k hk)) hF (by rw [elow _ (by omega)]; exact h30) (by rw [elow _ (by omega)]; exact h54) (PM_ext (vwPut (by decide)) (vwPut (by decide)) (vwPut (by decide)) hPM) rfl rfl
  have HS : SL g (mlay g (va_up lay2 (o + 56) (some (objE 5 [.null, .null, .null, .null, .null, .int 0, .int 0, .int 0, .null, .int 0]))) (o + 56)) o (fun _ => none) := ⟨fun j a _ h => (by cases h), fun a0 a1 h _ => (by cases h)⟩
  refine lv_astore_n (lv' := [(2, .ref (o + 56)), (1, .ref o), (0, .ref b)]) hx hb dL_law_15 rfl hl (by decide) rfl (fun ls hl => ?_)
  refine lv_iconst (v := 0) hx hb dL_law_16 (by decide) ?_
  refine lv_istore_n (lv' := [(3, .int 0), (2, .ref (o + 56)), (1, .ref o), (0, .ref b)]) hx hb dL_law_17 rfl hl (by decide) rfl (fun ls hl => ?_)
  exact law_loop hx hb hr hml hown hts hlocks hK hg hX hbl hbA hL 513 0 0 (fun _ => none) _ _ H locs _ _ ls rfl (Nat.le_refl _) (Nat.le_of_ble_eq_true rfl) (Nat.le_of_ble_eq_true rfl) hA4 HR HM HS hI hW hS (lv_sub hl [3, 2, 1, 0] rfl)
