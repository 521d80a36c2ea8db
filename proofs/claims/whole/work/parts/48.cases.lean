-- ===== the law's cases =====
def pL (x y : Int32) : Int64 := (x.toInt64 <<< ((32 : Int32).toInt64 &&& 63)) ||| (y.toInt64 &&& 4294967295)
def lvL (b o i : Nat) : List (Nat × Value) := [(0, .ref b), (1, .ref o), (2, .ref (o + 56)), (3, .int (nI i))]
section LC
variable {p : Program} {l : Launch} {e : Env} {s : State} {m : MethodId} {below : List Frame} {meth : Method} {c : Code} {H : Heap} {locs : List Loc} {cells slots : Nat} {Q : State → Prop}
variable {pc : Nat} {ls : Array Slot} {rest : List Value} {g : GG} {lay : LY} {E : ES} {b L i k o q : Nat} {xs : Nat → Int32} {sv : Nat → Option Nat}
theorem w_arg (hx : p.tables.exec = Jvm.exec) (hb : c.code = code) (hX : va_X b L xs s s.heap) (hbl : b < s.heap.size) (hbA : ¬ Ab g b) (hS : va_S (Ab g) s.heap H locs) (hl : lv_has ls 4 (lvL b o i)) (hL : L ≤ 2048) (hi : i + k < L) {kn : Int} (hk : Int32.ofInt kn = nI k) (d0 : decode code pc = .ok (.aload_n 0, 1)) (d1 : decode code (pc + 1) = .ok (.iload_n 3, 1)) (d2 : decode code (pc + 2) = .ok (.iconst kn, 1)) (d3 : decode code (pc + 3) = .ok (.iadd, 1)) (d4 : decode code (pc + 4) = .ok (.iaload, 1))
    (kk : W p l e room_1 s m #[Value.ref b] below meth c H locs cells slots Q (F0 m (pc + 5) ls (.int (xs (i + k)) :: rest))) : W p l e room_1 s m #[Value.ref b] below meth c H locs cells slots Q (F0 m pc ls rest) := by
  refine lv_aload_n hx hb d0 rfl (lv_at hl 0 rfl) ?_
  refine lv_iload_n hx hb d1 rfl (lv_at hl 3 rfl) ?_
  refine lv_iconst hx hb d2 hk ?_
  refine lv_iadd hx hb d3 ?_
  rw [nI_add]
  refine va_sld hx hb hX hbl hbA hS (nIn hi (by omega)) d4 ?_
  rw [nI_clamp (by omega)]
  exact kk
set_option maxHeartbeats 4000000 in
theorem law_setUp (hx : p.tables.exec = Jvm.exec) (hb : c.code = code) (hml : c.maxLocals = 4) (hown : s.vm.findClass RL = some m.cls) (hts : ∀ w ∈ lw_gd, w.before #[Value.ref b] s = true) (hK : KK g s) (hX : va_X b L xs s s.heap) (hbl : b < s.heap.size) (hbA : ¬ Ab g b) (hL : L ≤ 2048) (hi : i + 3 < L) (HR : RL4 g lay o sv) (HM : ML g lay (o + 56)) (hW : Wd g lay E H) (hS : va_S (Ab g) s.heap H locs) (hl : lv_has ls 4 (lvL b o i)) (hcz : cells ≤ 500000 ∧ slots ≤ 7000000) (hP : Pair l g lay o sv q E yX4_setUp wsX4_setUp rmX4_setUp [.int (xs (i + 1)), .int (xs (i + 2))] yX5_setUp wsX5_setUp rmX5_setUp [.int (xs (i + 1)), .int (xs (i + 2))])
    (kk : ∀ (E2 : ES) (H : Heap) (locs : List Loc), Wd g lay E2 H → va_S (Ab g) s.heap H locs → Inv q o sv E2 → W p l e room_1 s m #[Value.ref b] below meth c H locs cells slots Q (F0 m 671 ls [])) : W p l e room_1 s m #[Value.ref b] below meth c H locs cells slots Q (F0 m 124 ls []) := by
  obtain ⟨r, Fc, hc, hrest⟩ := hP
  refine lv_aload_n hx hb dL_law_124 rfl (lv_at hl 1 rfl) ?_
  refine w_arg (k := 1) hx hb hX hbl hbA hS hl hL (by omega) (by decide) dL_law_125 dL_law_126 dL_law_127 dL_law_128 dL_law_129 ?_
  refine w_arg (k := 2) hx hb hX hbl hbA hS hl hL (by omega) (by decide) dL_law_130 dL_law_131 dL_law_132 dL_law_133 dL_law_134 ?_
  refine w_cvi (As := [.int (xs (i + 1)), .int (xs (i + 2))]) (rest := []) hx hb hml hown hts hK hW hS hl.1 hc (k_L_13 hts ⟨(Nat.le_of_ble_eq_true rfl), (Nat.le_of_ble_eq_true rfl)⟩) (w_recv hK hW HR.1 rfl rfl rfl) rfl rfl (Nat.le_of_ble_eq_true rfl) dL_law_135 ⟨by show cells + 0 ≤ 600000; omega, by show slots + 0 ≤ 7302250; omega⟩ (fun r1 E1 H locs h1 hW hS => ?_)
  obtain ⟨e1, Fm, hm, hlast⟩ := hrest r1 E1 h1
  refine lv_aload_n hx hb dL_law_138 rfl (lv_at hl 2 rfl) ?_
  refine w_arg (k := 1) hx hb hX hbl hbA hS hl hL (by omega) (by decide) dL_law_139 dL_law_140 dL_law_141 dL_law_142 dL_law_143 ?_
  refine w_arg (k := 2) hx hb hX hbl hbA hS hl hL (by omega) (by decide) dL_law_144 dL_law_145 dL_law_146 dL_law_147 dL_law_148 ?_
  refine w_cvi (As := [.int (xs (i + 1)), .int (xs (i + 2))]) (rest := [.int r1]) hx hb hml hown hts hK hW hS hl.1 hm (k_L_17 hts ⟨(Nat.le_of_ble_eq_true rfl), (Nat.le_of_ble_eq_true rfl)⟩) (w_recv hK hW HM.1 rfl rfl rfl) rfl rfl (Nat.le_of_ble_eq_true rfl) dL_law_149 ⟨by show cells + 0 ≤ 600000; omega, by show slots + 0 ≤ 7302250; omega⟩ (fun r2 E2 H locs h2 hW hS => ?_)
  obtain ⟨e2, hI⟩ := hlast r2 E2 h2
  exact lv_icmp_eq (tgt := 671) hx hb dL_law_152 (by decide) (fun _ => kk E2 H locs hW hS hI) (fun z => absurd (e1.trans e2.symm) z)
set_option maxHeartbeats 4000000 in
theorem law_set (hx : p.tables.exec = Jvm.exec) (hb : c.code = code) (hml : c.maxLocals = 4) (hown : s.vm.findClass RL = some m.cls) (hts : ∀ w ∈ lw_gd, w.before #[Value.ref b] s = true) (hK : KK g s) (hX : va_X b L xs s s.heap) (hbl : b < s.heap.size) (hbA : ¬ Ab g b) (hL : L ≤ 2048) (hi : i + 3 < L) (HR : RL4 g lay o sv) (HM : ML g lay (o + 56)) (hW : Wd g lay E H) (hS : va_S (Ab g) s.heap H locs) (hl : lv_has ls 4 (lvL b o i)) (hcz : cells ≤ 500000 ∧ slots ≤ 7000000) (hP : Pair l g lay o sv q E yX4_set wsX4_set rmX4_set [.int (xs (i + 1)), .int (xs (i + 2))] yX5_set wsX5_set rmX5_set [.int (xs (i + 1)), .int (xs (i + 2))])
    (kk : ∀ (E2 : ES) (H : Heap) (locs : List Loc), Wd g lay E2 H → va_S (Ab g) s.heap H locs → Inv q o sv E2 → W p l e room_1 s m #[Value.ref b] below meth c H locs cells slots Q (F0 m 671 ls [])) : W p l e room_1 s m #[Value.ref b] below meth c H locs cells slots Q (F0 m 157 ls []) := by
  obtain ⟨r, Fc, hc, hrest⟩ := hP
  refine lv_aload_n hx hb dL_law_157 rfl (lv_at hl 1 rfl) ?_
  refine w_arg (k := 1) hx hb hX hbl hbA hS hl hL (by omega) (by decide) dL_law_158 dL_law_159 dL_law_160 dL_law_161 dL_law_162 ?_
  refine w_arg (k := 2) hx hb hX hbl hbA hS hl hL (by omega) (by decide) dL_law_163 dL_law_164 dL_law_165 dL_law_166 dL_law_167 ?_
  refine w_cvi (As := [.int (xs (i + 1)), .int (xs (i + 2))]) (rest := []) hx hb hml hown hts hK hW hS hl.1 hc (k_L_18 hts ⟨(Nat.le_of_ble_eq_true rfl), (Nat.le_of_ble_eq_true rfl)⟩) (w_recv hK hW HR.1 rfl rfl rfl) rfl rfl (Nat.le_of_ble_eq_true rfl) dL_law_168 ⟨by show cells + 0 ≤ 600000; omega, by show slots + 0 ≤ 7302250; omega⟩ (fun r1 E1 H locs h1 hW hS => ?_)
  obtain ⟨e1, Fm, hm, hlast⟩ := hrest r1 E1 h1
  refine lv_aload_n hx hb dL_law_171 rfl (lv_at hl 2 rfl) ?_
  refine w_arg (k := 1) hx hb hX hbl hbA hS hl hL (by omega) (by decide) dL_law_172 dL_law_173 dL_law_174 dL_law_175 dL_law_176 ?_
  refine w_arg (k := 2) hx hb hX hbl hbA hS hl hL (by omega) (by decide) dL_law_177 dL_law_178 dL_law_179 dL_law_180 dL_law_181 ?_
  refine w_cvi (As := [.int (xs (i + 1)), .int (xs (i + 2))]) (rest := [.int r1]) hx hb hml hown hts hK hW hS hl.1 hm (k_L_21 hts ⟨(Nat.le_of_ble_eq_true rfl), (Nat.le_of_ble_eq_true rfl)⟩) (w_recv hK hW HM.1 rfl rfl rfl) rfl rfl (Nat.le_of_ble_eq_true rfl) dL_law_182 ⟨by show cells + 0 ≤ 600000; omega, by show slots + 0 ≤ 7302250; omega⟩ (fun r2 E2 H locs h2 hW hS => ?_)
  obtain ⟨e2, hI⟩ := hlast r2 E2 h2
  exact lv_icmp_eq (tgt := 671) hx hb dL_law_185 (by decide) (fun _ => kk E2 H locs hW hS hI) (fun z => absurd (e1.trans e2.symm) z)
set_option maxHeartbeats 4000000 in
theorem law_lift (hx : p.tables.exec = Jvm.exec) (hb : c.code = code) (hml : c.maxLocals = 4) (hown : s.vm.findClass RL = some m.cls) (hts : ∀ w ∈ lw_gd, w.before #[Value.ref b] s = true) (hK : KK g s) (hX : va_X b L xs s s.heap) (hbl : b < s.heap.size) (hbA : ¬ Ab g b) (hL : L ≤ 2048) (hi : i + 3 < L) (HR : RL4 g lay o sv) (HM : ML g lay (o + 56)) (hW : Wd g lay E H) (hS : va_S (Ab g) s.heap H locs) (hl : lv_has ls 4 (lvL b o i)) (hcz : cells ≤ 500000 ∧ slots ≤ 7000000) (hP : Pair l g lay o sv q E yX4_lift wsX4_lift rmX4_lift [.int (xs (i + 1))] yX5_lift wsX5_lift rmX5_lift [.int (xs (i + 1))])
    (kk : ∀ (E2 : ES) (H : Heap) (locs : List Loc), Wd g lay E2 H → va_S (Ab g) s.heap H locs → Inv q o sv E2 → W p l e room_1 s m #[Value.ref b] below meth c H locs cells slots Q (F0 m 671 ls [])) : W p l e room_1 s m #[Value.ref b] below meth c H locs cells slots Q (F0 m 190 ls []) := by
  obtain ⟨r, Fc, hc, hrest⟩ := hP
  refine lv_aload_n hx hb dL_law_190 rfl (lv_at hl 1 rfl) ?_
  refine w_arg (k := 1) hx hb hX hbl hbA hS hl hL (by omega) (by decide) dL_law_191 dL_law_192 dL_law_193 dL_law_194 dL_law_195 ?_
  refine w_cvi (As := [.int (xs (i + 1))]) (rest := []) hx hb hml hown hts hK hW hS hl.1 hc (k_L_22 hts ⟨(Nat.le_of_ble_eq_true rfl), (Nat.le_of_ble_eq_true rfl)⟩) (w_recv hK hW HR.1 rfl rfl rfl) rfl rfl (Nat.le_of_ble_eq_true rfl) dL_law_196 ⟨by show cells + 0 ≤ 600000; omega, by show slots + 0 ≤ 7302250; omega⟩ (fun r1 E1 H locs h1 hW hS => ?_)
  obtain ⟨e1, Fm, hm, hlast⟩ := hrest r1 E1 h1
  refine lv_aload_n hx hb dL_law_199 rfl (lv_at hl 2 rfl) ?_
  refine w_arg (k := 1) hx hb hX hbl hbA hS hl hL (by omega) (by decide) dL_law_200 dL_law_201 dL_law_202 dL_law_203 dL_law_204 ?_
  refine w_cvi (As := [.int (xs (i + 1))]) (rest := [.int r1]) hx hb hml hown hts hK hW hS hl.1 hm (k_L_26 hts ⟨(Nat.le_of_ble_eq_true rfl), (Nat.le_of_ble_eq_true rfl)⟩) (w_recv hK hW HM.1 rfl rfl rfl) rfl rfl (Nat.le_of_ble_eq_true rfl) dL_law_205 ⟨by show cells + 0 ≤ 600000; omega, by show slots + 0 ≤ 7302250; omega⟩ (fun r2 E2 H locs h2 hW hS => ?_)
  obtain ⟨e2, hI⟩ := hlast r2 E2 h2
  exact lv_icmp_eq (tgt := 671) hx hb dL_law_208 (by decide) (fun _ => kk E2 H locs hW hS hI) (fun z => absurd (e1.trans e2.symm) z)
set_option maxHeartbeats 4000000 in
theorem law_hang (hx : p.tables.exec = Jvm.exec) (hb : c.code = code) (hml : c.maxLocals = 4) (hown : s.vm.findClass RL = some m.cls) (hts : ∀ w ∈ lw_gd, w.before #[Value.ref b] s = true) (hK : KK g s) (hX : va_X b L xs s s.heap) (hbl : b < s.heap.size) (hbA : ¬ Ab g b) (hL : L ≤ 2048) (hi : i + 3 < L) (HR : RL4 g lay o sv) (HM : ML g lay (o + 56)) (hW : Wd g lay E H) (hS : va_S (Ab g) s.heap H locs) (hl : lv_has ls 4 (lvL b o i)) (hcz : cells ≤ 500000 ∧ slots ≤ 7000000) (hP : Pair l g lay o sv q E yX4_hang wsX4_hang rmX4_hang [.int (xs (i + 1))] yX5_hang wsX5_hang rmX5_hang [.int (xs (i + 1))])
    (kk : ∀ (E2 : ES) (H : Heap) (locs : List Loc), Wd g lay E2 H → va_S (Ab g) s.heap H locs → Inv q o sv E2 → W p l e room_1 s m #[Value.ref b] below meth c H locs cells slots Q (F0 m 671 ls [])) : W p l e room_1 s m #[Value.ref b] below meth c H locs cells slots Q (F0 m 213 ls []) := by
  obtain ⟨r, Fc, hc, hrest⟩ := hP
  refine lv_aload_n hx hb dL_law_213 rfl (lv_at hl 1 rfl) ?_
  refine w_arg (k := 1) hx hb hX hbl hbA hS hl hL (by omega) (by decide) dL_law_214 dL_law_215 dL_law_216 dL_law_217 dL_law_218 ?_
  refine w_cvi (As := [.int (xs (i + 1))]) (rest := []) hx hb hml hown hts hK hW hS hl.1 hc (k_L_27 hts ⟨(Nat.le_of_ble_eq_true rfl), (Nat.le_of_ble_eq_true rfl)⟩) (w_recv hK hW HR.1 rfl rfl rfl) rfl rfl (Nat.le_of_ble_eq_true rfl) dL_law_219 ⟨by show cells + 0 ≤ 600000; omega, by show slots + 0 ≤ 7302250; omega⟩ (fun r1 E1 H locs h1 hW hS => ?_)
  obtain ⟨e1, Fm, hm, hlast⟩ := hrest r1 E1 h1
  refine lv_aload_n hx hb dL_law_222 rfl (lv_at hl 2 rfl) ?_
  refine w_arg (k := 1) hx hb hX hbl hbA hS hl hL (by omega) (by decide) dL_law_223 dL_law_224 dL_law_225 dL_law_226 dL_law_227 ?_
  refine w_cvi (As := [.int (xs (i + 1))]) (rest := [.int r1]) hx hb hml hown hts hK hW hS hl.1 hm (k_L_30 hts ⟨(Nat.le_of_ble_eq_true rfl), (Nat.le_of_ble_eq_true rfl)⟩) (w_recv hK hW HM.1 rfl rfl rfl) rfl rfl (Nat.le_of_ble_eq_true rfl) dL_law_228 ⟨by show cells + 0 ≤ 600000; omega, by show slots + 0 ≤ 7302250; omega⟩ (fun r2 E2 H locs h2 hW hS => ?_)
  obtain ⟨e2, hI⟩ := hlast r2 E2 h2
  exact lv_icmp_eq (tgt := 671) hx hb dL_law_231 (by decide) (fun _ => kk E2 H locs hW hS hI) (fun z => absurd (e1.trans e2.symm) z)
set_option maxHeartbeats 4000000 in
theorem law_dial (hx : p.tables.exec = Jvm.exec) (hb : c.code = code) (hml : c.maxLocals = 4) (hown : s.vm.findClass RL = some m.cls) (hts : ∀ w ∈ lw_gd, w.before #[Value.ref b] s = true) (hK : KK g s) (hX : va_X b L xs s s.heap) (hbl : b < s.heap.size) (hbA : ¬ Ab g b) (hL : L ≤ 2048) (hi : i + 3 < L) (HR : RL4 g lay o sv) (HM : ML g lay (o + 56)) (hW : Wd g lay E H) (hS : va_S (Ab g) s.heap H locs) (hl : lv_has ls 4 (lvL b o i)) (hcz : cells ≤ 500000 ∧ slots ≤ 7000000) (hP : Pair l g lay o sv q E yX4_dial wsX4_dial rmX4_dial [.int (xs (i + 1)), .int (xs (i + 2))] yX5_dial wsX5_dial rmX5_dial [.int (xs (i + 1)), .int (xs (i + 2))])
    (kk : ∀ (E2 : ES) (H : Heap) (locs : List Loc), Wd g lay E2 H → va_S (Ab g) s.heap H locs → Inv q o sv E2 → W p l e room_1 s m #[Value.ref b] below meth c H locs cells slots Q (F0 m 671 ls [])) : W p l e room_1 s m #[Value.ref b] below meth c H locs cells slots Q (F0 m 236 ls []) := by
  obtain ⟨r, Fc, hc, hrest⟩ := hP
  refine lv_aload_n hx hb dL_law_236 rfl (lv_at hl 1 rfl) ?_
  refine w_arg (k := 1) hx hb hX hbl hbA hS hl hL (by omega) (by decide) dL_law_237 dL_law_238 dL_law_239 dL_law_240 dL_law_241 ?_
  refine w_arg (k := 2) hx hb hX hbl hbA hS hl hL (by omega) (by decide) dL_law_242 dL_law_243 dL_law_244 dL_law_245 dL_law_246 ?_
  refine w_cvi (As := [.int (xs (i + 1)), .int (xs (i + 2))]) (rest := []) hx hb hml hown hts hK hW hS hl.1 hc (k_L_31 hts ⟨(Nat.le_of_ble_eq_true rfl), (Nat.le_of_ble_eq_true rfl)⟩) (w_recv hK hW HR.1 rfl rfl rfl) rfl rfl (Nat.le_of_ble_eq_true rfl) dL_law_247 ⟨by show cells + 0 ≤ 600000; omega, by show slots + 0 ≤ 7302250; omega⟩ (fun r1 E1 H locs h1 hW hS => ?_)
  obtain ⟨e1, Fm, hm, hlast⟩ := hrest r1 E1 h1
  refine lv_aload_n hx hb dL_law_250 rfl (lv_at hl 2 rfl) ?_
  refine w_arg (k := 1) hx hb hX hbl hbA hS hl hL (by omega) (by decide) dL_law_251 dL_law_252 dL_law_253 dL_law_254 dL_law_255 ?_
  refine w_arg (k := 2) hx hb hX hbl hbA hS hl hL (by omega) (by decide) dL_law_256 dL_law_257 dL_law_258 dL_law_259 dL_law_260 ?_
  refine w_cvi (As := [.int (xs (i + 1)), .int (xs (i + 2))]) (rest := [.int r1]) hx hb hml hown hts hK hW hS hl.1 hm (k_L_34 hts ⟨(Nat.le_of_ble_eq_true rfl), (Nat.le_of_ble_eq_true rfl)⟩) (w_recv hK hW HM.1 rfl rfl rfl) rfl rfl (Nat.le_of_ble_eq_true rfl) dL_law_261 ⟨by show cells + 0 ≤ 600000; omega, by show slots + 0 ≤ 7302250; omega⟩ (fun r2 E2 H locs h2 hW hS => ?_)
  obtain ⟨e2, hI⟩ := hlast r2 E2 h2
  exact lv_icmp_eq (tgt := 671) hx hb dL_law_264 (by decide) (fun _ => kk E2 H locs hW hS hI) (fun z => absurd (e1.trans e2.symm) z)
set_option maxHeartbeats 4000000 in
theorem law_tick (hx : p.tables.exec = Jvm.exec) (hb : c.code = code) (hml : c.maxLocals = 4) (hown : s.vm.findClass RL = some m.cls) (hts : ∀ w ∈ lw_gd, w.before #[Value.ref b] s = true) (hK : KK g s) (hX : va_X b L xs s s.heap) (hbl : b < s.heap.size) (hbA : ¬ Ab g b) (hL : L ≤ 2048) (hi : i + 3 < L) (HR : RL4 g lay o sv) (HM : ML g lay (o + 56)) (hW : Wd g lay E H) (hS : va_S (Ab g) s.heap H locs) (hl : lv_has ls 4 (lvL b o i)) (hcz : cells ≤ 500000 ∧ slots ≤ 7000000) (hP : Pair l g lay o sv q E yX4_tick wsX4_tick rmX4_tick [.int (xs (i + 1))] yX5_tick wsX5_tick rmX5_tick [.int (xs (i + 1))])
    (kk : ∀ (E2 : ES) (H : Heap) (locs : List Loc), Wd g lay E2 H → va_S (Ab g) s.heap H locs → Inv q o sv E2 → W p l e room_1 s m #[Value.ref b] below meth c H locs cells slots Q (F0 m 671 ls [])) : W p l e room_1 s m #[Value.ref b] below meth c H locs cells slots Q (F0 m 269 ls []) := by
  obtain ⟨r, Fc, hc, hrest⟩ := hP
  refine lv_aload_n hx hb dL_law_269 rfl (lv_at hl 1 rfl) ?_
  refine w_arg (k := 1) hx hb hX hbl hbA hS hl hL (by omega) (by decide) dL_law_270 dL_law_271 dL_law_272 dL_law_273 dL_law_274 ?_
  refine w_cvi (As := [.int (xs (i + 1))]) (rest := []) hx hb hml hown hts hK hW hS hl.1 hc (k_L_35 hts ⟨(Nat.le_of_ble_eq_true rfl), (Nat.le_of_ble_eq_true rfl)⟩) (w_recv hK hW HR.1 rfl rfl rfl) rfl rfl (Nat.le_of_ble_eq_true rfl) dL_law_275 ⟨by show cells + 0 ≤ 600000; omega, by show slots + 0 ≤ 7302250; omega⟩ (fun r1 E1 H locs h1 hW hS => ?_)
  obtain ⟨e1, Fm, hm, hlast⟩ := hrest r1 E1 h1
  refine lv_aload_n hx hb dL_law_278 rfl (lv_at hl 2 rfl) ?_
  refine w_arg (k := 1) hx hb hX hbl hbA hS hl hL (by omega) (by decide) dL_law_279 dL_law_280 dL_law_281 dL_law_282 dL_law_283 ?_
  refine w_cvi (As := [.int (xs (i + 1))]) (rest := [.int r1]) hx hb hml hown hts hK hW hS hl.1 hm (k_L_38 hts ⟨(Nat.le_of_ble_eq_true rfl), (Nat.le_of_ble_eq_true rfl)⟩) (w_recv hK hW HM.1 rfl rfl rfl) rfl rfl (Nat.le_of_ble_eq_true rfl) dL_law_284 ⟨by show cells + 0 ≤ 600000; omega, by show slots + 0 ≤ 7302250; omega⟩ (fun r2 E2 H locs h2 hW hS => ?_)
  obtain ⟨e2, hI⟩ := hlast r2 E2 h2
  exact lv_icmp_eq (tgt := 671) hx hb dL_law_287 (by decide) (fun _ => kk E2 H locs hW hS hI) (fun z => absurd (e1.trans e2.symm) z)
set_option maxHeartbeats 4000000 in
theorem law_line (hx : p.tables.exec = Jvm.exec) (hb : c.code = code) (hml : c.maxLocals = 4) (hown : s.vm.findClass RL = some m.cls) (hts : ∀ w ∈ lw_gd, w.before #[Value.ref b] s = true) (hK : KK g s) (hX : va_X b L xs s s.heap) (hbl : b < s.heap.size) (hbA : ¬ Ab g b) (hL : L ≤ 2048) (hi : i + 3 < L) (HR : RL4 g lay o sv) (HM : ML g lay (o + 56)) (hW : Wd g lay E H) (hS : va_S (Ab g) s.heap H locs) (hl : lv_has ls 4 (lvL b o i)) (hcz : cells ≤ 500000 ∧ slots ≤ 7000000) (hP : Pair l g lay o sv q E yX4_line wsX4_line rmX4_line [.int (xs (i + 1)), .int (xs (i + 2))] yX5_line wsX5_line rmX5_line [.int (xs (i + 1)), .int (xs (i + 2))])
    (kk : ∀ (E2 : ES) (H : Heap) (locs : List Loc), Wd g lay E2 H → va_S (Ab g) s.heap H locs → Inv q o sv E2 → W p l e room_1 s m #[Value.ref b] below meth c H locs cells slots Q (F0 m 671 ls [])) : W p l e room_1 s m #[Value.ref b] below meth c H locs cells slots Q (F0 m 292 ls []) := by
  obtain ⟨r, Fc, hc, hrest⟩ := hP
  refine lv_aload_n hx hb dL_law_292 rfl (lv_at hl 1 rfl) ?_
  refine w_arg (k := 1) hx hb hX hbl hbA hS hl hL (by omega) (by decide) dL_law_293 dL_law_294 dL_law_295 dL_law_296 dL_law_297 ?_
  refine w_arg (k := 2) hx hb hX hbl hbA hS hl hL (by omega) (by decide) dL_law_298 dL_law_299 dL_law_300 dL_law_301 dL_law_302 ?_
  refine w_cvi (As := [.int (xs (i + 1)), .int (xs (i + 2))]) (rest := []) hx hb hml hown hts hK hW hS hl.1 hc (k_L_39 hts ⟨(Nat.le_of_ble_eq_true rfl), (Nat.le_of_ble_eq_true rfl)⟩) (w_recv hK hW HR.1 rfl rfl rfl) rfl rfl (Nat.le_of_ble_eq_true rfl) dL_law_303 ⟨by show cells + 0 ≤ 600000; omega, by show slots + 0 ≤ 7302250; omega⟩ (fun r1 E1 H locs h1 hW hS => ?_)
  obtain ⟨e1, Fm, hm, hlast⟩ := hrest r1 E1 h1
  refine lv_aload_n hx hb dL_law_306 rfl (lv_at hl 2 rfl) ?_
  refine w_arg (k := 1) hx hb hX hbl hbA hS hl hL (by omega) (by decide) dL_law_307 dL_law_308 dL_law_309 dL_law_310 dL_law_311 ?_
  refine w_arg (k := 2) hx hb hX hbl hbA hS hl hL (by omega) (by decide) dL_law_312 dL_law_313 dL_law_314 dL_law_315 dL_law_316 ?_
  refine w_cvi (As := [.int (xs (i + 1)), .int (xs (i + 2))]) (rest := [.int r1]) hx hb hml hown hts hK hW hS hl.1 hm (k_L_42 hts ⟨(Nat.le_of_ble_eq_true rfl), (Nat.le_of_ble_eq_true rfl)⟩) (w_recv hK hW HM.1 rfl rfl rfl) rfl rfl (Nat.le_of_ble_eq_true rfl) dL_law_317 ⟨by show cells + 0 ≤ 600000; omega, by show slots + 0 ≤ 7302250; omega⟩ (fun r2 E2 H locs h2 hW hS => ?_)
  obtain ⟨e2, hI⟩ := hlast r2 E2 h2
  exact lv_icmp_eq (tgt := 671) hx hb dL_law_320 (by decide) (fun _ => kk E2 H locs hW hS hI) (fun z => absurd (e1.trans e2.symm) z)
set_option maxHeartbeats 4000000 in
theorem law_finder (hx : p.tables.exec = Jvm.exec) (hb : c.code = code) (hml : c.maxLocals = 4) (hown : s.vm.findClass RL = some m.cls) (hts : ∀ w ∈ lw_gd, w.before #[Value.ref b] s = true) (hK : KK g s) (hX : va_X b L xs s s.heap) (hbl : b < s.heap.size) (hbA : ¬ Ab g b) (hL : L ≤ 2048) (hi : i + 3 < L) (HR : RL4 g lay o sv) (HM : ML g lay (o + 56)) (hW : Wd g lay E H) (hS : va_S (Ab g) s.heap H locs) (hl : lv_has ls 4 (lvL b o i)) (hcz : cells ≤ 500000 ∧ slots ≤ 7000000) (hP : Pair l g lay o sv q E yX4_finder wsX4_finder rmX4_finder [.int (xs (i + 1)), .int (xs (i + 2))] yX5_finder wsX5_finder rmX5_finder [.int (xs (i + 1)), .int (xs (i + 2))])
    (kk : ∀ (E2 : ES) (H : Heap) (locs : List Loc), Wd g lay E2 H → va_S (Ab g) s.heap H locs → Inv q o sv E2 → W p l e room_1 s m #[Value.ref b] below meth c H locs cells slots Q (F0 m 671 ls [])) : W p l e room_1 s m #[Value.ref b] below meth c H locs cells slots Q (F0 m 325 ls []) := by
  obtain ⟨r, Fc, hc, hrest⟩ := hP
  refine lv_aload_n hx hb dL_law_325 rfl (lv_at hl 1 rfl) ?_
  refine w_arg (k := 1) hx hb hX hbl hbA hS hl hL (by omega) (by decide) dL_law_326 dL_law_327 dL_law_328 dL_law_329 dL_law_330 ?_
  refine w_arg (k := 2) hx hb hX hbl hbA hS hl hL (by omega) (by decide) dL_law_331 dL_law_332 dL_law_333 dL_law_334 dL_law_335 ?_
  refine w_cvi (As := [.int (xs (i + 1)), .int (xs (i + 2))]) (rest := []) hx hb hml hown hts hK hW hS hl.1 hc (k_L_43 hts ⟨(Nat.le_of_ble_eq_true rfl), (Nat.le_of_ble_eq_true rfl)⟩) (w_recv hK hW HR.1 rfl rfl rfl) rfl rfl (Nat.le_of_ble_eq_true rfl) dL_law_336 ⟨by show cells + 0 ≤ 600000; omega, by show slots + 0 ≤ 7302250; omega⟩ (fun r1 E1 H locs h1 hW hS => ?_)
  obtain ⟨e1, Fm, hm, hlast⟩ := hrest r1 E1 h1
  refine lv_aload_n hx hb dL_law_339 rfl (lv_at hl 2 rfl) ?_
  refine w_arg (k := 1) hx hb hX hbl hbA hS hl hL (by omega) (by decide) dL_law_340 dL_law_341 dL_law_342 dL_law_343 dL_law_344 ?_
  refine w_arg (k := 2) hx hb hX hbl hbA hS hl hL (by omega) (by decide) dL_law_345 dL_law_346 dL_law_347 dL_law_348 dL_law_349 ?_
  refine w_cvi (As := [.int (xs (i + 1)), .int (xs (i + 2))]) (rest := [.int r1]) hx hb hml hown hts hK hW hS hl.1 hm (k_L_46 hts ⟨(Nat.le_of_ble_eq_true rfl), (Nat.le_of_ble_eq_true rfl)⟩) (w_recv hK hW HM.1 rfl rfl rfl) rfl rfl (Nat.le_of_ble_eq_true rfl) dL_law_350 ⟨by show cells + 0 ≤ 600000; omega, by show slots + 0 ≤ 7302250; omega⟩ (fun r2 E2 H locs h2 hW hS => ?_)
  obtain ⟨e2, hI⟩ := hlast r2 E2 h2
  exact lv_icmp_eq (tgt := 671) hx hb dL_law_353 (by decide) (fun _ => kk E2 H locs hW hS hI) (fun z => absurd (e1.trans e2.symm) z)
set_option maxHeartbeats 4000000 in
theorem law_connector (hx : p.tables.exec = Jvm.exec) (hb : c.code = code) (hml : c.maxLocals = 4) (hown : s.vm.findClass RL = some m.cls) (hts : ∀ w ∈ lw_gd, w.before #[Value.ref b] s = true) (hK : KK g s) (hX : va_X b L xs s s.heap) (hbl : b < s.heap.size) (hbA : ¬ Ab g b) (hL : L ≤ 2048) (hi : i + 3 < L) (HR : RL4 g lay o sv) (HM : ML g lay (o + 56)) (hW : Wd g lay E H) (hS : va_S (Ab g) s.heap H locs) (hl : lv_has ls 4 (lvL b o i)) (hcz : cells ≤ 500000 ∧ slots ≤ 7000000) (hP : Pair l g lay o sv q E yX4_connector wsX4_connector rmX4_connector [.int (xs (i + 1)), .int (xs (i + 2))] yX5_connector wsX5_connector rmX5_connector [.int (xs (i + 1)), .int (xs (i + 2))])
    (kk : ∀ (E2 : ES) (H : Heap) (locs : List Loc), Wd g lay E2 H → va_S (Ab g) s.heap H locs → Inv q o sv E2 → W p l e room_1 s m #[Value.ref b] below meth c H locs cells slots Q (F0 m 671 ls [])) : W p l e room_1 s m #[Value.ref b] below meth c H locs cells slots Q (F0 m 358 ls []) := by
  obtain ⟨r, Fc, hc, hrest⟩ := hP
  refine lv_aload_n hx hb dL_law_358 rfl (lv_at hl 1 rfl) ?_
  refine w_arg (k := 1) hx hb hX hbl hbA hS hl hL (by omega) (by decide) dL_law_359 dL_law_360 dL_law_361 dL_law_362 dL_law_363 ?_
  refine w_arg (k := 2) hx hb hX hbl hbA hS hl hL (by omega) (by decide) dL_law_364 dL_law_365 dL_law_366 dL_law_367 dL_law_368 ?_
  refine w_cvi (As := [.int (xs (i + 1)), .int (xs (i + 2))]) (rest := []) hx hb hml hown hts hK hW hS hl.1 hc (k_L_47 hts ⟨(Nat.le_of_ble_eq_true rfl), (Nat.le_of_ble_eq_true rfl)⟩) (w_recv hK hW HR.1 rfl rfl rfl) rfl rfl (Nat.le_of_ble_eq_true rfl) dL_law_369 ⟨by show cells + 0 ≤ 600000; omega, by show slots + 0 ≤ 7302250; omega⟩ (fun r1 E1 H locs h1 hW hS => ?_)
  obtain ⟨e1, Fm, hm, hlast⟩ := hrest r1 E1 h1
  refine lv_aload_n hx hb dL_law_372 rfl (lv_at hl 2 rfl) ?_
  refine w_arg (k := 1) hx hb hX hbl hbA hS hl hL (by omega) (by decide) dL_law_373 dL_law_374 dL_law_375 dL_law_376 dL_law_377 ?_
  refine w_arg (k := 2) hx hb hX hbl hbA hS hl hL (by omega) (by decide) dL_law_378 dL_law_379 dL_law_380 dL_law_381 dL_law_382 ?_
  refine w_cvi (As := [.int (xs (i + 1)), .int (xs (i + 2))]) (rest := [.int r1]) hx hb hml hown hts hK hW hS hl.1 hm (k_L_50 hts ⟨(Nat.le_of_ble_eq_true rfl), (Nat.le_of_ble_eq_true rfl)⟩) (w_recv hK hW HM.1 rfl rfl rfl) rfl rfl (Nat.le_of_ble_eq_true rfl) dL_law_383 ⟨by show cells + 0 ≤ 600000; omega, by show slots + 0 ≤ 7302250; omega⟩ (fun r2 E2 H locs h2 hW hS => ?_)
  obtain ⟨e2, hI⟩ := hlast r2 E2 h2
  exact lv_icmp_eq (tgt := 671) hx hb dL_law_386 (by decide) (fun _ => kk E2 H locs hW hS hI) (fun z => absurd (e1.trans e2.symm) z)
set_option maxHeartbeats 4000000 in
theorem law_count (hx : p.tables.exec = Jvm.exec) (hb : c.code = code) (hml : c.maxLocals = 4) (hown : s.vm.findClass RL = some m.cls) (hts : ∀ w ∈ lw_gd, w.before #[Value.ref b] s = true) (hK : KK g s) (hX : va_X b L xs s s.heap) (hbl : b < s.heap.size) (hbA : ¬ Ab g b) (hL : L ≤ 2048) (hi : i + 3 < L) (HR : RL4 g lay o sv) (HM : ML g lay (o + 56)) (hW : Wd g lay E H) (hS : va_S (Ab g) s.heap H locs) (hl : lv_has ls 4 (lvL b o i)) (hcz : cells ≤ 500000 ∧ slots ≤ 7000000) (hP : Pair l g lay o sv q E yX4_count wsX4_count rmX4_count [.int (xs (i + 1))] yX5_count wsX5_count rmX5_count [.int (xs (i + 1))])
    (kk : ∀ (E2 : ES) (H : Heap) (locs : List Loc), Wd g lay E2 H → va_S (Ab g) s.heap H locs → Inv q o sv E2 → W p l e room_1 s m #[Value.ref b] below meth c H locs cells slots Q (F0 m 671 ls [])) : W p l e room_1 s m #[Value.ref b] below meth c H locs cells slots Q (F0 m 391 ls []) := by
  obtain ⟨r, Fc, hc, hrest⟩ := hP
  refine lv_aload_n hx hb dL_law_391 rfl (lv_at hl 1 rfl) ?_
  refine w_arg (k := 1) hx hb hX hbl hbA hS hl hL (by omega) (by decide) dL_law_392 dL_law_393 dL_law_394 dL_law_395 dL_law_396 ?_
  refine w_cvi (As := [.int (xs (i + 1))]) (rest := []) hx hb hml hown hts hK hW hS hl.1 hc (k_L_51 hts ⟨(Nat.le_of_ble_eq_true rfl), (Nat.le_of_ble_eq_true rfl)⟩) (w_recv hK hW HR.1 rfl rfl rfl) rfl rfl (Nat.le_of_ble_eq_true rfl) dL_law_397 ⟨by show cells + 0 ≤ 600000; omega, by show slots + 0 ≤ 7302250; omega⟩ (fun r1 E1 H locs h1 hW hS => ?_)
  obtain ⟨e1, Fm, hm, hlast⟩ := hrest r1 E1 h1
  refine lv_aload_n hx hb dL_law_400 rfl (lv_at hl 2 rfl) ?_
  refine w_arg (k := 1) hx hb hX hbl hbA hS hl hL (by omega) (by decide) dL_law_401 dL_law_402 dL_law_403 dL_law_404 dL_law_405 ?_
  refine w_cvi (As := [.int (xs (i + 1))]) (rest := [.int r1]) hx hb hml hown hts hK hW hS hl.1 hm (k_L_54 hts ⟨(Nat.le_of_ble_eq_true rfl), (Nat.le_of_ble_eq_true rfl)⟩) (w_recv hK hW HM.1 rfl rfl rfl) rfl rfl (Nat.le_of_ble_eq_true rfl) dL_law_406 ⟨by show cells + 0 ≤ 600000; omega, by show slots + 0 ≤ 7302250; omega⟩ (fun r2 E2 H locs h2 hW hS => ?_)
  obtain ⟨e2, hI⟩ := hlast r2 E2 h2
  exact lv_icmp_eq (tgt := 671) hx hb dL_law_409 (by decide) (fun _ => kk E2 H locs hW hS hI) (fun z => absurd (e1.trans e2.symm) z)
set_option maxHeartbeats 4000000 in
theorem law_trace (hx : p.tables.exec = Jvm.exec) (hb : c.code = code) (hml : c.maxLocals = 4) (hown : s.vm.findClass RL = some m.cls) (hts : ∀ w ∈ lw_gd, w.before #[Value.ref b] s = true) (hK : KK g s) (hX : va_X b L xs s s.heap) (hbl : b < s.heap.size) (hbA : ¬ Ab g b) (hL : L ≤ 2048) (hi : i + 3 < L) (HR : RL4 g lay o sv) (HM : ML g lay (o + 56)) (hW : Wd g lay E H) (hS : va_S (Ab g) s.heap H locs) (hl : lv_has ls 4 (lvL b o i)) (hcz : cells ≤ 500000 ∧ slots ≤ 7000000) (hP : Pair l g lay o sv q E yX4_trace wsX4_trace rmX4_trace [.int (xs (i + 1)), .int (xs (i + 2))] yX5_trace wsX5_trace rmX5_trace [.int (xs (i + 1)), .int (xs (i + 2))])
    (kk : ∀ (E2 : ES) (H : Heap) (locs : List Loc), Wd g lay E2 H → va_S (Ab g) s.heap H locs → Inv q o sv E2 → W p l e room_1 s m #[Value.ref b] below meth c H locs cells slots Q (F0 m 671 ls [])) : W p l e room_1 s m #[Value.ref b] below meth c H locs cells slots Q (F0 m 414 ls []) := by
  obtain ⟨r, Fc, hc, hrest⟩ := hP
  refine lv_aload_n hx hb dL_law_414 rfl (lv_at hl 1 rfl) ?_
  refine w_arg (k := 1) hx hb hX hbl hbA hS hl hL (by omega) (by decide) dL_law_415 dL_law_416 dL_law_417 dL_law_418 dL_law_419 ?_
  refine w_arg (k := 2) hx hb hX hbl hbA hS hl hL (by omega) (by decide) dL_law_420 dL_law_421 dL_law_422 dL_law_423 dL_law_424 ?_
  refine w_cvi (As := [.int (xs (i + 1)), .int (xs (i + 2))]) (rest := []) hx hb hml hown hts hK hW hS hl.1 hc (k_L_55 hts ⟨(Nat.le_of_ble_eq_true rfl), (Nat.le_of_ble_eq_true rfl)⟩) (w_recv hK hW HR.1 rfl rfl rfl) rfl rfl (Nat.le_of_ble_eq_true rfl) dL_law_425 ⟨by show cells + 0 ≤ 600000; omega, by show slots + 0 ≤ 7302250; omega⟩ (fun r1 E1 H locs h1 hW hS => ?_)
  obtain ⟨e1, Fm, hm, hlast⟩ := hrest r1 E1 h1
  refine lv_aload_n hx hb dL_law_428 rfl (lv_at hl 2 rfl) ?_
  refine w_arg (k := 1) hx hb hX hbl hbA hS hl hL (by omega) (by decide) dL_law_429 dL_law_430 dL_law_431 dL_law_432 dL_law_433 ?_
  refine w_arg (k := 2) hx hb hX hbl hbA hS hl hL (by omega) (by decide) dL_law_434 dL_law_435 dL_law_436 dL_law_437 dL_law_438 ?_
  refine w_cvi (As := [.int (xs (i + 1)), .int (xs (i + 2))]) (rest := [.int r1]) hx hb hml hown hts hK hW hS hl.1 hm (k_L_58 hts ⟨(Nat.le_of_ble_eq_true rfl), (Nat.le_of_ble_eq_true rfl)⟩) (w_recv hK hW HM.1 rfl rfl rfl) rfl rfl (Nat.le_of_ble_eq_true rfl) dL_law_439 ⟨by show cells + 0 ≤ 600000; omega, by show slots + 0 ≤ 7302250; omega⟩ (fun r2 E2 H locs h2 hW hS => ?_)
  obtain ⟨e2, hI⟩ := hlast r2 E2 h2
  exact lv_icmp_eq (tgt := 671) hx hb dL_law_442 (by decide) (fun _ => kk E2 H locs hW hS hI) (fun z => absurd (e1.trans e2.symm) z)
set_option maxHeartbeats 4000000 in
theorem law_until (hx : p.tables.exec = Jvm.exec) (hb : c.code = code) (hml : c.maxLocals = 4) (hown : s.vm.findClass RL = some m.cls) (hts : ∀ w ∈ lw_gd, w.before #[Value.ref b] s = true) (hK : KK g s) (hX : va_X b L xs s s.heap) (hbl : b < s.heap.size) (hbA : ¬ Ab g b) (hL : L ≤ 2048) (hi : i + 3 < L) (HR : RL4 g lay o sv) (HM : ML g lay (o + 56)) (hW : Wd g lay E H) (hS : va_S (Ab g) s.heap H locs) (hl : lv_has ls 4 (lvL b o i)) (hcz : cells ≤ 500000 ∧ slots ≤ 7000000) (hP : Pair l g lay o sv q E yX4_until wsX4_until rmX4_until [.int (xs (i + 1)), .int (xs (i + 2)), .int (xs (i + 3))] yX5_until wsX5_until rmX5_until [.int (xs (i + 1)), .int (xs (i + 2)), .int (xs (i + 3))])
    (kk : ∀ (E2 : ES) (H : Heap) (locs : List Loc), Wd g lay E2 H → va_S (Ab g) s.heap H locs → Inv q o sv E2 → W p l e room_1 s m #[Value.ref b] below meth c H locs cells slots Q (F0 m 671 ls [])) : W p l e room_1 s m #[Value.ref b] below meth c H locs cells slots Q (F0 m 447 ls []) := by
  obtain ⟨r, Fc, hc, hrest⟩ := hP
  refine lv_aload_n hx hb dL_law_447 rfl (lv_at hl 1 rfl) ?_
  refine w_arg (k := 1) hx hb hX hbl hbA hS hl hL (by omega) (by decide) dL_law_448 dL_law_449 dL_law_450 dL_law_451 dL_law_452 ?_
  refine w_arg (k := 2) hx hb hX hbl hbA hS hl hL (by omega) (by decide) dL_law_453 dL_law_454 dL_law_455 dL_law_456 dL_law_457 ?_
  refine w_arg (k := 3) hx hb hX hbl hbA hS hl hL (by omega) (by decide) dL_law_458 dL_law_459 dL_law_460 dL_law_461 dL_law_462 ?_
  refine w_cvi (As := [.int (xs (i + 1)), .int (xs (i + 2)), .int (xs (i + 3))]) (rest := []) hx hb hml hown hts hK hW hS hl.1 hc (k_L_59 hts ⟨(Nat.le_of_ble_eq_true rfl), (Nat.le_of_ble_eq_true rfl)⟩) (w_recv hK hW HR.1 rfl rfl rfl) rfl rfl (Nat.le_of_ble_eq_true rfl) dL_law_463 ⟨by show cells + 0 ≤ 600000; omega, by show slots + 0 ≤ 7302250; omega⟩ (fun r1 E1 H locs h1 hW hS => ?_)
  obtain ⟨e1, Fm, hm, hlast⟩ := hrest r1 E1 h1
  refine lv_aload_n hx hb dL_law_466 rfl (lv_at hl 2 rfl) ?_
  refine w_arg (k := 1) hx hb hX hbl hbA hS hl hL (by omega) (by decide) dL_law_467 dL_law_468 dL_law_469 dL_law_470 dL_law_471 ?_
  refine w_arg (k := 2) hx hb hX hbl hbA hS hl hL (by omega) (by decide) dL_law_472 dL_law_473 dL_law_474 dL_law_475 dL_law_476 ?_
  refine w_arg (k := 3) hx hb hX hbl hbA hS hl hL (by omega) (by decide) dL_law_477 dL_law_478 dL_law_479 dL_law_480 dL_law_481 ?_
  refine w_cvi (As := [.int (xs (i + 1)), .int (xs (i + 2)), .int (xs (i + 3))]) (rest := [.int r1]) hx hb hml hown hts hK hW hS hl.1 hm (k_L_63 hts ⟨(Nat.le_of_ble_eq_true rfl), (Nat.le_of_ble_eq_true rfl)⟩) (w_recv hK hW HM.1 rfl rfl rfl) rfl rfl (Nat.le_of_ble_eq_true rfl) dL_law_482 ⟨by show cells + 0 ≤ 600000; omega, by show slots + 0 ≤ 7302250; omega⟩ (fun r2 E2 H locs h2 hW hS => ?_)
  obtain ⟨e2, hI⟩ := hlast r2 E2 h2
  exact lv_icmp_eq (tgt := 671) hx hb dL_law_485 (by decide) (fun _ => kk E2 H locs hW hS hI) (fun z => absurd (e1.trans e2.symm) z)
set_option maxHeartbeats 4000000 in
theorem law_attempt (hx : p.tables.exec = Jvm.exec) (hb : c.code = code) (hml : c.maxLocals = 4) (hown : s.vm.findClass RL = some m.cls) (hts : ∀ w ∈ lw_gd, w.before #[Value.ref b] s = true) (hK : KK g s) (hX : va_X b L xs s s.heap) (hbl : b < s.heap.size) (hbA : ¬ Ab g b) (hL : L ≤ 2048) (hi : i + 3 < L) (HR : RL4 g lay o sv) (HM : ML g lay (o + 56)) (hW : Wd g lay E H) (hS : va_S (Ab g) s.heap H locs) (hl : lv_has ls 4 (lvL b o i)) (hcz : cells ≤ 500000 ∧ slots ≤ 7000000) (hP : Pair l g lay o sv q E yX4_attempt wsX4_attempt rmX4_attempt [.int (xs (i + 1)), .int (xs (i + 2)), .int (xs (i + 3))] yX5_attempt wsX5_attempt rmX5_attempt [.int (xs (i + 1)), .int (xs (i + 2)), .int (xs (i + 3))])
    (kk : ∀ (E2 : ES) (H : Heap) (locs : List Loc), Wd g lay E2 H → va_S (Ab g) s.heap H locs → Inv q o sv E2 → W p l e room_1 s m #[Value.ref b] below meth c H locs cells slots Q (F0 m 671 ls [])) : W p l e room_1 s m #[Value.ref b] below meth c H locs cells slots Q (F0 m 490 ls []) := by
  obtain ⟨r, Fc, hc, hrest⟩ := hP
  refine lv_aload_n hx hb dL_law_490 rfl (lv_at hl 1 rfl) ?_
  refine w_arg (k := 1) hx hb hX hbl hbA hS hl hL (by omega) (by decide) dL_law_491 dL_law_492 dL_law_493 dL_law_494 dL_law_495 ?_
  refine w_arg (k := 2) hx hb hX hbl hbA hS hl hL (by omega) (by decide) dL_law_496 dL_law_497 dL_law_498 dL_law_499 dL_law_500 ?_
  refine w_arg (k := 3) hx hb hX hbl hbA hS hl hL (by omega) (by decide) dL_law_501 dL_law_502 dL_law_503 dL_law_504 dL_law_505 ?_
  refine w_cvi (As := [.int (xs (i + 1)), .int (xs (i + 2)), .int (xs (i + 3))]) (rest := []) hx hb hml hown hts hK hW hS hl.1 hc (k_L_64 hts ⟨(Nat.le_of_ble_eq_true rfl), (Nat.le_of_ble_eq_true rfl)⟩) (w_recv hK hW HR.1 rfl rfl rfl) rfl rfl (Nat.le_of_ble_eq_true rfl) dL_law_506 ⟨by show cells + 0 ≤ 600000; omega, by show slots + 0 ≤ 7302250; omega⟩ (fun r1 E1 H locs h1 hW hS => ?_)
  obtain ⟨e1, Fm, hm, hlast⟩ := hrest r1 E1 h1
  refine lv_aload_n hx hb dL_law_509 rfl (lv_at hl 2 rfl) ?_
  refine w_arg (k := 1) hx hb hX hbl hbA hS hl hL (by omega) (by decide) dL_law_510 dL_law_511 dL_law_512 dL_law_513 dL_law_514 ?_
  refine w_arg (k := 2) hx hb hX hbl hbA hS hl hL (by omega) (by decide) dL_law_515 dL_law_516 dL_law_517 dL_law_518 dL_law_519 ?_
  refine w_arg (k := 3) hx hb hX hbl hbA hS hl hL (by omega) (by decide) dL_law_520 dL_law_521 dL_law_522 dL_law_523 dL_law_524 ?_
  refine w_cvi (As := [.int (xs (i + 1)), .int (xs (i + 2)), .int (xs (i + 3))]) (rest := [.int r1]) hx hb hml hown hts hK hW hS hl.1 hm (k_L_67 hts ⟨(Nat.le_of_ble_eq_true rfl), (Nat.le_of_ble_eq_true rfl)⟩) (w_recv hK hW HM.1 rfl rfl rfl) rfl rfl (Nat.le_of_ble_eq_true rfl) dL_law_525 ⟨by show cells + 0 ≤ 600000; omega, by show slots + 0 ≤ 7302250; omega⟩ (fun r2 E2 H locs h2 hW hS => ?_)
  obtain ⟨e2, hI⟩ := hlast r2 E2 h2
  exact lv_icmp_eq (tgt := 671) hx hb dL_law_528 (by decide) (fun _ => kk E2 H locs hW hS hI) (fun z => absurd (e1.trans e2.symm) z)
set_option maxHeartbeats 4000000 in
theorem law_put (hx : p.tables.exec = Jvm.exec) (hb : c.code = code) (hml : c.maxLocals = 4) (hown : s.vm.findClass RL = some m.cls) (hts : ∀ w ∈ lw_gd, w.before #[Value.ref b] s = true) (hK : KK g s) (hX : va_X b L xs s s.heap) (hbl : b < s.heap.size) (hbA : ¬ Ab g b) (hL : L ≤ 2048) (hi : i + 3 < L) (HR : RL4 g lay o sv) (HM : ML g lay (o + 56)) (hW : Wd g lay E H) (hS : va_S (Ab g) s.heap H locs) (hl : lv_has ls 4 (lvL b o i)) (hcz : cells ≤ 500000 ∧ slots ≤ 7000000) (hP : Pair l g lay o sv q E yX4_put wsX4_put rmX4_put [.long (pL (xs (i + 1)) (xs (i + 2)))] yX5_put wsX5_put rmX5_put [.long (pL (xs (i + 1)) (xs (i + 2)))])
    (kk : ∀ (E2 : ES) (H : Heap) (locs : List Loc), Wd g lay E2 H → va_S (Ab g) s.heap H locs → Inv q o sv E2 → W p l e room_1 s m #[Value.ref b] below meth c H locs cells slots Q (F0 m 671 ls [])) : W p l e room_1 s m #[Value.ref b] below meth c H locs cells slots Q (F0 m 533 ls []) := by
  obtain ⟨r, Fc, hc, hrest⟩ := hP
  refine lv_aload_n hx hb dL_law_533 rfl (lv_at hl 1 rfl) ?_
  refine w_arg (k := 1) hx hb hX hbl hbA hS hl hL (by omega) (by decide) dL_law_534 dL_law_535 dL_law_536 dL_law_537 dL_law_538 ?_
  refine lv_i2l hx hb dL_law_539 rfl ?_
  refine lv_bipush (v := 32) hx hb dL_law_540 (by decide) ?_
  refine lv_lshl hx hb dL_law_542 rfl ?_
  refine w_arg (k := 2) hx hb hX hbl hbA hS hl hL (by omega) (by decide) dL_law_543 dL_law_544 dL_law_545 dL_law_546 dL_law_547 ?_
  refine lv_i2l hx hb dL_law_548 rfl ?_
  refine lv_ldc2 hx hb hown (hts _ wd_970) dL_law_549 ?_
  refine lv_land hx hb dL_law_552 ?_
  refine lv_lor hx hb dL_law_553 ?_
  refine w_cvi (As := [.long (pL (xs (i + 1)) (xs (i + 2)))]) (rest := []) hx hb hml hown hts hK hW hS hl.1 hc (k_L_70 hts ⟨(Nat.le_of_ble_eq_true rfl), (Nat.le_of_ble_eq_true rfl)⟩) (w_recv hK hW HR.1 rfl rfl rfl) rfl rfl (Nat.le_of_ble_eq_true rfl) dL_law_554 ⟨by show cells + 0 ≤ 600000; omega, by show slots + 0 ≤ 7302250; omega⟩ (fun r1 E1 H locs h1 hW hS => ?_)
  obtain ⟨e1, Fm, hm, hlast⟩ := hrest r1 E1 h1
  refine lv_aload_n hx hb dL_law_557 rfl (lv_at hl 2 rfl) ?_
  refine w_arg (k := 1) hx hb hX hbl hbA hS hl hL (by omega) (by decide) dL_law_558 dL_law_559 dL_law_560 dL_law_561 dL_law_562 ?_
  refine lv_i2l hx hb dL_law_563 rfl ?_
  refine lv_bipush (v := 32) hx hb dL_law_564 (by decide) ?_
  refine lv_lshl hx hb dL_law_566 rfl ?_
  refine w_arg (k := 2) hx hb hX hbl hbA hS hl hL (by omega) (by decide) dL_law_567 dL_law_568 dL_law_569 dL_law_570 dL_law_571 ?_
  refine lv_i2l hx hb dL_law_572 rfl ?_
  refine lv_ldc2 hx hb hown (hts _ wd_970) dL_law_573 ?_
  refine lv_land hx hb dL_law_576 ?_
  refine lv_lor hx hb dL_law_577 ?_
  refine w_cvi (As := [.long (pL (xs (i + 1)) (xs (i + 2)))]) (rest := [.int r1]) hx hb hml hown hts hK hW hS hl.1 hm (k_L_74 hts ⟨(Nat.le_of_ble_eq_true rfl), (Nat.le_of_ble_eq_true rfl)⟩) (w_recv hK hW HM.1 rfl rfl rfl) rfl rfl (Nat.le_of_ble_eq_true rfl) dL_law_578 ⟨by show cells + 0 ≤ 600000; omega, by show slots + 0 ≤ 7302250; omega⟩ (fun r2 E2 H locs h2 hW hS => ?_)
  obtain ⟨e2, hI⟩ := hlast r2 E2 h2
  exact lv_icmp_eq (tgt := 671) hx hb dL_law_581 (by decide) (fun _ => kk E2 H locs hW hS hI) (fun z => absurd (e1.trans e2.symm) z)
set_option maxHeartbeats 4000000 in
theorem law_wipe (hx : p.tables.exec = Jvm.exec) (hb : c.code = code) (hml : c.maxLocals = 4) (hown : s.vm.findClass RL = some m.cls) (hts : ∀ w ∈ lw_gd, w.before #[Value.ref b] s = true) (hK : KK g s) (hX : va_X b L xs s s.heap) (hbl : b < s.heap.size) (hbA : ¬ Ab g b) (hL : L ≤ 2048) (hi : i + 3 < L) (HR : RL4 g lay o sv) (HM : ML g lay (o + 56)) (hW : Wd g lay E H) (hS : va_S (Ab g) s.heap H locs) (hl : lv_has ls 4 (lvL b o i)) (hcz : cells ≤ 500000 ∧ slots ≤ 7000000) (hP : Pair l g lay o sv q E yX4_wipe wsX4_wipe rmX4_wipe [] yX5_wipe wsX5_wipe rmX5_wipe [])
    (kk : ∀ (E2 : ES) (H : Heap) (locs : List Loc), Wd g lay E2 H → va_S (Ab g) s.heap H locs → Inv q o sv E2 → W p l e room_1 s m #[Value.ref b] below meth c H locs cells slots Q (F0 m 671 ls [])) : W p l e room_1 s m #[Value.ref b] below meth c H locs cells slots Q (F0 m 586 ls []) := by
  obtain ⟨r, Fc, hc, hrest⟩ := hP
  refine lv_aload_n hx hb dL_law_586 rfl (lv_at hl 1 rfl) ?_
  refine w_cvi (As := []) (rest := []) hx hb hml hown hts hK hW hS hl.1 hc (k_L_75 hts ⟨(Nat.le_of_ble_eq_true rfl), (Nat.le_of_ble_eq_true rfl)⟩) (w_recv hK hW HR.1 rfl rfl rfl) rfl rfl (Nat.le_of_ble_eq_true rfl) dL_law_587 ⟨by show cells + 0 ≤ 600000; omega, by show slots + 0 ≤ 7302250; omega⟩ (fun r1 E1 H locs h1 hW hS => ?_)
  obtain ⟨e1, Fm, hm, hlast⟩ := hrest r1 E1 h1
  refine lv_aload_n hx hb dL_law_590 rfl (lv_at hl 2 rfl) ?_
  refine w_cvi (As := []) (rest := [.int r1]) hx hb hml hown hts hK hW hS hl.1 hm (k_L_79 hts ⟨(Nat.le_of_ble_eq_true rfl), (Nat.le_of_ble_eq_true rfl)⟩) (w_recv hK hW HM.1 rfl rfl rfl) rfl rfl (Nat.le_of_ble_eq_true rfl) dL_law_591 ⟨by show cells + 0 ≤ 600000; omega, by show slots + 0 ≤ 7302250; omega⟩ (fun r2 E2 H locs h2 hW hS => ?_)
  obtain ⟨e2, hI⟩ := hlast r2 E2 h2
  exact lv_icmp_eq (tgt := 671) hx hb dL_law_594 (by decide) (fun _ => kk E2 H locs hW hS hI) (fun z => absurd (e1.trans e2.symm) z)
set_option maxHeartbeats 4000000 in
theorem law_fault (hx : p.tables.exec = Jvm.exec) (hb : c.code = code) (hml : c.maxLocals = 4) (hown : s.vm.findClass RL = some m.cls) (hts : ∀ w ∈ lw_gd, w.before #[Value.ref b] s = true) (hK : KK g s) (hX : va_X b L xs s s.heap) (hbl : b < s.heap.size) (hbA : ¬ Ab g b) (hL : L ≤ 2048) (hi : i + 3 < L) (HR : RL4 g lay o sv) (HM : ML g lay (o + 56)) (hW : Wd g lay E H) (hS : va_S (Ab g) s.heap H locs) (hl : lv_has ls 4 (lvL b o i)) (hcz : cells ≤ 500000 ∧ slots ≤ 7000000) (hP : Pair l g lay o sv q E yX4_fault wsX4_fault rmX4_fault [] yX5_fault wsX5_fault rmX5_fault [])
    (kk : ∀ (E2 : ES) (H : Heap) (locs : List Loc), Wd g lay E2 H → va_S (Ab g) s.heap H locs → Inv q o sv E2 → W p l e room_1 s m #[Value.ref b] below meth c H locs cells slots Q (F0 m 671 ls [])) : W p l e room_1 s m #[Value.ref b] below meth c H locs cells slots Q (F0 m 599 ls []) := by
  obtain ⟨r, Fc, hc, hrest⟩ := hP
  refine lv_aload_n hx hb dL_law_599 rfl (lv_at hl 1 rfl) ?_
  refine w_cvi (As := []) (rest := []) hx hb hml hown hts hK hW hS hl.1 hc (k_L_80 hts ⟨(Nat.le_of_ble_eq_true rfl), (Nat.le_of_ble_eq_true rfl)⟩) (w_recv hK hW HR.1 rfl rfl rfl) rfl rfl (Nat.le_of_ble_eq_true rfl) dL_law_600 ⟨by show cells + 0 ≤ 600000; omega, by show slots + 0 ≤ 7302250; omega⟩ (fun r1 E1 H locs h1 hW hS => ?_)
  obtain ⟨e1, Fm, hm, hlast⟩ := hrest r1 E1 h1
  refine lv_aload_n hx hb dL_law_603 rfl (lv_at hl 2 rfl) ?_
  refine w_cvi (As := []) (rest := [.int r1]) hx hb hml hown hts hK hW hS hl.1 hm (k_L_83 hts ⟨(Nat.le_of_ble_eq_true rfl), (Nat.le_of_ble_eq_true rfl)⟩) (w_recv hK hW HM.1 rfl rfl rfl) rfl rfl (Nat.le_of_ble_eq_true rfl) dL_law_604 ⟨by show cells + 0 ≤ 600000; omega, by show slots + 0 ≤ 7302250; omega⟩ (fun r2 E2 H locs h2 hW hS => ?_)
  obtain ⟨e2, hI⟩ := hlast r2 E2 h2
  exact lv_icmp_eq (tgt := 671) hx hb dL_law_607 (by decide) (fun _ => kk E2 H locs hW hS hI) (fun z => absurd (e1.trans e2.symm) z)
set_option maxHeartbeats 4000000 in
theorem law_carryOut (hx : p.tables.exec = Jvm.exec) (hb : c.code = code) (hml : c.maxLocals = 4) (hown : s.vm.findClass RL = some m.cls) (hts : ∀ w ∈ lw_gd, w.before #[Value.ref b] s = true) (hK : KK g s) (hX : va_X b L xs s s.heap) (hbl : b < s.heap.size) (hbA : ¬ Ab g b) (hL : L ≤ 2048) (hi : i + 3 < L) (HR : RL4 g lay o sv) (HM : ML g lay (o + 56)) (hW : Wd g lay E H) (hS : va_S (Ab g) s.heap H locs) (hl : lv_has ls 4 (lvL b o i)) (hcz : cells ≤ 500000 ∧ slots ≤ 7000000) (hP : Pair l g lay o sv q E yX4_carryOut wsX4_carryOut rmX4_carryOut [] yX5_carryOut wsX5_carryOut rmX5_carryOut [])
    (kk : ∀ (E2 : ES) (H : Heap) (locs : List Loc), Wd g lay E2 H → va_S (Ab g) s.heap H locs → Inv q o sv E2 → W p l e room_1 s m #[Value.ref b] below meth c H locs cells slots Q (F0 m 671 ls [])) : W p l e room_1 s m #[Value.ref b] below meth c H locs cells slots Q (F0 m 612 ls []) := by
  obtain ⟨r, Fc, hc, hrest⟩ := hP
  refine lv_aload_n hx hb dL_law_612 rfl (lv_at hl 1 rfl) ?_
  refine w_cvi (As := []) (rest := []) hx hb hml hown hts hK hW hS hl.1 hc (k_L_84 hts ⟨(Nat.le_of_ble_eq_true rfl), (Nat.le_of_ble_eq_true rfl)⟩) (w_recv hK hW HR.1 rfl rfl rfl) rfl rfl (Nat.le_of_ble_eq_true rfl) dL_law_613 ⟨by show cells + 0 ≤ 600000; omega, by show slots + 0 ≤ 7302250; omega⟩ (fun r1 E1 H locs h1 hW hS => ?_)
  obtain ⟨e1, Fm, hm, hlast⟩ := hrest r1 E1 h1
  refine lv_aload_n hx hb dL_law_616 rfl (lv_at hl 2 rfl) ?_
  refine w_cvi (As := []) (rest := [.int r1]) hx hb hml hown hts hK hW hS hl.1 hm (k_L_87 hts ⟨(Nat.le_of_ble_eq_true rfl), (Nat.le_of_ble_eq_true rfl)⟩) (w_recv hK hW HM.1 rfl rfl rfl) rfl rfl (Nat.le_of_ble_eq_true rfl) dL_law_617 ⟨by show cells + 0 ≤ 600000; omega, by show slots + 0 ≤ 7302250; omega⟩ (fun r2 E2 H locs h2 hW hS => ?_)
  obtain ⟨e2, hI⟩ := hlast r2 E2 h2
  exact lv_icmp_eq (tgt := 671) hx hb dL_law_620 (by decide) (fun _ => kk E2 H locs hW hS hI) (fun z => absurd (e1.trans e2.symm) z)
set_option maxHeartbeats 4000000 in
theorem law_restore (hx : p.tables.exec = Jvm.exec) (hb : c.code = code) (hml : c.maxLocals = 4) (hown : s.vm.findClass RL = some m.cls) (hts : ∀ w ∈ lw_gd, w.before #[Value.ref b] s = true) (hK : KK g s) (hX : va_X b L xs s s.heap) (hbl : b < s.heap.size) (hbA : ¬ Ab g b) (hL : L ≤ 2048) (hi : i + 3 < L) (HR : RL4 g lay o sv) (HM : ML g lay (o + 56)) (hW : Wd g lay E H) (hS : va_S (Ab g) s.heap H locs) (hl : lv_has ls 4 (lvL b o i)) (hcz : cells ≤ 500000 ∧ slots ≤ 7000000) (hP : Pair l g lay o sv q E yX4_restore wsX4_restore rmX4_restore [.int (xs (i + 1))] yX5_restore wsX5_restore rmX5_restore [.int (xs (i + 1))])
    (kk : ∀ (E2 : ES) (H : Heap) (locs : List Loc), Wd g lay E2 H → va_S (Ab g) s.heap H locs → Inv q o sv E2 → W p l e room_1 s m #[Value.ref b] below meth c H locs cells slots Q (F0 m 671 ls [])) : W p l e room_1 s m #[Value.ref b] below meth c H locs cells slots Q (F0 m 648 ls []) := by
  obtain ⟨r, Fc, hc, hrest⟩ := hP
  refine lv_aload_n hx hb dL_law_648 rfl (lv_at hl 1 rfl) ?_
  refine w_arg (k := 1) hx hb hX hbl hbA hS hl hL (by omega) (by decide) dL_law_649 dL_law_650 dL_law_651 dL_law_652 dL_law_653 ?_
  refine w_cvi (As := [.int (xs (i + 1))]) (rest := []) hx hb hml hown hts hK hW hS hl.1 hc (k_L_92 hts ⟨(Nat.le_of_ble_eq_true rfl), (Nat.le_of_ble_eq_true rfl)⟩) (w_recv hK hW HR.1 rfl rfl rfl) rfl rfl (Nat.le_of_ble_eq_true rfl) dL_law_654 ⟨by show cells + 0 ≤ 600000; omega, by show slots + 0 ≤ 7302250; omega⟩ (fun r1 E1 H locs h1 hW hS => ?_)
  obtain ⟨e1, Fm, hm, hlast⟩ := hrest r1 E1 h1
  refine lv_aload_n hx hb dL_law_657 rfl (lv_at hl 2 rfl) ?_
  refine w_arg (k := 1) hx hb hX hbl hbA hS hl hL (by omega) (by decide) dL_law_658 dL_law_659 dL_law_660 dL_law_661 dL_law_662 ?_
  refine w_cvi (As := [.int (xs (i + 1))]) (rest := [.int r1]) hx hb hml hown hts hK hW hS hl.1 hm (k_L_95 hts ⟨(Nat.le_of_ble_eq_true rfl), (Nat.le_of_ble_eq_true rfl)⟩) (w_recv hK hW HM.1 rfl rfl rfl) rfl rfl (Nat.le_of_ble_eq_true rfl) dL_law_663 ⟨by show cells + 0 ≤ 600000; omega, by show slots + 0 ≤ 7302250; omega⟩ (fun r2 E2 H locs h2 hW hS => ?_)
  obtain ⟨e2, hI⟩ := hlast r2 E2 h2
  exact lv_icmp_eq (tgt := 671) hx hb dL_law_666 (by decide) (fun _ => kk E2 H locs hW hS hI) (fun z => absurd (e1.trans e2.symm) z)
theorem ML_congr {lay2 : LY} (h : ∀ k, k < 7 → lay2 (o + k) = lay (o + k)) (HM : ML g lay o) : ML g lay2 o := ⟨(h 0 (by decide)).trans HM.1, (h 1 (by decide)).trans HM.2.1, (h 2 (by decide)).trans HM.2.2.1, (h 3 (by decide)).trans HM.2.2.2.1, (h 4 (by decide)).trans HM.2.2.2.2.1, (h 5 (by decide)).trans HM.2.2.2.2.2.1, (h 6 (by decide)).trans HM.2.2.2.2.2.2⟩
theorem w_cvS {R : Room} {args : Array Value} {cc : ByteArray} {st As : List Value} {a n nL index maxL : Nat} {own C : String} {y : MethodName} {ws : List Cond} {rm : Room} {bytes : ByteArray} {ret : Option FieldType} {K : Int32 → ES → (Nat → Option Nat) → Prop} {H0 : Heap} (hx : p.tables.exec = Jvm.exec) (hb : c.code = cc) (hml : c.maxLocals = nL) (hown : s.vm.findClass own = some m.cls) (hts : ∀ w ∈ lw_gd, w.before args s = true) (hK : KK g s) (hW : Wd g lay E H) (hS : va_S (Ab g) H0 H locs) (hls : ls.size = nL) (hM : Met l y ws rm (va_Pc (.ref a :: As) (fun U => KK g U ∧ Wd g lay E U.heap)) (va_Qi (S := LY × (Nat → Option Nat) × ES) (SvP g lay o K) (fun u t => Wd g u.1 u.2.2 t.heap) (Ab g)) 26 244 (Ab g)) (cw : CallW R s args own C index y bytes maxL ret ws rm 26 244 n) (hrc : ∃ cellB : Cell, H[a]? = some cellB ∧ cellB.vm.isStatics = false ∧ s.vm.findClass C = some cellB.cls) (hn : As.length = n) (hst : st = As.reverse ++ .ref a :: rest) (hcat : (rest.map fun v => v.category).sum ≤ 8) (hdg : decode cc pc = .ok (.invokevirtual index, 3)) (hf : cells + 26 ≤ R.cells ∧ slots + 244 ≤ R.slots)
    (kk : ∀ (r : Int32) (u : LY × (Nat → Option Nat) × ES) (H1 : Heap) (locs1 : List Loc), SvP g lay o K r u → Wd g u.1 u.2.2 H1 → va_S (Ab g) H0 H1 locs1 → W p l e R s m args below meth c H1 locs1 (cells + 26) (slots + 244) Q (F0 m (pc + 3) ls (.int r :: rest))) : W p l e R s m args below meth c H locs cells slots Q (F0 m pc ls st) := by
  subst hst
  refine va_calli (va_runV (As := As) (rest := rest) ⟨hx, hb, hml, hown, hts⟩ hM cw ⟨blindW, hrc, fun U hU hW' => ⟨rfl, KK_warm hW' hK, by rw [hU]; exact hW⟩⟩ rfl hn hls rfl (lv_room hcat) hdg hf) hS (fun q _ h => h) (fun q h => h) (fun r u t H1 locs1 ht hvm hw hB hz hk hS1 => ?_)
  have hB2 : Wd g u.1 u.2.2 t.heap := hB
  rw [ht] at hB2
  exact kk r u H1 locs1 hw hB2 hS1
set_option maxHeartbeats 4000000 in
theorem law_save (hx : p.tables.exec = Jvm.exec) (hb : c.code = code) (hml : c.maxLocals = 4) (hown : s.vm.findClass RL = some m.cls) (hts : ∀ w ∈ lw_gd, w.before #[Value.ref b] s = true) (hK : KK g s) (hX : va_X b L xs s s.heap) (hbl : b < s.heap.size) (hbA : ¬ Ab g b) (hL : L ≤ 2048) (hi : i + 3 < L) (HR : RL4 g lay o sv) (HM : ML g lay (o + 56)) (hW : Wd g lay E H) (hS : va_S (Ab g) s.heap H locs) (hl : lv_has ls 4 (lvL b o i)) (hcz : cells ≤ 500000 ∧ slots ≤ 7000000) (hA : okL g lay) (HS : SL g lay o sv) (hI : Inv q o sv E)
    (kk : ∀ (lay1 : LY) (sv1 : Nat → Option Nat) (E2 : ES) (H : Heap) (locs : List Loc), okL g lay1 → RL4 g lay1 o sv1 → ML g lay1 (o + 56) → SL g lay1 o sv1 → Wd g lay1 E2 H → va_S (Ab g) s.heap H locs → Inv q o sv1 E2 → W p l e room_1 s m #[Value.ref b] below meth c H locs (cells + 26) (slots + 244) Q (F0 m 671 ls [])) : W p l e room_1 s m #[Value.ref b] below meth c H locs cells slots Q (F0 m 625 ls []) := by
  obtain ⟨r, M2, hmd, hw⟩ := top_save hI HS.2 (xs (i + 1))
  have hc := c_X4_save (l := l) hA HR HS HM hw
  refine lv_aload_n hx hb dL_law_625 rfl (lv_at hl 1 rfl) ?_
  refine w_arg (k := 1) hx hb hX hbl hbA hS hl hL (by omega) (by decide) dL_law_626 dL_law_627 dL_law_628 dL_law_629 dL_law_630 ?_
  refine w_cvS (As := [.int (xs (i + 1))]) (rest := []) hx hb hml hown hts hK hW hS hl.1 hc (k_L_88 hts ⟨(Nat.le_of_ble_eq_true rfl), (Nat.le_of_ble_eq_true rfl)⟩) (w_recv hK hW HR.1 rfl rfl rfl) rfl rfl (Nat.le_of_ble_eq_true rfl) dL_law_631 ⟨by show cells + 26 ≤ 600000; omega, by show slots + 244 ≤ 7302250; omega⟩ (fun r1 u H locs h1 hW hS => ?_)
  obtain ⟨lay1, sv1, E1⟩ := u
  obtain ⟨hA1, HR1, HS1, h7, e1, hE7, hI1⟩ := h1
  have HM1 : ML g lay1 (o + 56) := ML_congr h7 HM
  have hm := c_X5_save (l := l) (p1 := xs (i + 1)) hA1 HM1 hE7 (hmd (fun r' X' => r' = r ∧ X' = M2) ⟨rfl, rfl⟩)
  refine lv_aload_n hx hb dL_law_634 rfl (lv_at hl 2 rfl) ?_
  refine w_arg (k := 1) hx hb hX hbl hbA hS hl hL (by omega) (by decide) dL_law_635 dL_law_636 dL_law_637 dL_law_638 dL_law_639 ?_
  refine w_cvi (As := [.int (xs (i + 1))]) (rest := [.int r1]) hx hb hml hown hts hK hW hS hl.1 hm (k_L_91 hts ⟨(Nat.le_of_ble_eq_true rfl), (Nat.le_of_ble_eq_true rfl)⟩) (w_recv hK hW HM1.1 rfl rfl rfl) rfl rfl (Nat.le_of_ble_eq_true rfl) dL_law_640 ⟨by show cells + 26 + 0 ≤ 600000; omega, by show slots + 244 + 0 ≤ 7302250; omega⟩ (fun r2 E2 H locs h2 hW hS => ?_)
  obtain ⟨X1, e3, e2, e4⟩ := h2
  subst e4
  rw [e3] at hW
  exact lv_icmp_eq (tgt := 671) hx hb dL_law_643 (by decide) (fun _ => kk lay1 sv1 _ H locs hA1 HR1 HM1 HS1 hW hS hI1) (fun z => absurd (e1.trans e2.symm) z)
end LC
