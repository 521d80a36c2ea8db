set_option maxHeartbeats 8000000 in
set_option maxRecDepth 100000 in
theorem t_L_next {p : Program} {l : Launch} {e : Env} {R : Room} {s : State} {m : MethodId} {args : Array Value} {below : List Frame} {meth : Method} {c : Code} {H : Heap} {locs : List Loc} {cells slots : Nat} {Q : State → Prop} {ls : Array Slot} {g : GG} {lay : LY} {H0 : Heap} {o lo : Nat} {sv : Nat → Option Nat} {flo : CS → va_E} {E0 : ES} {K : Int32 → ES → Prop} {p1 : Int32} (hx : p.tables.exec = Jvm.exec) (hb : c.code = cL_next) (hml : c.maxLocals = 5) (hown : s.vm.findClass RL = some m.cls) (hts : ∀ w ∈ lw_gd, w.before args s = true) (hK : KK g s) (hA : okL g lay) (HR : RL4 g lay o sv) (hlo : lay lo = some flo) (hRf : 4 ≤ R.frames) (hRl : 89 ≤ R.locals) (hRc : cells + 0 ≤ R.cells) (hRs : slots + 0 ≤ R.slots) (hret : ∀ (pc : Nat) (_ : decode cL_next pc = .ok (.ireturn, 1)) (v : Int32) (X : ES) (H : Heap) (locs : List Loc) (ls : Array Slot) (cl sl : Nat), cl ≤ cells + 0 → sl ≤ slots + 0 → K v X → Wd g lay X H → va_S (Ab g) H0 H locs → W p l e R s m args below meth c H locs cl sl Q (F0 m pc ls [.int v])) (hW : Wd g lay E0 H) (hS : va_S (Ab g) H0 H locs) (hl : lv_has ls 5 [(0, .ref o), (1, .int p1)]) (hw : wp_L_next o lo E0 p1 K) : W p l e R s m args below meth c H locs cells slots Q (F0 m 0 ls []) := by
  have hsub : ∀ z f, lay z = some f → lay z = some f := fun _ _ h => h
  unfold wp_L_next at hw
  have hJ_293 : ∀ (i_1 : Int32) (i_2 : Int32) (i_3 : Int32) (i_4 : Int32) (X_5 : ES)  (H : Heap) (locs : List Loc) (ls : Array Slot), wpj_L_next_293 o lo K i_1 i_2 i_3 i_4 X_5 → Wd g lay X_5 H → va_S (Ab g) H0 H locs → lv_has ls 5 [(0, .ref o), (1, .int i_1), (2, .int i_2), (3, .int i_3), (4, .int i_4)] → W p l e R s m args below meth c H locs cells slots Q (F0 m 293 ls []) := by
    intro i_1 i_2 i_3 i_4 X_5  H locs ls hw hW hS hl
    unfold wpj_L_next_293 at hw
    refine lv_bipush (v := 8) hx hb dL_next_293 (by decide) ?_
    exact hret _ dL_next_295 _ _ _ _ _ _ _ (by omega) (by omega) hw (hW.sub hsub) hS
  have hJ_49 : ∀ (i_6 : Int32) (i_7 : Int32) (i_8 : Int32) (X_9 : ES) (t_10 : Int32) (H : Heap) (locs : List Loc) (ls : Array Slot), wpj_L_next_49 o lo K i_6 i_7 i_8 X_9 t_10 → Wd g lay X_9 H → va_S (Ab g) H0 H locs → lv_has ls 5 [(0, .ref o), (1, .int i_6), (2, .int i_7), (3, .int i_8)] → W p l e R s m args below meth c H locs cells slots Q (F0 m 49 ls [.int t_10]) := by
    intro i_6 i_7 i_8 X_9 t_10 H locs ls hw hW hS hl
    unfold wpj_L_next_49 at hw
    refine lv_istore (lv' := [(4, .int t_10), (0, .ref o), (1, .int i_6), (2, .int i_7), (3, .int i_8)]) hx hb dL_next_49 hl (by decide) rfl (fun ls hl => ?_)
    refine lv_aload_n hx hb dL_next_51 rfl (lv_at hl 1 rfl) ?_
    refine lv_iload_n hx hb dL_next_52 rfl (lv_at hl 2 rfl) ?_
    refine lv_iconst (v := 0) hx hb dL_next_53 (by decide) ?_
    refine w_cvi (As := [.int i_6, .int 0]) (rest := []) hx hb hml hown hts hK hW hS hl.1 (c_X4_finder hA HR hw) (k_L_14 hts ⟨Nat.le_trans (by decide) hRf, Nat.le_trans (by decide) hRl⟩) (w_recv hK hW HR.1 rfl rfl rfl) rfl rfl (Nat.le_of_ble_eq_true rfl) dL_next_54 ⟨by omega, by omega⟩ (fun r_46 Ez H locs hw2 hW hS => ?_)
    obtain ⟨ez, hw⟩ := hw2
    rw [ez] at hW
    by_cases c_47 : r_46 = 1
    · have hw := hw.1 c_47
      refine lv_tableIn (tgt := 108) hx hb dL_next_57 (by rw [c_47]; decide) (by rw [c_47]; decide) (by rw [c_47] <;> rfl) (by decide) ?_
      refine lv_aload_n hx hb dL_next_108 rfl (lv_at hl 1 rfl) ?_
      refine lv_iload_n hx hb dL_next_109 rfl (lv_at hl 2 rfl) ?_
      refine lv_iconst (v := 1) hx hb dL_next_110 (by decide) ?_
      refine w_cvi (As := [.int i_6, .int 1]) (rest := []) hx hb hml hown hts hK hW hS hl.1 (c_X4_finder hA HR hw) (k_L_14 hts ⟨Nat.le_trans (by decide) hRf, Nat.le_trans (by decide) hRl⟩) (w_recv hK hW HR.1 rfl rfl rfl) rfl rfl (Nat.le_of_ble_eq_true rfl) dL_next_111 ⟨by omega, by omega⟩ (fun r_48 Ez H locs hw2 hW hS => ?_)
      obtain ⟨ez, hw⟩ := hw2
      rw [ez] at hW
      refine lv_iload_n hx hb dL_next_114 rfl (lv_at hl 3 rfl) ?_
      refine lv_icmp_ne (tgt := 122) hx hb dL_next_115 (by decide) (fun c_49 => ?_) (fun c_49 => ?_)
      · have hw := hw.2 c_49
        refine lv_iconst (v := 1) hx hb dL_next_122 (by decide) ?_
        exact hret _ dL_next_123 _ _ _ _ _ _ _ (by omega) (by omega) hw (hW.sub hsub) hS
      · have hw := hw.1 c_49
        refine lv_iconst (v := 2) hx hb dL_next_118 (by decide) ?_
        refine lv_goto (tgt := 123) hx hb dL_next_119 (by decide) ?_
        exact hret _ dL_next_123 _ _ _ _ _ _ _ (by omega) (by omega) hw (hW.sub hsub) hS
    · have hw := hw.2 c_47
      by_cases c_50 : r_46 = 2
      · have hw := hw.1 c_50
        refine lv_tableIn (tgt := 124) hx hb dL_next_57 (by rw [c_50]; decide) (by rw [c_50]; decide) (by rw [c_50] <;> rfl) (by decide) ?_
        refine lv_iload_n hx hb dL_next_124 rfl (lv_at hl 4 rfl) ?_
        refine lv_if_eq (tgt := 132) hx hb dL_next_125 (by decide) (fun c_51 => ?_) (fun c_51 => ?_)
        · have hw := hw.1 c_51
          refine lv_iload hx hb dL_next_132 (lv_at hl 0 rfl) ?_
          refine lv_if_eq (tgt := 141) hx hb dL_next_134 (by decide) (fun c_52 => ?_) (fun c_52 => ?_)
          · have hw := hw.1 c_52
            refine lv_iconst (v := 2) hx hb dL_next_141 (by decide) ?_
            exact hret _ dL_next_142 _ _ _ _ _ _ _ (by omega) (by omega) hw (hW.sub hsub) hS
          · have hw := hw.2 c_52
            refine lv_iconst (v := 0) hx hb dL_next_137 (by decide) ?_
            refine lv_goto (tgt := 142) hx hb dL_next_138 (by decide) ?_
            exact hret _ dL_next_142 _ _ _ _ _ _ _ (by omega) (by omega) hw (hW.sub hsub) hS
        · have hw := hw.2 c_51
          refine lv_iconst (v := 3) hx hb dL_next_128 (by decide) ?_
          refine lv_goto (tgt := 142) hx hb dL_next_129 (by decide) ?_
          exact hret _ dL_next_142 _ _ _ _ _ _ _ (by omega) (by omega) hw (hW.sub hsub) hS
      · have hw := hw.2 c_50
        by_cases c_53 : r_46 = 3
        · have hw := hw.1 c_53
          refine lv_tableIn (tgt := 143) hx hb dL_next_57 (by rw [c_53]; decide) (by rw [c_53]; decide) (by rw [c_53] <;> rfl) (by decide) ?_
          refine lv_aload_n hx hb dL_next_143 rfl (lv_at hl 1 rfl) ?_
          refine lv_iload_n hx hb dL_next_144 rfl (lv_at hl 2 rfl) ?_
          refine lv_iconst (v := 5) hx hb dL_next_145 (by decide) ?_
          refine w_cvi (As := [.int i_6, .int 5]) (rest := []) hx hb hml hown hts hK hW hS hl.1 (c_X4_finder hA HR hw) (k_L_14 hts ⟨Nat.le_trans (by decide) hRf, Nat.le_trans (by decide) hRl⟩) (w_recv hK hW HR.1 rfl rfl rfl) rfl rfl (Nat.le_of_ble_eq_true rfl) dL_next_146 ⟨by omega, by omega⟩ (fun r_54 Ez H locs hw2 hW hS => ?_)
          obtain ⟨ez, hw⟩ := hw2
          rw [ez] at hW
          refine lv_iconst (v := 1) hx hb dL_next_149 (by decide) ?_
          refine lv_icmp_le (tgt := 157) hx hb dL_next_150 (by decide) (fun c_55 => ?_) (fun c_55 => ?_)
          · have hw := hw.1 c_55
            refine lv_aload_n hx hb dL_next_157 rfl (lv_at hl 1 rfl) ?_
            refine lv_iload_n hx hb dL_next_158 rfl (lv_at hl 2 rfl) ?_
            refine lv_iconst (v := 3) hx hb dL_next_159 (by decide) ?_
            refine w_cvi (As := [.int i_6, .int 3]) (rest := []) hx hb hml hown hts hK hW hS hl.1 (c_X4_finder hA HR hw) (k_L_14 hts ⟨Nat.le_trans (by decide) hRf, Nat.le_trans (by decide) hRl⟩) (w_recv hK hW HR.1 rfl rfl rfl) rfl rfl (Nat.le_of_ble_eq_true rfl) dL_next_160 ⟨by omega, by omega⟩ (fun r_56 Ez H locs hw2 hW hS => ?_)
            obtain ⟨ez, hw⟩ := hw2
            rw [ez] at hW
            refine lv_iconst (v := 4) hx hb dL_next_163 (by decide) ?_
            refine lv_icmp_ge (tgt := 171) hx hb dL_next_164 (by decide) (fun c_57 => ?_) (fun c_57 => ?_)
            · have hw := hw.1 c_57
              refine lv_bipush (v := 9) hx hb dL_next_171 (by decide) ?_
              exact hret _ dL_next_173 _ _ _ _ _ _ _ (by omega) (by omega) hw (hW.sub hsub) hS
            · have hw := hw.2 c_57
              refine lv_iconst (v := 4) hx hb dL_next_167 (by decide) ?_
              refine lv_goto (tgt := 173) hx hb dL_next_168 (by decide) ?_
              exact hret _ dL_next_173 _ _ _ _ _ _ _ (by omega) (by omega) hw (hW.sub hsub) hS
          · have hw := hw.2 c_55
            refine lv_iconst (v := 3) hx hb dL_next_153 (by decide) ?_
            refine lv_goto (tgt := 173) hx hb dL_next_154 (by decide) ?_
            exact hret _ dL_next_173 _ _ _ _ _ _ _ (by omega) (by omega) hw (hW.sub hsub) hS
        · have hw := hw.2 c_53
          by_cases c_58 : r_46 = 4
          · have hw := hw.1 c_58
            refine lv_tableIn (tgt := 308) hx hb dL_next_57 (by rw [c_58]; decide) (by rw [c_58]; decide) (by rw [c_58] <;> rfl) (by decide) ?_
            refine lv_iconst (v := (-1)) hx hb dL_next_308 (by decide) ?_
            exact hret _ dL_next_309 _ _ _ _ _ _ _ (by omega) (by omega) hw (hW.sub hsub) hS
          · have hw := hw.2 c_58
            by_cases c_59 : r_46 = 5
            · have hw := hw.1 c_59
              refine lv_tableIn (tgt := 174) hx hb dL_next_57 (by rw [c_59]; decide) (by rw [c_59]; decide) (by rw [c_59] <;> rfl) (by decide) ?_
              refine lv_iload_n hx hb dL_next_174 rfl (lv_at hl 4 rfl) ?_
              refine lv_if_eq (tgt := 183) hx hb dL_next_175 (by decide) (fun c_60 => ?_) (fun c_60 => ?_)
              · have hw := hw.1 c_60
                refine lv_iload hx hb dL_next_183 (lv_at hl 0 rfl) ?_
                refine lv_if_eq (tgt := 192) hx hb dL_next_185 (by decide) (fun c_61 => ?_) (fun c_61 => ?_)
                · have hw := hw.1 c_61
                  refine lv_iconst (v := 5) hx hb dL_next_192 (by decide) ?_
                  exact hret _ dL_next_193 _ _ _ _ _ _ _ (by omega) (by omega) hw (hW.sub hsub) hS
                · have hw := hw.2 c_61
                  refine lv_iconst (v := 0) hx hb dL_next_188 (by decide) ?_
                  refine lv_goto (tgt := 193) hx hb dL_next_189 (by decide) ?_
                  exact hret _ dL_next_193 _ _ _ _ _ _ _ (by omega) (by omega) hw (hW.sub hsub) hS
              · have hw := hw.2 c_60
                refine lv_bipush (v := 6) hx hb dL_next_178 (by decide) ?_
                refine lv_goto (tgt := 193) hx hb dL_next_180 (by decide) ?_
                exact hret _ dL_next_193 _ _ _ _ _ _ _ (by omega) (by omega) hw (hW.sub hsub) hS
            · have hw := hw.2 c_59
              by_cases c_62 : r_46 = 6
              · have hw := hw.1 c_62
                refine lv_tableIn (tgt := 194) hx hb dL_next_57 (by rw [c_62]; decide) (by rw [c_62]; decide) (by rw [c_62] <;> rfl) (by decide) ?_
                refine lv_aload_n hx hb dL_next_194 rfl (lv_at hl 1 rfl) ?_
                refine lv_iload_n hx hb dL_next_195 rfl (lv_at hl 2 rfl) ?_
                refine lv_iconst (v := 5) hx hb dL_next_196 (by decide) ?_
                refine w_cvi (As := [.int i_6, .int 5]) (rest := []) hx hb hml hown hts hK hW hS hl.1 (c_X4_finder hA HR hw) (k_L_14 hts ⟨Nat.le_trans (by decide) hRf, Nat.le_trans (by decide) hRl⟩) (w_recv hK hW HR.1 rfl rfl rfl) rfl rfl (Nat.le_of_ble_eq_true rfl) dL_next_197 ⟨by omega, by omega⟩ (fun r_63 Ez H locs hw2 hW hS => ?_)
                obtain ⟨ez, hw⟩ := hw2
                rw [ez] at hW
                refine lv_iconst (v := 1) hx hb dL_next_200 (by decide) ?_
                refine lv_icmp_le (tgt := 209) hx hb dL_next_201 (by decide) (fun c_64 => ?_) (fun c_64 => ?_)
                · have hw := hw.1 c_64
                  refine lv_iconst (v := (-1)) hx hb dL_next_209 (by decide) ?_
                  exact hret _ dL_next_210 _ _ _ _ _ _ _ (by omega) (by omega) hw (hW.sub hsub) hS
                · have hw := hw.2 c_64
                  refine lv_bipush (v := 6) hx hb dL_next_204 (by decide) ?_
                  refine lv_goto (tgt := 210) hx hb dL_next_206 (by decide) ?_
                  exact hret _ dL_next_210 _ _ _ _ _ _ _ (by omega) (by omega) hw (hW.sub hsub) hS
              · have hw := hw.2 c_62
                by_cases c_65 : r_46 = 7
                · have hw := hw.1 c_65
                  refine lv_tableIn (tgt := 211) hx hb dL_next_57 (by rw [c_65]; decide) (by rw [c_65]; decide) (by rw [c_65] <;> rfl) (by decide) ?_
                  refine lv_aload_n hx hb dL_next_211 rfl (lv_at hl 1 rfl) ?_
                  refine lv_aload_n hx hb dL_next_212 rfl (lv_at hl 1 rfl) ?_
                  refine lv_iload_n hx hb dL_next_213 rfl (lv_at hl 3 rfl) ?_
                  refine lv_iconst (v := 3) hx hb dL_next_214 (by decide) ?_
                  refine w_cvi (As := [.int i_7, .int 3]) (rest := [.ref o]) hx hb hml hown hts hK hW hS hl.1 (c_X4_line hA HR hw) (k_L_18 hts ⟨Nat.le_trans (by decide) hRf, Nat.le_trans (by decide) hRl⟩) (w_recv hK hW HR.1 rfl rfl rfl) rfl rfl (Nat.le_of_ble_eq_true rfl) dL_next_215 ⟨by omega, by omega⟩ (fun r_66 Ez H locs hw2 hW hS => ?_)
                  obtain ⟨ez, hw⟩ := hw2
                  rw [ez] at hW
                  refine lv_iconst (v := 1) hx hb dL_next_218 (by decide) ?_
                  refine w_cvi (As := [.int r_66, .int 1]) (rest := []) hx hb hml hown hts hK hW hS hl.1 (c_X4_line hA HR hw) (k_L_18 hts ⟨Nat.le_trans (by decide) hRf, Nat.le_trans (by decide) hRl⟩) (w_recv hK hW HR.1 rfl rfl rfl) rfl rfl (Nat.le_of_ble_eq_true rfl) dL_next_219 ⟨by omega, by omega⟩ (fun r_67 Ez H locs hw2 hW hS => ?_)
                  obtain ⟨ez, hw⟩ := hw2
                  rw [ez] at hW
                  refine lv_iconst (v := 1) hx hb dL_next_222 (by decide) ?_
                  refine lv_icmp_ne (tgt := 231) hx hb dL_next_223 (by decide) (fun c_68 => ?_) (fun c_68 => ?_)
                  · have hw := hw.2 c_68
                    refine lv_aload_n hx hb dL_next_231 rfl (lv_at hl 1 rfl) ?_
                    refine lv_iload_n hx hb dL_next_232 rfl (lv_at hl 2 rfl) ?_
                    refine lv_bipush (v := 6) hx hb dL_next_233 (by decide) ?_
                    refine w_cvi (As := [.int i_6, .int 6]) (rest := []) hx hb hml hown hts hK hW hS hl.1 (c_X4_finder hA HR hw) (k_L_14 hts ⟨Nat.le_trans (by decide) hRf, Nat.le_trans (by decide) hRl⟩) (w_recv hK hW HR.1 rfl rfl rfl) rfl rfl (Nat.le_of_ble_eq_true rfl) dL_next_235 ⟨by omega, by omega⟩ (fun r_69 Ez H locs hw2 hW hS => ?_)
                    obtain ⟨ez, hw⟩ := hw2
                    rw [ez] at hW
                    refine lv_iconst (v := 1) hx hb dL_next_238 (by decide) ?_
                    refine lv_iadd hx hb dL_next_239 ?_
                    refine lv_aload_n hx hb dL_next_240 rfl (lv_at hl 1 rfl) ?_
                    refine lv_bipush (v := 16) hx hb dL_next_241 (by decide) ?_
                    refine w_cvi (As := [.int 16]) (rest := [.int (r_69 + 1)]) hx hb hml hown hts hK hW hS hl.1 (c_X4_count hA HR hw) (k_L_8 hts ⟨Nat.le_trans (by decide) hRf, Nat.le_trans (by decide) hRl⟩) (w_recv hK hW HR.1 rfl rfl rfl) rfl rfl (Nat.le_of_ble_eq_true rfl) dL_next_243 ⟨by omega, by omega⟩ (fun r_70 Ez H locs hw2 hW hS => ?_)
                    obtain ⟨ez, hw⟩ := hw2
                    rw [ez] at hW
                    refine lv_icmp_lt (tgt := 254) hx hb dL_next_246 (by decide) (fun c_71 => ?_) (fun c_71 => ?_)
                    · have hw := hw.1 c_71
                      refine lv_bipush (v := 7) hx hb dL_next_254 (by decide) ?_
                      exact hret _ dL_next_256 _ _ _ _ _ _ _ (by omega) (by omega) hw (hW.sub hsub) hS
                    · have hw := hw.2 c_71
                      refine lv_bipush (v := 9) hx hb dL_next_249 (by decide) ?_
                      refine lv_goto (tgt := 256) hx hb dL_next_251 (by decide) ?_
                      exact hret _ dL_next_256 _ _ _ _ _ _ _ (by omega) (by omega) hw (hW.sub hsub) hS
                  · have hw := hw.1 c_68
                    refine lv_bipush (v := 8) hx hb dL_next_226 (by decide) ?_
                    refine lv_goto (tgt := 256) hx hb dL_next_228 (by decide) ?_
                    exact hret _ dL_next_256 _ _ _ _ _ _ _ (by omega) (by omega) hw (hW.sub hsub) hS
                · have hw := hw.2 c_65
                  by_cases c_72 : r_46 = 8
                  · have hw := hw.1 c_72
                    refine lv_tableIn (tgt := 257) hx hb dL_next_57 (by rw [c_72]; decide) (by rw [c_72]; decide) (by rw [c_72] <;> rfl) (by decide) ?_
                    refine lv_aload_n hx hb dL_next_257 rfl (lv_at hl 1 rfl) ?_
                    refine lv_aload_n hx hb dL_next_258 rfl (lv_at hl 1 rfl) ?_
                    refine lv_iload_n hx hb dL_next_259 rfl (lv_at hl 3 rfl) ?_
                    refine lv_iconst (v := 3) hx hb dL_next_260 (by decide) ?_
                    refine w_cvi (As := [.int i_7, .int 3]) (rest := [.ref o]) hx hb hml hown hts hK hW hS hl.1 (c_X4_line hA HR hw) (k_L_18 hts ⟨Nat.le_trans (by decide) hRf, Nat.le_trans (by decide) hRl⟩) (w_recv hK hW HR.1 rfl rfl rfl) rfl rfl (Nat.le_of_ble_eq_true rfl) dL_next_261 ⟨by omega, by omega⟩ (fun r_73 Ez H locs hw2 hW hS => ?_)
                    obtain ⟨ez, hw⟩ := hw2
                    rw [ez] at hW
                    refine lv_iconst (v := 1) hx hb dL_next_264 (by decide) ?_
                    refine w_cvi (As := [.int r_73, .int 1]) (rest := []) hx hb hml hown hts hK hW hS hl.1 (c_X4_line hA HR hw) (k_L_18 hts ⟨Nat.le_trans (by decide) hRf, Nat.le_trans (by decide) hRl⟩) (w_recv hK hW HR.1 rfl rfl rfl) rfl rfl (Nat.le_of_ble_eq_true rfl) dL_next_265 ⟨by omega, by omega⟩ (fun r_74 Ez H locs hw2 hW hS => ?_)
                    obtain ⟨ez, hw⟩ := hw2
                    rw [ez] at hW
                    refine lv_if_ne (tgt := 293) hx hb dL_next_268 (by decide) (fun c_75 => ?_) (fun c_75 => ?_)
                    · have hw := hw.2 c_75
                      exact hJ_293 _ _ _ _ _ _ _ _ hw hW hS (lv_sub hl [1, 2, 3, 4, 0] rfl)
                    · have hw := hw.1 c_75
                      refine lv_aload_n hx hb dL_next_271 rfl (lv_at hl 1 rfl) ?_
                      refine lv_iload_n hx hb dL_next_272 rfl (lv_at hl 2 rfl) ?_
                      refine lv_bipush (v := 7) hx hb dL_next_273 (by decide) ?_
                      refine w_cvi (As := [.int i_6, .int 7]) (rest := []) hx hb hml hown hts hK hW hS hl.1 (c_X4_finder hA HR hw) (k_L_14 hts ⟨Nat.le_trans (by decide) hRf, Nat.le_trans (by decide) hRl⟩) (w_recv hK hW HR.1 rfl rfl rfl) rfl rfl (Nat.le_of_ble_eq_true rfl) dL_next_275 ⟨by omega, by omega⟩ (fun r_76 Ez H locs hw2 hW hS => ?_)
                      obtain ⟨ez, hw⟩ := hw2
                      rw [ez] at hW
                      refine lv_iconst (v := 1) hx hb dL_next_278 (by decide) ?_
                      refine lv_iadd hx hb dL_next_279 ?_
                      refine lv_aload_n hx hb dL_next_280 rfl (lv_at hl 1 rfl) ?_
                      refine lv_bipush (v := 18) hx hb dL_next_281 (by decide) ?_
                      refine w_cvi (As := [.int 18]) (rest := [.int (r_76 + 1)]) hx hb hml hown hts hK hW hS hl.1 (c_X4_count hA HR hw) (k_L_8 hts ⟨Nat.le_trans (by decide) hRf, Nat.le_trans (by decide) hRl⟩) (w_recv hK hW HR.1 rfl rfl rfl) rfl rfl (Nat.le_of_ble_eq_true rfl) dL_next_283 ⟨by omega, by omega⟩ (fun r_77 Ez H locs hw2 hW hS => ?_)
                      obtain ⟨ez, hw⟩ := hw2
                      rw [ez] at hW
                      refine lv_icmp_lt (tgt := 293) hx hb dL_next_286 (by decide) (fun c_78 => ?_) (fun c_78 => ?_)
                      · have hw := hw.1 c_78
                        exact hJ_293 _ _ _ _ _ _ _ _ hw hW hS (lv_sub hl [1, 2, 3, 4, 0] rfl)
                      · have hw := hw.2 c_78
                        refine lv_iconst (v := 0) hx hb dL_next_289 (by decide) ?_
                        refine lv_goto (tgt := 295) hx hb dL_next_290 (by decide) ?_
                        exact hret _ dL_next_295 _ _ _ _ _ _ _ (by omega) (by omega) hw (hW.sub hsub) hS
                  · have hw := hw.2 c_72
                    by_cases c_79 : r_46 = 9
                    · have hw := hw.1 c_79
                      refine lv_tableIn (tgt := 296) hx hb dL_next_57 (by rw [c_79]; decide) (by rw [c_79]; decide) (by rw [c_79] <;> rfl) (by decide) ?_
                      refine lv_iload hx hb dL_next_296 (lv_at hl 0 rfl) ?_
                      refine lv_if_eq (tgt := 305) hx hb dL_next_298 (by decide) (fun c_80 => ?_) (fun c_80 => ?_)
                      · have hw := hw.1 c_80
                        refine lv_bipush (v := 9) hx hb dL_next_305 (by decide) ?_
                        exact hret _ dL_next_307 _ _ _ _ _ _ _ (by omega) (by omega) hw (hW.sub hsub) hS
                      · have hw := hw.2 c_80
                        refine lv_iconst (v := 0) hx hb dL_next_301 (by decide) ?_
                        refine lv_goto (tgt := 307) hx hb dL_next_302 (by decide) ?_
                        exact hret _ dL_next_307 _ _ _ _ _ _ _ (by omega) (by omega) hw (hW.sub hsub) hS
                    · have hw := hw.2 c_79
                      refine lv_tableOut (tgt := 308) hx hb dL_next_57 (by have zc_47 := lv_neT (a := 1) c_47 rfl; have zc_50 := lv_neT (a := 2) c_50 rfl; have zc_53 := lv_neT (a := 3) c_53 rfl; have zc_58 := lv_neT (a := 4) c_58 rfl; have zc_59 := lv_neT (a := 5) c_59 rfl; have zc_62 := lv_neT (a := 6) c_62 rfl; have zc_65 := lv_neT (a := 7) c_65 rfl; have zc_72 := lv_neT (a := 8) c_72 rfl; have zc_79 := lv_neT (a := 9) c_79 rfl; omega) (by decide) ?_
                      refine lv_iconst (v := (-1)) hx hb dL_next_308 (by decide) ?_
                      exact hret _ dL_next_309 _ _ _ _ _ _ _ (by omega) (by omega) hw (hW.sub hsub) hS
  have hJ_25 : ∀ (i_81 : Int32) (i_82 : Int32) (X_83 : ES) (t_84 : Int32) (H : Heap) (locs : List Loc) (ls : Array Slot), wpj_L_next_25 o lo K i_81 i_82 X_83 t_84 → Wd g lay X_83 H → va_S (Ab g) H0 H locs → lv_has ls 5 [(0, .ref o), (1, .int i_81), (2, .int i_82)] → W p l e R s m args below meth c H locs cells slots Q (F0 m 25 ls [.int t_84]) := by
    intro i_81 i_82 X_83 t_84 H locs ls hw hW hS hl
    unfold wpj_L_next_25 at hw
    refine lv_istore_n (lv' := [(3, .int t_84), (0, .ref o), (1, .int i_81), (2, .int i_82)]) hx hb dL_next_25 rfl hl (by decide) rfl (fun ls hl => ?_)
    refine lv_aload_n hx hb dL_next_26 rfl (lv_at hl 1 rfl) ?_
    refine lv_iload_n hx hb dL_next_27 rfl (lv_at hl 2 rfl) ?_
    refine lv_bipush (v := 6) hx hb dL_next_28 (by decide) ?_
    refine w_cvi (As := [.int i_81, .int 6]) (rest := []) hx hb hml hown hts hK hW hS hl.1 (c_X4_finder hA HR hw) (k_L_14 hts ⟨Nat.le_trans (by decide) hRf, Nat.le_trans (by decide) hRl⟩) (w_recv hK hW HR.1 rfl rfl rfl) rfl rfl (Nat.le_of_ble_eq_true rfl) dL_next_30 ⟨by omega, by omega⟩ (fun r_88 Ez H locs hw2 hW hS => ?_)
    obtain ⟨ez, hw⟩ := hw2
    rw [ez] at hW
    refine lv_iconst (v := 1) hx hb dL_next_33 (by decide) ?_
    refine lv_iadd hx hb dL_next_34 ?_
    refine lv_aload_n hx hb dL_next_35 rfl (lv_at hl 1 rfl) ?_
    refine lv_bipush (v := 15) hx hb dL_next_36 (by decide) ?_
    refine w_cvi (As := [.int 15]) (rest := [.int (r_88 + 1)]) hx hb hml hown hts hK hW hS hl.1 (c_X4_count hA HR hw) (k_L_8 hts ⟨Nat.le_trans (by decide) hRf, Nat.le_trans (by decide) hRl⟩) (w_recv hK hW HR.1 rfl rfl rfl) rfl rfl (Nat.le_of_ble_eq_true rfl) dL_next_38 ⟨by omega, by omega⟩ (fun r_89 Ez H locs hw2 hW hS => ?_)
    obtain ⟨ez, hw⟩ := hw2
    rw [ez] at hW
    refine lv_icmp_lt (tgt := 48) hx hb dL_next_41 (by decide) (fun c_90 => ?_) (fun c_90 => ?_)
    · have hw := hw.1 c_90
      refine lv_iconst (v := 0) hx hb dL_next_48 (by decide) ?_
      exact hJ_49 _ _ _ _ _ _ _ _ hw hW hS (lv_sub hl [1, 2, 3, 0] rfl)
    · have hw := hw.2 c_90
      refine lv_iconst (v := 1) hx hb dL_next_44 (by decide) ?_
      refine lv_goto (tgt := 49) hx hb dL_next_45 (by decide) ?_
      exact hJ_49 _ _ _ _ _ _ _ _ hw hW hS (lv_sub hl [1, 2, 3, 0] rfl)
  have hJ_24 : ∀ (i_91 : Int32) (i_92 : Int32) (X_93 : ES)  (H : Heap) (locs : List Loc) (ls : Array Slot), wpj_L_next_24 o lo K i_91 i_92 X_93 → Wd g lay X_93 H → va_S (Ab g) H0 H locs → lv_has ls 5 [(0, .ref o), (1, .int i_91), (2, .int i_92)] → W p l e R s m args below meth c H locs cells slots Q (F0 m 24 ls []) := by
    intro i_91 i_92 X_93  H locs ls hw hW hS hl
    unfold wpj_L_next_24 at hw
    refine lv_iconst (v := 0) hx hb dL_next_24 (by decide) ?_
    exact hJ_25 _ _ _ _ _ _ _ hw hW hS (lv_sub hl [0, 1, 2] rfl)
  refine lv_aload_n hx hb dL_next_0 rfl (lv_at hl 0 rfl) ?_
  refine lv_iload_n hx hb dL_next_1 rfl (lv_at hl 1 rfl) ?_
  refine lv_iconst (v := 2) hx hb dL_next_2 (by decide) ?_
  refine w_cvi (As := [.int p1, .int 2]) (rest := []) hx hb hml hown hts hK hW hS hl.1 (c_X4_finder hA HR hw) (k_L_14 hts ⟨Nat.le_trans (by decide) hRf, Nat.le_trans (by decide) hRl⟩) (w_recv hK hW HR.1 rfl rfl rfl) rfl rfl (Nat.le_of_ble_eq_true rfl) dL_next_3 ⟨by omega, by omega⟩ (fun r_94 Ez H locs hw2 hW hS => ?_)
  obtain ⟨ez, hw⟩ := hw2
  rw [ez] at hW
  refine lv_istore_n (lv' := [(2, .int r_94), (0, .ref o), (1, .int p1)]) hx hb dL_next_6 rfl hl (by decide) rfl (fun ls hl => ?_)
  refine lv_iload_n hx hb dL_next_7 rfl (lv_at hl 0 rfl) ?_
  refine lv_if_lt (tgt := 24) hx hb dL_next_8 (by decide) (fun c_95 => ?_) (fun c_95 => ?_)
  · have hw := hw.1 c_95
    exact hJ_24 _ _ _ _ _ _ hw hW hS (lv_sub hl [1, 2, 0] rfl)
  · have hw := hw.2 c_95
    refine lv_aload_n hx hb dL_next_11 rfl (lv_at hl 1 rfl) ?_
    refine lv_iload_n hx hb dL_next_12 rfl (lv_at hl 0 rfl) ?_
    refine lv_iconst (v := 4) hx hb dL_next_13 (by decide) ?_
    refine w_cvi (As := [.int r_94, .int 4]) (rest := []) hx hb hml hown hts hK hW hS hl.1 (c_X4_line hA HR hw) (k_L_18 hts ⟨Nat.le_trans (by decide) hRf, Nat.le_trans (by decide) hRl⟩) (w_recv hK hW HR.1 rfl rfl rfl) rfl rfl (Nat.le_of_ble_eq_true rfl) dL_next_14 ⟨by omega, by omega⟩ (fun r_96 Ez H locs hw2 hW hS => ?_)
    obtain ⟨ez, hw⟩ := hw2
    rw [ez] at hW
    refine lv_if_le (tgt := 24) hx hb dL_next_17 (by decide) (fun c_97 => ?_) (fun c_97 => ?_)
    · have hw := hw.1 c_97
      exact hJ_24 _ _ _ _ _ _ hw hW hS (lv_sub hl [1, 2, 0] rfl)
    · have hw := hw.2 c_97
      refine lv_iconst (v := 1) hx hb dL_next_20 (by decide) ?_
      refine lv_goto (tgt := 25) hx hb dL_next_21 (by decide) ?_
      exact hJ_25 _ _ _ _ _ _ _ hw hW hS (lv_sub hl [1, 2, 0] rfl)
set_option maxHeartbeats 8000000 in
theorem c_L_next {l : Launch} {g : GG} {lay : LY} {o lo : Nat} {sv : Nat → Option Nat} {flo : CS → va_E} {E0 : ES} {K : Int32 → ES → Prop} {p1 : Int32} (hA : okL g lay) (HR : RL4 g lay o sv) (hlo : lay lo = some flo) (hw : wp_L_next o lo E0 p1 K) : Met l yL_next wsL_next rmL_next (va_Pc [.ref o, .int p1] (fun U => KK g U ∧ Wd g lay E0 U.heap)) (va_Qi (fun r E1 => K r E1) (fun E' t => Wd g lay E' t.heap) (Ab g)) 0 0 (Ab g) := by
  refine Met.ofW (cc := cL_next) (maxL := 5) (ret := (some .int)) (by decide) rfl ?_
  intro p e s m args below meth c s₁ B hml hv
  obtain ⟨rfl, hK, hW⟩ := hv
  have hr := B.returns
  have hlocks := B.notSynchronized
  have hl := lv_entry [.ref o, .int p1] (n := 5) (Nat.le_of_ble_eq_true rfl)
  rw [lg_entry_eq]
  generalize (lg_sl [.ref o, .int p1] ++ List.replicate (5 - (lg_sl [.ref o, .int p1]).length) Slot.unset).toArray = ls at hl ⊢
  exact t_L_next (cells := 0) (slots := 0) (H0 := s.heap) B.exec B.bytes hml (findClass_of_methodNamed B.named) (gd_of (atoms_spec (ws := wsL_next) B.pre)) hK hA HR hlo (by decide) (by decide) (by decide) (by decide) (fun pc dg v X H locs ls cl sl h1 h2 hk hW hS => (w_iretA B.exec B.bytes hr hlocks hW hS hk dg).widen (by omega) (by omega)) hW va_S.rf hl hw
