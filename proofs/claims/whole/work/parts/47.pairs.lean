-- ===== one call on both sides =====
def Pair (l : Launch) (g : GG) (lay : LY) (o : Nat) (sv : Nat → Option Nat) (q : Nat) (E : ES) (yc : MethodName) (wsc : List Cond) (rmc : Room) (Ac : List Value) (ym : MethodName) (wsm : List Cond) (rmm : Room) (Am : List Value) : Prop := ∃ (r : Int32) (Fc : Int32 → ES → Prop), JMi l g lay yc wsc rmc (.ref o :: Ac) E Fc ∧ ∀ (r1 : Int32) (E1 : ES), Fc r1 E1 → r1 = r ∧ ∃ Fm : Int32 → ES → Prop, JMi l g lay ym wsm rmm (.ref (o + 56) :: Am) E1 Fm ∧ ∀ (r2 : Int32) (E2 : ES), Fm r2 E2 → r2 = r ∧ Inv q o sv E2
section PR
variable {l : Launch} {g : GG} {lay : LY} {o q q' : Nat} {sv : Nat → Option Nat} {E : ES} {yc ym : MethodName} {wsc wsm : List Cond} {rmc rmm : Room} {Ac Am : List Value}
theorem Pair.mono (h : Pair l g lay o sv q E yc wsc rmc Ac ym wsm rmm Am) (hq : q ≤ q') : Pair l g lay o sv q' E yc wsc rmc Ac ym wsm rmm Am := by
  obtain ⟨r, Fc, a, b⟩ := h
  refine ⟨r, Fc, a, fun r1 E1 h1 => ?_⟩
  obtain ⟨e, Fm, c, d⟩ := b r1 E1 h1
  exact ⟨e, Fm, c, fun r2 E2 h2 => ⟨(d r2 E2 h2).1, Inv_q hq (d r2 E2 h2).2⟩⟩
theorem pair_T {wc : (Int32 → ES → Prop) → Prop} {wm : ES → (Int32 → ES → Prop) → Prop} (hT : Top q o sv wc wm) (hc : ∀ K : Int32 → ES → Prop, wc K → JMi l g lay yc wsc rmc (.ref o :: Ac) E (fun r E1 => K r E1)) (hm : ∀ (E1 : ES) (K : Int32 → ES → Prop), wm (vw (o + 56) E1) K → JMi l g lay ym wsm rmm (.ref (o + 56) :: Am) E1 (fun r E2 => ∃ X1 : ES, E2 = put 7 (o + 56) X1 E1 ∧ K r X1)) : Pair l g lay o sv q E yc wsc rmc Ac ym wsm rmm Am := by
  obtain ⟨r, E1, M2, s1, s2, s3⟩ := hT
  refine ⟨r, _, hc (fun r' E' => r' = r ∧ E' = E1) (s1 _ ⟨rfl, rfl⟩), fun r1 E1' h1 => ?_⟩
  obtain ⟨h1, h2⟩ := h1
  subst h2
  refine ⟨h1, _, hm _ (fun r' X' => r' = r ∧ X' = M2) (s2 _ ⟨rfl, rfl⟩), fun r2 E2 h3 => ?_⟩
  obtain ⟨X1, e, h4, h5⟩ := h3
  subst h5
  exact ⟨h4, by rw [e]; exact s3⟩
theorem pair_Q {wc : (Int32 → Prop) → Prop} {wm : ES → (Int32 → Prop) → Prop} (hI : Inv q o sv E) (hT : TopQ o E wc wm) (hc : ∀ K : Int32 → Prop, wc K → JMi l g lay yc wsc rmc (.ref o :: Ac) E (fun r E1 => E1 = E ∧ K r)) (hm : ∀ K : Int32 → Prop, wm (vw (o + 56) E) K → JMi l g lay ym wsm rmm (.ref (o + 56) :: Am) E (fun r E2 => E2 = E ∧ K r)) : Pair l g lay o sv q E yc wsc rmc Ac ym wsm rmm Am := by
  obtain ⟨r, s1, s2⟩ := hT
  refine ⟨r, _, hc (fun r' => r' = r) (s1 _ rfl), fun r1 E1 h1 => ?_⟩
  obtain ⟨h1, h2⟩ := h1
  subst h1
  refine ⟨h2, _, hm (fun r' => r' = r) (s2 _ rfl), fun r2 E2 h3 => ⟨h3.2, by rw [h3.1]; exact hI⟩⟩
theorem pair_F {wc : (Int32 → Prop) → Prop} {wm : ES → (Int32 → ES → Prop) → Prop} (hT : ∃ (r : Int32) (M2 : ES), (∀ K : Int32 → Prop, K r → wc K) ∧ (∀ K : Int32 → ES → Prop, K r M2 → wm (vw (o + 56) E) K) ∧ Inv q o sv (put 7 (o + 56) M2 E)) (hc : ∀ K : Int32 → Prop, wc K → JMi l g lay yc wsc rmc (.ref o :: Ac) E (fun r E1 => E1 = E ∧ K r)) (hm : ∀ K : Int32 → ES → Prop, wm (vw (o + 56) E) K → JMi l g lay ym wsm rmm (.ref (o + 56) :: Am) E (fun r E2 => ∃ X1 : ES, E2 = put 7 (o + 56) X1 E ∧ K r X1)) : Pair l g lay o sv q E yc wsc rmc Ac ym wsm rmm Am := by
  obtain ⟨r, M2, s1, s2, s3⟩ := hT
  refine ⟨r, _, hc (fun r' => r' = r) (s1 _ rfl), fun r1 E1 h1 => ?_⟩
  obtain ⟨h1, h2⟩ := h1
  subst h1
  refine ⟨h2, _, hm (fun r' X' => r' = r ∧ X' = M2) (s2 _ ⟨rfl, rfl⟩), fun r2 E2 h3 => ?_⟩
  obtain ⟨X1, e, h4, h5⟩ := h3
  subst h5
  exact ⟨h4, by rw [e]; exact s3⟩
theorem P_setUp (hA : okL g lay) (HR : RL4 g lay o sv) (HM : ML g lay (o + 56)) (hI : Inv q o sv E) (hq : q + 64 < 2 ^ 30) (p1 : Int32) (p2 : Int32) : Pair l g lay o sv (q + 64) E yX4_setUp wsX4_setUp rmX4_setUp [.int p1, .int p2] yX5_setUp wsX5_setUp rmX5_setUp [.int p1, .int p2] :=
  (pair_T (top_X (wc := wp_X4_setUp o E p1 p2) (wm := fun M => wp_X5_setUp M p1 p2) (q' := q) hI (by omega) (fun nf h N G hR ht => x_setUp hR ht p1 p2)) (fun K hw => c_X4_setUp hA HR hw) (fun E1 K hw => c_X5_setUp hA HM (fun _ _ => rfl) hw)).mono (by omega)
theorem P_set (hA : okL g lay) (HR : RL4 g lay o sv) (HM : ML g lay (o + 56)) (hI : Inv q o sv E) (hq : q + 64 < 2 ^ 30) (p1 : Int32) (p2 : Int32) : Pair l g lay o sv (q + 64) E yX4_set wsX4_set rmX4_set [.int p1, .int p2] yX5_set wsX5_set rmX5_set [.int p1, .int p2] :=
  (pair_T (top_X (wc := wp_X4_set o E p1 p2) (wm := fun M => wp_X5_set M p1 p2) (q' := q) hI (by omega) (fun nf h N G hR ht => x_set hR ht p1 p2)) (fun K hw => c_X4_set hA HR hw) (fun E1 K hw => c_X5_set hA HM (fun _ _ => rfl) hw)).mono (by omega)
theorem P_lift (hA : okL g lay) (HR : RL4 g lay o sv) (HM : ML g lay (o + 56)) (hI : Inv q o sv E) (hq : q + 64 < 2 ^ 30) (p1 : Int32) : Pair l g lay o sv (q + 64) E yX4_lift wsX4_lift rmX4_lift [.int p1] yX5_lift wsX5_lift rmX5_lift [.int p1] :=
  (pair_T (top_X (wc := wp_X4_lift o E p1) (wm := fun M => wp_X5_lift M p1) (q' := q + 1) hI (by omega) (fun nf h N G hR ht => x_lift hR ht p1)) (fun K hw => c_X4_lift hA HR hw) (fun E1 K hw => c_X5_lift hA HM (fun _ _ => rfl) hw)).mono (by omega)
theorem P_hang (hA : okL g lay) (HR : RL4 g lay o sv) (HM : ML g lay (o + 56)) (hI : Inv q o sv E) (hq : q + 64 < 2 ^ 30) (p1 : Int32) : Pair l g lay o sv (q + 64) E yX4_hang wsX4_hang rmX4_hang [.int p1] yX5_hang wsX5_hang rmX5_hang [.int p1] :=
  (pair_T (top_X (wc := wp_X4_hang o E p1) (wm := fun M => wp_X5_hang M p1) (q' := q) hI (by omega) (fun nf h N G hR ht => x_hang hR ht p1)) (fun K hw => c_X4_hang hA HR hw) (fun E1 K hw => c_X5_hang hA HM (fun _ _ => rfl) hw)).mono (by omega)
theorem P_dial (hA : okL g lay) (HR : RL4 g lay o sv) (HM : ML g lay (o + 56)) (hI : Inv q o sv E) (hq : q + 64 < 2 ^ 30) (p1 : Int32) (p2 : Int32) : Pair l g lay o sv (q + 64) E yX4_dial wsX4_dial rmX4_dial [.int p1, .int p2] yX5_dial wsX5_dial rmX5_dial [.int p1, .int p2] :=
  (pair_T (top_X (wc := wp_X4_dial o E p1 p2) (wm := fun M => wp_X5_dial M p1 p2) (q' := q) hI (by omega) (fun nf h N G hR ht => x_dial hR ht p1 p2)) (fun K hw => c_X4_dial hA HR hw) (fun E1 K hw => c_X5_dial hA HM (fun _ _ => rfl) hw)).mono (by omega)
theorem P_tick (hA : okL g lay) (HR : RL4 g lay o sv) (HM : ML g lay (o + 56)) (hI : Inv q o sv E) (hq : q + 64 < 2 ^ 30) (p1 : Int32) : Pair l g lay o sv (q + 64) E yX4_tick wsX4_tick rmX4_tick [.int p1] yX5_tick wsX5_tick rmX5_tick [.int p1] :=
  (pair_T (top_X (wc := wp_X4_tick o E p1) (wm := fun M => wp_X5_tick M p1) (q' := q) hI (by omega) (fun nf h N G hR ht => x_tick hR ht (by omega) p1)) (fun K hw => c_X4_tick hA HR hw) (fun E1 K hw => c_X5_tick hA HM (fun _ _ => rfl) hw)).mono (by omega)
theorem P_line (hA : okL g lay) (HR : RL4 g lay o sv) (HM : ML g lay (o + 56)) (hI : Inv q o sv E) (hq : q + 64 < 2 ^ 30) (p1 : Int32) (p2 : Int32) : Pair l g lay o sv (q + 64) E yX4_line wsX4_line rmX4_line [.int p1, .int p2] yX5_line wsX5_line rmX5_line [.int p1, .int p2] :=
  (pair_Q hI (top_Q (wc := wp_X4_line o E p1 p2) (wm := fun M => wp_X5_line M p1 p2) hI (fun nf h N G hR => line_sim hR (by omega) p1 p2)) (fun K hw => c_X4_line hA HR hw) (fun K hw => c_X5_line hA HM (fun _ _ => rfl) hw)).mono (by omega)
theorem P_finder (hA : okL g lay) (HR : RL4 g lay o sv) (HM : ML g lay (o + 56)) (hI : Inv q o sv E) (hq : q + 64 < 2 ^ 30) (p1 : Int32) (p2 : Int32) : Pair l g lay o sv (q + 64) E yX4_finder wsX4_finder rmX4_finder [.int p1, .int p2] yX5_finder wsX5_finder rmX5_finder [.int p1, .int p2] :=
  (pair_Q hI (top_Q (wc := wp_X4_finder o E p1 p2) (wm := fun M => wp_X5_finder M p1 p2) hI (fun nf h N G hR => finder_sim hR p1 p2)) (fun K hw => c_X4_finder hA HR hw) (fun K hw => c_X5_finder hA HM (fun _ _ => rfl) hw)).mono (by omega)
theorem P_connector (hA : okL g lay) (HR : RL4 g lay o sv) (HM : ML g lay (o + 56)) (hI : Inv q o sv E) (hq : q + 64 < 2 ^ 30) (p1 : Int32) (p2 : Int32) : Pair l g lay o sv (q + 64) E yX4_connector wsX4_connector rmX4_connector [.int p1, .int p2] yX5_connector wsX5_connector rmX5_connector [.int p1, .int p2] :=
  (pair_Q hI (top_Q (wc := wp_X4_connector o E p1 p2) (wm := fun M => wp_X5_connector M p1 p2) hI (fun nf h N G hR => connector_sim hR p1 p2)) (fun K hw => c_X4_connector hA HR hw) (fun K hw => c_X5_connector hA HM (fun _ _ => rfl) hw)).mono (by omega)
theorem P_count (hA : okL g lay) (HR : RL4 g lay o sv) (HM : ML g lay (o + 56)) (hI : Inv q o sv E) (hq : q + 64 < 2 ^ 30) (p1 : Int32) : Pair l g lay o sv (q + 64) E yX4_count wsX4_count rmX4_count [.int p1] yX5_count wsX5_count rmX5_count [.int p1] :=
  (pair_Q hI (top_count hI p1) (fun K hw => c_X4_count hA HR hw) (fun K hw => c_X5_count hA HM (fun _ _ => rfl) hw)).mono (by omega)
theorem P_trace (hA : okL g lay) (HR : RL4 g lay o sv) (HM : ML g lay (o + 56)) (hI : Inv q o sv E) (hq : q + 64 < 2 ^ 30) (p1 : Int32) (p2 : Int32) : Pair l g lay o sv (q + 64) E yX4_trace wsX4_trace rmX4_trace [.int p1, .int p2] yX5_trace wsX5_trace rmX5_trace [.int p1, .int p2] :=
  (pair_Q hI (top_Q (wc := wp_X4_trace o E p1 p2) (wm := fun M => wp_X5_trace M p1 p2) hI (fun nf h N G hR => trace_sim hR p1 p2)) (fun K hw => c_X4_trace hA HR hw) (fun K hw => c_X5_trace hA HM (fun _ _ => rfl) hw)).mono (by omega)
theorem P_until (hA : okL g lay) (HR : RL4 g lay o sv) (HM : ML g lay (o + 56)) (hI : Inv q o sv E) (hq : q + 64 < 2 ^ 30) (p1 : Int32) (p2 : Int32) (p3 : Int32) : Pair l g lay o sv (q + 64) E yX4_until wsX4_until rmX4_until [.int p1, .int p2, .int p3] yX5_until wsX5_until rmX5_until [.int p1, .int p2, .int p3] :=
  (pair_T (top_U (wc := wp_X4_until o E p1 p2 p3) (wm := fun M => wp_X5_until M p1 p2 p3) hI (fun nf h N G hR hM hT => x_until hR (by omega) hM hT p1 p2 p3)) (fun K hw => c_X4_until hA HR hw) (fun E1 K hw => c_X5_until hA HM (fun _ _ => rfl) hw)).mono (by omega)
theorem P_attempt (hA : okL g lay) (HR : RL4 g lay o sv) (HM : ML g lay (o + 56)) (hI : Inv q o sv E) (hq : q + 64 < 2 ^ 30) (p1 : Int32) (p2 : Int32) (p3 : Int32) : Pair l g lay o sv (q + 64) E yX4_attempt wsX4_attempt rmX4_attempt [.int p1, .int p2, .int p3] yX5_attempt wsX5_attempt rmX5_attempt [.int p1, .int p2, .int p3] :=
  (pair_T (top_U (wc := wp_X4_attempt o E p1 p2 p3) (wm := fun M => wp_X5_attempt M p1 p2 p3) hI (fun nf h N G hR hM hT => x_attempt hR (by omega) hM hT p1 p2 p3)) (fun K hw => c_X4_attempt hA HR hw) (fun E1 K hw => c_X5_attempt hA HM (fun _ _ => rfl) hw)).mono (by omega)
theorem P_put (hA : okL g lay) (HR : RL4 g lay o sv) (HM : ML g lay (o + 56)) (hI : Inv q o sv E) (hq : q + 64 < 2 ^ 30) (p1 : Int64) : Pair l g lay o sv (q + 64) E yX4_put wsX4_put rmX4_put [.long p1] yX5_put wsX5_put rmX5_put [.long p1] :=
  (pair_T (top_put hI p1) (fun K hw => c_X4_put hA HR hw) (fun E1 K hw => c_X5_put hA HM (fun _ _ => rfl) hw)).mono (by omega)
theorem P_wipe (hA : okL g lay) (HR : RL4 g lay o sv) (HM : ML g lay (o + 56)) (hI : Inv q o sv E) (hq : q + 64 < 2 ^ 30) : Pair l g lay o sv (q + 64) E yX4_wipe wsX4_wipe rmX4_wipe [] yX5_wipe wsX5_wipe rmX5_wipe [] :=
  (pair_T (top_wipe hI) (fun K hw => c_X4_wipe hA HR hw) (fun E1 K hw => c_X5_wipe hA HM (fun _ _ => rfl) hw)).mono (by omega)
theorem P_fault (hA : okL g lay) (HR : RL4 g lay o sv) (HM : ML g lay (o + 56)) (hI : Inv q o sv E) (hq : q + 64 < 2 ^ 30) : Pair l g lay o sv (q + 64) E yX4_fault wsX4_fault rmX4_fault [] yX5_fault wsX5_fault rmX5_fault [] :=
  (pair_F (top_fault hI) (fun K hw => c_X4_fault hA HR hw) (fun K hw => c_X5_fault hA HM (fun _ _ => rfl) hw)).mono (by omega)
theorem P_carryOut (hA : okL g lay) (HR : RL4 g lay o sv) (HM : ML g lay (o + 56)) (hI : Inv q o sv E) (hq : q + 64 < 2 ^ 30) : Pair l g lay o sv (q + 64) E yX4_carryOut wsX4_carryOut rmX4_carryOut [] yX5_carryOut wsX5_carryOut rmX5_carryOut [] :=
  (pair_T (top_carry hI (by omega)) (fun K hw => c_X4_carryOut hA HR hw) (fun E1 K hw => c_X5_carryOut hA HM (fun _ _ => rfl) hw)).mono (by omega)
theorem P_restore (hA : okL g lay) (HR : RL4 g lay o sv) (HM : ML g lay (o + 56)) (hI : Inv q o sv E) (hq : q + 64 < 2 ^ 30) (HS : SL g lay o sv) (p1 : Int32) : Pair l g lay o sv (q + 64) E yX4_restore wsX4_restore rmX4_restore [.int p1] yX5_restore wsX5_restore rmX5_restore [.int p1] :=
  (pair_T (top_restore hI p1) (fun K hw => c_X4_restore hA HR HS hw) (fun E1 K hw => c_X5_restore hA HM (fun _ _ => rfl) hw)).mono (by omega)
end PR
