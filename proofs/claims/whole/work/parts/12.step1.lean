theorem lix_nI {c : Nat} (h : c < 16) : lix (nI c) = 6 + c := by
  unfold lix
  have h1 : ¬ (nI c < 0 ∨ 16 ≤ nI c) := by
    intro z
    rcases z with z | z
    · exact nI_pos (by omega) z
    · exact absurd z (nI_ge (b := 16) h (by decide))
  rw [if_neg h1, nI_clamp (by omega)]
theorem fix_nI {c : Nat} (h : c < 4) : fix (nI c) = 22 + c := by
  unfold fix
  have h1 : ¬ (nI c < 0 ∨ 4 ≤ nI c) := by
    intro z
    rcases z with z | z
    · exact nI_pos (by omega) z
    · exact absurd z (nI_ge (b := 4) h (by decide))
  rw [if_neg h1, nI_clamp (by omega)]
theorem lix_m6 : lix (-6) = 3 := by decide
theorem fix_m6 : fix (-6) = 4 := by decide
def RunC (X : ES) (k : Nat) (X' : ES) : Prop := ∀ K : ES → Prop, K X' → wp_X0_takeStep X k K
def RunM (M : ES) (f : Int32) (M' : ES) : Prop := ∀ K : ES → Prop, K M' → wp_X5_stepFinder M f K
/-- what a step does to lines that have a tone or dial -/
def S6 (x : Int32) : Prop := x = 3 ∨ x = 4 ∨ x = 8 ∨ x = 9 ∨ x = 10 ∨ x = 11
def go (L : CS) : Prop := L 0 = 3 ∨ (L 0 = 2 ∧ ¬ L 5 = 0)
def StP (X X' : ES) (f : Nat) : Prop := (∀ i, i < 16 → ¬ X (6 + i) 6 = nI f → ¬ X (6 + i) 0 = 0 → X' (6 + i) = X (6 + i)) ∧ (∀ i, i < 16 → X (6 + i) 6 = nI f → go (X (6 + i)) → S6 (X' (6 + i) 0) ∧ (X' (6 + i) 6 = nI f ∨ X' (6 + i) 6 = -6)) ∧ X' 0 7 = X 0 7
theorem XS_one2 {q nf f c : Nat} {X X' : ES} {h h' : CS} {N N' G G' : ES} {F' L' H' N1 G1 : CS} (hR : XR q nf X h N G) (hf : f < nf) (hc : c < 16) (hm0 : ¬ X (22 + f) 0 = 0) (hm7 : ¬ X (22 + f) 0 = 7) (hm8 : ¬ X (22 + f) 0 = 8) (hcf : X (22 + f) 2 = nI c)
    (eF : X' (22 + f) = F') (eL : X' (6 + c) = L') (eH : X' 0 = H') (eO : ∀ k, ¬ k = 22 + f → ¬ k = 6 + c → ¬ k = 0 → X' k = X k) (eN : N' = va_up N c N1) (eG : G' = va_up G f G1)
    (hH : HRr q nf (X 3) H' (X 5) h') (hF : FR F' G1) (hL : LR q L' N1)
    (hz : (F' 0 = 0 ∧ L' 6 = -6 ∧ (L' 0 = 0 ∨ L' 0 = 1 ∨ L' 0 = 10 ∨ L' 0 = 11)) ∨ (¬ F' 0 = 0 ∧ ¬ F' 0 = 7 ∧ ¬ F' 0 = 8 ∧ F' 2 = nI c ∧ L' 6 = nI f ∧ smt (F' 0) (L' 0)))
    (hg : go (X (6 + c)) → S6 (L' 0) ∧ (L' 6 = nI f ∨ L' 6 = -6)) (hT7 : H' 7 = X 0 7) : XR q nf X' h' N' G' ∧ StP X X' f := by
  have h4 : nf ≤ 4 := hR.1.2.1.2.1
  refine ⟨XR_one2 hR hf hc hm0 hm7 hm8 hcf eF eL eH eO eN eG hH hF hL hz, fun i hi hp _ => ?_, fun i hi hp h => ?_, by rw [eH]; exact hT7⟩
  · obtain ⟨c', hc', e1, e2, -⟩ := hR.2.2.2.1 f (by omega) hm0
    have e := nI_inj (by omega) (by omega) (hcf.symm.trans e1)
    subst e
    exact eO _ (by omega) (fun z => hp (by rw [show i = c by omega]; exact e2)) (by omega)
  · rcases (XR_ptr hR (by omega) hi hp).2 with a | ⟨a, -⟩
    · have e := nI_inj (by omega) (by omega) (hcf.symm.trans a)
      subst e
      rw [eL]; exact hg h
    · rcases a with a | a
      · exact absurd a hm7
      · exact absurd a hm8
theorem XS_two2 {q nf f c t : Nat} {X X' : ES} {h h' : CS} {N N' G G' : ES} {F' L' T' H' N1 N2 G1 : CS} (hR : XR q nf X h N G) (hf : f < nf) (hc : c < 16) (ht : t < 16) (hct : ¬ t = c) (hm0 : ¬ X (22 + f) 0 = 0) (hcf : X (22 + f) 2 = nI c) (hpt : X (6 + t) 6 = nI f ∨ X (6 + t) 6 = -6) (hu : (X (22 + f) 0 = 7 ∨ X (22 + f) 0 = 8) → X (22 + f) 9 = nI t)
    (eF : X' (22 + f) = F') (eL : X' (6 + c) = L') (eT : X' (6 + t) = T') (eH : X' 0 = H') (eO : ∀ k, ¬ k = 22 + f → ¬ k = 6 + c → ¬ k = 6 + t → ¬ k = 0 → X' k = X k) (eN : N' = va_up (va_up N c N1) t N2) (eG : G' = va_up G f G1)
    (hH : HRr q nf (X 3) H' (X 5) h') (hF : FR F' G1) (hL : LR q L' N1) (hT : LR q T' N2)
    (z1 : ¬ F' 0 = 0 → F' 2 = nI c ∧ L' 6 = nI f ∧ smt (F' 0) (L' 0)) (z2 : (F' 0 = 7 ∨ F' 0 = 8) → F' 9 = nI t ∧ T' 6 = nI f ∧ ((F' 0 = 7 ∧ T' 0 = 5) ∨ (F' 0 = 8 ∧ T' 0 = 7)))
    (z3 : (L' 6 = -6 ∧ (L' 0 = 0 ∨ L' 0 = 1 ∨ L' 0 = 10 ∨ L' 0 = 11)) ∨ (L' 6 = nI f ∧ ¬ F' 0 = 0 ∧ F' 2 = nI c)) (z4 : (T' 6 = -6 ∧ (T' 0 = 0 ∨ T' 0 = 1 ∨ T' 0 = 10 ∨ T' 0 = 11)) ∨ (T' 6 = nI f ∧ (F' 0 = 7 ∨ F' 0 = 8) ∧ F' 9 = nI t))
    (hg : go (X (6 + c)) → S6 (L' 0) ∧ (L' 6 = nI f ∨ L' 6 = -6)) (hg2 : ¬ go (X (6 + t))) (hg3 : X (6 + t) 6 = nI f ∨ X (6 + t) 0 = 0) (hT7 : H' 7 = X 0 7) : XR q nf X' h' N' G' ∧ StP X X' f := by
  have h4 : nf ≤ 4 := hR.1.2.1.2.1
  refine ⟨XR_two2 hR hf hc ht hct hm0 hcf hpt hu eF eL eT eH eO eN eG hH hF hL hT z1 z2 z3 z4, fun i hi hp h0 => ?_, fun i hi hp h => ?_, by rw [eH]; exact hT7⟩
  · obtain ⟨c', hc', e1, e2, -⟩ := hR.2.2.2.1 f (by omega) hm0
    have e := nI_inj (by omega) (by omega) (hcf.symm.trans e1)
    subst e
    refine eO _ (by omega) (fun z => hp (by rw [show i = c by omega]; exact e2)) (fun z => ?_) (by omega)
    have e : i = t := by omega
    subst e
    rcases hg3 with z | z
    · exact hp z
    · exact h0 z
  · rcases (XR_ptr hR (by omega) hi hp).2 with a | ⟨a, b⟩
    · have e := nI_inj (by omega) (by omega) (hcf.symm.trans a)
      subst e
      rw [eL]; exact hg h
    · have e := nI_inj (by omega) (by omega) ((hu a).symm.trans b)
      subst e
      exact absurd h hg2
def SimS (q nf : Nat) (X : ES) (h : CS) (N G : ES) (f : Nat) : Prop := ∃ (X' : ES) (h' : CS) (N' G' : ES), RunC X (22 + f) X' ∧ (∀ Z : ES, RunM (ms Z h N G) (nI f) (ms Z h' N' G')) ∧ XR q nf X' h' N' G' ∧ StP X X' f
theorem simI {q nf : Nat} {X X' : ES} {h h' : CS} {N G N' G' : ES} {f : Nat} (a : ∀ K : ES → Prop, K X' → wp_X0_takeStep X (22 + f) K) (b : ∀ (Z : ES) (K : ES → Prop), K (ms Z h' N' G') → wp_X5_stepFinder (ms Z h N G) (nI f) K) (c : XR q nf X' h' N' G' ∧ StP X X' f) : SimS q nf X h N G f := ⟨X', h', N', G', a, b, c⟩
theorem pos_next {p : Nat} (h : p < 16) : nI p + 1 - (nI p + 1) / 16 * 16 = nI ((p + 1) % 16) := by
  rw [nI_1]
  exact pk_rem (a := p + 1) (d := 16) (by omega) (by decide) (by decide)
theorem nle_s {p : Nat} (h : p < 100) : ¬ nI (p + 1) ≤ 0 := nI_nle (by omega) (by omega)
theorem ne_s {p : Nat} (h : p < 100) : ¬ nI (p + 1) = 0 := nI_ne0 (by omega) (by omega)
theorem nneg_s {p : Nat} (h : p < 100) : ¬ nI p < 0 := nI_pos (by omega)
theorem LD_keep {L N L' N' : CS} {ds : List Nat} (h : LD L N ds) (e4 : L' 4 = L 4) (e10 : N' 10 = N 10) (a6 : N' 6 = N 6) (a7 : N' 7 = N 7) (a8 : N' 8 = N 8) (a9 : N' 9 = N 9) : LD L' N' ds := by
  obtain ⟨d1, d2, d3, d4, d5⟩ := h
  refine ⟨d1, d2, e10.trans d3, fun k v hk => ?_, e4.trans d5⟩
  have hl : k < ds.length := (List.getElem?_eq_some_iff.mp hk).1
  rw [← d4 k v hk]
  rcases (show k = 0 ∨ k = 1 ∨ k = 2 ∨ k = 3 by omega) with rfl | rfl | rfl | rfl
  · exact a6
  · exact a7
  · exact a8
  · exact a9
/-- the class's holder of a connector, and the model's -/
theorem hold_one {L G : CS} {K : Int32 → Prop} (hz : L 0 = 5 ∨ L 0 = 6 ∨ L 0 = 7 ∨ L 0 = 8) (hK : K 1) : wp_X1_holdsConnector L K := by
  unfold wp_X1_holdsConnector
  exact ⟨fun _ => hK, fun z5 => ⟨fun _ => hK, fun z6 => ⟨fun _ => hK, fun z7 => ⟨fun _ => hK, fun z8 => by
    rcases hz with e | e | e | e
    · exact absurd e z5
    · exact absurd e z6
    · exact absurd e z7
    · exact absurd e z8⟩⟩⟩⟩
theorem hold_zero {L : CS} {K : Int32 → Prop} (hz : ¬ (L 0 = 5 ∨ L 0 = 6 ∨ L 0 = 7 ∨ L 0 = 8)) (hK : K 0) : wp_X1_holdsConnector L K := by
  unfold wp_X1_holdsConnector
  exact ⟨fun z => absurd (Or.inl z) hz, fun _ => ⟨fun z => absurd (Or.inr (Or.inl z)) hz, fun _ => ⟨fun z => absurd (Or.inr (Or.inr (Or.inl z))) hz, fun _ => ⟨fun z => absurd (Or.inr (Or.inr (Or.inr z))) hz, fun _ => hK⟩⟩⟩⟩
def isHd (x : Int32) : Prop := x = 5 ∨ x = 6 ∨ x = 7 ∨ x = 8
theorem in_yes {v lo hi : Int32} {K : Int32 → Prop} (h1 : ¬ v < lo) (h2 : ¬ hi < v) (hK : K 1) : wp_X5_in v lo hi K := ⟨fun z => absurd z h1, fun _ => ⟨fun z => absurd z h2, fun _ => hK⟩⟩
theorem in_no {v lo hi : Int32} {K : Int32 → Prop} (h : v < lo ∨ hi < v) (hK : K 0) : wp_X5_in v lo hi K := ⟨fun _ => hK, fun z => ⟨fun _ => hK, fun z2 => absurd h (fun w => w.elim z z2)⟩⟩
/-- a finder's mode is one of ten -/
theorem FM_modes {F : CS} {S : Int32} (h : FM F S) : F 0 = 0 ∨ F 0 = 1 ∨ F 0 = 2 ∨ F 0 = 3 ∨ F 0 = 4 ∨ F 0 = 5 ∨ F 0 = 6 ∨ F 0 = 7 ∨ F 0 = 8 ∨ F 0 = 9 := by
  rcases h with h | h | h | h | h | h | h | h | h | h <;> simp [h.1]
theorem isHolding_q {q nf f : Nat} {X : ES} {h : CS} {N G : ES} (hR : XR q nf X h N G) (hf : f < 4) (Z : ES) (K : Int32 → Prop) (hK : (isHd (X (22 + f) 0) → K 1) ∧ (¬ isHd (X (22 + f) 0) → K 0)) : wp_X5_isHolding (ms Z h N G) (nI f) K := by
  unfold wp_X5_isHolding
  rw [ofF_0 hf, ← (hR.2.2.1 f hf).1.1]
  have hm := FM_modes (hR.2.2.1 f hf).2.2
  unfold isHd at hK
  rcases hm with e | e | e | e | e | e | e | e | e | e
  · exact in_no (by rw [e]; decide) (hK.2 (by rw [e]; decide))
  · exact in_no (by rw [e]; decide) (hK.2 (by rw [e]; decide))
  · exact in_no (by rw [e]; decide) (hK.2 (by rw [e]; decide))
  · exact in_no (by rw [e]; decide) (hK.2 (by rw [e]; decide))
  · exact in_no (by rw [e]; decide) (hK.2 (by rw [e]; decide))
  · exact in_yes (by rw [e]; decide) (by rw [e]; decide) (hK.1 (by rw [e]; decide))
  · exact in_yes (by rw [e]; decide) (by rw [e]; decide) (hK.1 (by rw [e]; decide))
  · exact in_yes (by rw [e]; decide) (by rw [e]; decide) (hK.1 (by rw [e]; decide))
  · exact in_yes (by rw [e]; decide) (by rw [e]; decide) (hK.1 (by rw [e]; decide))
  · exact in_no (by rw [e]; decide) (hK.2 (by rw [e]; decide))
theorem holds_q {X : ES} {f : Nat} (K : Int32 → Prop) (hK : (isHd (X (22 + f) 0) → K 1) ∧ (¬ isHd (X (22 + f) 0) → K 0)) : wp_X1_holdsConnector (X (22 + f)) K := by
  by_cases e : isHd (X (22 + f) 0)
  · exact hold_one (G := X 0) e (hK.1 e)
  · exact hold_zero e (hK.2 e)
/-- the first finder at or behind i that holds it -/
theorem hold_loop {q nf : Nat} {X : ES} {h : CS} {N G : ES} (hR : XR q nf X h N G) (a b : Int32) : ∀ j i : Nat, i + j = nf → ∃ r : Int32, (r = -6 ∨ ∃ k, k < 4 ∧ r = nI k) ∧ (∀ (K Kx : Int32 → Prop), (∀ x, K (-6) → Kx x) → K r → wpl_X0_holderOf_2 X a b K Kx (j + 1) (nI i)) ∧ ∀ (Z : ES) (K Kx : Int32 → Prop), (∀ x, K (-6) → Kx x) → K r → wpl_X5_holder_2 (ms Z h N G) a b K Kx (j + 1) (nI i)
  | 0, i, he => by
    have h4 : nf ≤ 4 := hR.1.2.1.2.1
    have e : i = nf := by omega
    subst e
    refine ⟨-6, Or.inl rfl, fun K Kx hx hK => ?_, fun Z K Kx hx hK => ?_⟩
    · rw [wpl_X0_holderOf_2, hR.1.2.1.2.2.2]
      exact ⟨fun _ => hx _ hK, fun z => absurd (nI_le (Nat.le_refl _) (by omega)) z⟩
    · rw [wpl_X5_holder_2, hd_1, hR.1.2.1.2.2.1]
      exact ⟨vpl (n := 1) rfl (by decide), fun _ => hx _ hK, fun z => absurd (nI_le (Nat.le_refl _) (by omega)) z⟩
  | j + 1, i, he => by
    have h4 : nf ≤ 4 := hR.1.2.1.2.1
    have hi : i < 4 := by omega
    have hlt : ¬ nI nf ≤ nI i := nI_ge (by omega) (by omega)
    have g := (hR.2.2.1 i hi).1
    obtain ⟨r, r1, r2, r3⟩ := hold_loop hR a b j (i + 1) (by omega)
    by_cases hh : isHd (X (22 + i) 0) ∧ X (22 + i) 3 = a ∧ X (22 + i) 4 = b
    · refine ⟨nI i, Or.inr ⟨i, hi, rfl⟩, fun K Kx hx hK => ?_, fun Z K Kx hx hK => ?_⟩
      · rw [wpl_X0_holderOf_2, hR.1.2.1.2.2.2, fix_nI hi]
        exact ⟨fun z => absurd z hlt, fun _ => holds_q _ ⟨fun _ => ⟨fun z => absurd z (by decide), fun _ => ⟨fun _ => ⟨fun _ => hK, fun z => absurd hh.2.2 z⟩, fun z => absurd hh.2.1 z⟩⟩, fun z => absurd hh.1 z⟩⟩
      · rw [wpl_X5_holder_2, hd_1, hR.1.2.1.2.2.1]
        refine ⟨vpl (n := 1) rfl (by decide), fun z => absurd z hlt, fun _ => isHolding_q hR hi Z _ ⟨fun _ => ⟨fun z => absurd z (by decide), fun _ => ?_⟩, fun z => absurd hh.1 z⟩⟩
        rw [ofF_3 hi, ← g.2.2.2.1]
        refine ⟨fun _ => ?_, fun z => absurd hh.2.1 z⟩
        rw [ofF_4 hi, ← g.2.2.2.2.1]
        exact ⟨fun _ => hK, fun z => absurd hh.2.2 z⟩
    · refine ⟨r, r1, fun K Kx hx hK => ?_, fun Z K Kx hx hK => ?_⟩
      · have nxt := r2 K Kx hx hK
        rw [wpl_X0_holderOf_2, hR.1.2.1.2.2.2, fix_nI hi]
        refine ⟨fun z => absurd z hlt, fun _ => holds_q _ ⟨fun y1 => ⟨fun z => absurd z (by decide), fun _ => ⟨fun y2 => ⟨fun y3 => absurd ⟨y1, y2, y3⟩ hh, fun _ v ev => ?_⟩, fun _ v ev => ?_⟩⟩, fun _ => ⟨fun _ v ev => ?_, fun z => absurd rfl z⟩⟩⟩ <;>
          (rw [ev, nI_1]; exact nxt)
      · have nxt := r3 Z K Kx hx hK
        rw [wpl_X5_holder_2, hd_1, hR.1.2.1.2.2.1]
        refine ⟨vpl (n := 1) rfl (by decide), fun z => absurd z hlt, fun _ => isHolding_q hR hi Z _ ⟨fun y1 => ⟨fun z => absurd z (by decide), fun _ => ?_⟩, fun _ => ⟨fun _ v ev => by rw [ev, nI_1]; exact nxt, fun z => absurd rfl z⟩⟩⟩
        rw [ofF_3 hi, ← g.2.2.2.1]
        refine ⟨fun y2 => ?_, fun _ v ev => by rw [ev, nI_1]; exact nxt⟩
        rw [ofF_4 hi, ← g.2.2.2.2.1]
        exact ⟨fun y3 => absurd ⟨y1, y2, y3⟩ hh, fun _ v ev => by rw [ev, nI_1]; exact nxt⟩
theorem hold_sim {q nf : Nat} {X : ES} {h : CS} {N G : ES} (hR : XR q nf X h N G) (a b : Int32) : ∃ r : Int32, (r = -6 ∨ ∃ k, k < 4 ∧ r = nI k) ∧ (∀ K : Int32 → Prop, K r → wp_X0_holderOf X a b K) ∧ ∀ (Z : ES) (K : Int32 → Prop), K r → wp_X5_holder (ms Z h N G) a b K := by
  obtain ⟨r, r1, r2, r3⟩ := hold_loop hR a b nf 0 (by omega)
  exact ⟨r, r1, fun K hK => ⟨nf + 1, r2 K _ (fun _ z => z) hK⟩, fun Z K hK => ⟨nf + 1, r3 Z K _ (fun _ z => z) hK⟩⟩
set_option maxHeartbeats 2000000 in
theorem sim_seek {q nf f : Nat} {X : ES} {h : CS} {N G : ES} (hR : XR q nf X h N G) (hf : f < nf) (hm : X (22 + f) 0 = 1) : SimS q nf X h N G f := by
  have h4 : f < 4 := by have := hR.1.2.1.2.1; omega
  obtain ⟨c, hc, hc1, hc2, hc3⟩ := hR.2.2.2.1 f h4 (by rw [hm]; decide)
  obtain ⟨⟨g0, g1, g2, g3, g4, g5, g7, g8, g9⟩, ⟨po, hpo, hpe⟩, hFM⟩ := hR.2.2.1 f h4
  obtain ⟨⟨l0, l1, l2, l3, l5⟩, ds, hD, hS⟩ := hR.2.1 c hc
  obtain ⟨w0, w1, w2, w3, w4⟩ := hR.1.2.2.2.2.2.2.2.1
  have m0 : G f 0 = 1 := g0.symm.trans hm
  have m2 : G f 2 = nI c := g2.symm.trans hc1
  have n1 : ¬ (22 + f = 6 + c) := by omega
  have n2 : ¬ (6 + c = 22 + f) := by omega
  have n3 : ¬ (22 + f = 0) := by omega
  have n4 : ¬ (6 + c = 0) := by omega
  have n5 : ¬ (0 = 22 + f) := by omega
  have n6 : ¬ (0 = 6 + c) := by omega
  have n7 : ¬ (5 = 22 + f) := by omega
  have n8 : ¬ (5 = 6 + c) := by omega
  simp [FM, hm] at hFM
  have s0 : X (6 + c) 0 = 1 := by simpa [smt, hm] using hc3
  have z0 : N c 0 = 1 := l0.symm.trans s0
  simp [LSt, z0] at hS
  by_cases hp : X (22 + f) 1 = X (22 + f) 2
  · apply simI
    · intro K hK
      simp only [wp_X0_takeStep, wp_X0_seek, wp_X1_become, forall_eq, hm, hc1, lix_nI hc, vuS, vuU, vuN n1, vuN n2, vuN n3, vuN n4, vuN n5, vuN n6, vuN n7, vuN n8, stg_0, stg_1, stg_2, stg_3, hp]
      simp [updA, hp]
      exact hK
    · intro Z K hK
      simp only [wp_X5_stepFinder, wp_X5_seek, ofF_0 h4, layF_0 h4, ofF_1 h4, layF_1 h4, ofF_2 h4, layF_2 h4, ofF_3 h4, layF_3 h4, ofF_4 h4, layF_4 h4, ofF_5 h4, layF_5 h4, ofF_6 h4, layF_6 h4, ofF_7 h4, layF_7 h4, ofF_8 h4, layF_8 h4, ofF_9 h4, layF_9 h4, of_0 hc, lay_0 hc, of_1 hc, lay_1 hc, of_2 hc, lay_2 hc, of_3 hc, lay_3 hc, of_4 hc, lay_4 hc, of_5 hc, lay_5 hc, of_6 hc, lay_6 hc, of_7 hc, lay_7 hc, of_8 hc, lay_8 hc, of_9 hc, lay_9 hc, of_10 hc, lay_10 hc, cnt_0, cnt_1, cnt_2, cnt_3, cnt_4, cnt_5, cnt_6, set_0, set_1, set_2, set_3, set_4, m0, m2, vuU, vuS, ← g1, hp, hc1]
      simp [updA, m0, m2, ← g1, hp, hc1]
      exact hK
    · refine XS_one2 hR hf hc (by rw [hm]; decide) (by rw [hm]; decide) (by rw [hm]; decide) hc1 (by simp only [vuA, n1, n2, n3, n4, n5, n6, if_true, if_false]; rfl) (by simp only [vuA, n1, n2, n3, n4, n5, n6, if_true, if_false]; rfl) (by simp only [vuA, n1, n2, n3, n4, n5, n6, if_true, if_false]; rfl) (fun k k1 k2 k3 => by simp only [vuA, k1, k2, k3, if_false]) (by first | rfl | exact (vuSelf _ _).symm) (by first | rfl | exact (vuSelf _ _).symm) ?_ ?_ ?_ ?_ ?_ ?_
      · exact HR_10 hR.1
      · simp [FR, FM, frG, updA, ← g0, ← g1, ← g2, ← g3, ← g4, ← g5, ← g7, ← g8, ← g9, hm, hFM, hpe]; exact ⟨po, hpo, rfl⟩
      · exact ⟨by simp [updA, l0, l1, l2, l3, l5], ds, LD_keep hD (by simp [updA]) (by simp [updA]) (by simp [updA]) (by simp [updA]) (by simp [updA]) (by simp [updA]), by simp [LSt, updA, z0, hS]⟩
      · simp [updA, hm, hc1, hc2, smt]
      · exact fun hg => absurd hg (by simp [go, s0])
      · first | rfl | (simp [updA]; done)
  · rw [hc1] at hp
    apply simI
    · intro K hK
      simp only [wp_X0_takeStep, wp_X0_seek, wp_X1_become, forall_eq, hm, hc1, lix_nI hc, vuS, vuU, vuN n1, vuN n2, vuN n3, vuN n4, vuN n5, vuN n6, vuN n7, vuN n8, stg_0, stg_1, stg_2, stg_3, hp]
      simp [updA, hp]
      exact hK
    · intro Z K hK
      simp only [wp_X5_stepFinder, wp_X5_seek, ofF_0 h4, layF_0 h4, ofF_1 h4, layF_1 h4, ofF_2 h4, layF_2 h4, ofF_3 h4, layF_3 h4, ofF_4 h4, layF_4 h4, ofF_5 h4, layF_5 h4, ofF_6 h4, layF_6 h4, ofF_7 h4, layF_7 h4, ofF_8 h4, layF_8 h4, ofF_9 h4, layF_9 h4, of_0 hc, lay_0 hc, of_1 hc, lay_1 hc, of_2 hc, lay_2 hc, of_3 hc, lay_3 hc, of_4 hc, lay_4 hc, of_5 hc, lay_5 hc, of_6 hc, lay_6 hc, of_7 hc, lay_7 hc, of_8 hc, lay_8 hc, of_9 hc, lay_9 hc, of_10 hc, lay_10 hc, cnt_0, cnt_1, cnt_2, cnt_3, cnt_4, cnt_5, cnt_6, set_0, set_1, set_2, set_3, set_4, m0, m2, vuU, vuS, ← g1, hp]
      simp [updA, m0, m2, ← g1, hp]
      exact hK
    · refine XS_one2 hR hf hc (by rw [hm]; decide) (by rw [hm]; decide) (by rw [hm]; decide) hc1 (by simp only [vuA, n1, n2, n3, n4, n5, n6, if_true, if_false]; rfl) (by simp only [vuA, n1, n2, n3, n4, n5, n6, if_true, if_false]; rfl) (by simp only [vuA, n1, n2, n3, n4, n5, n6, if_true, if_false]; rfl) (fun k k1 k2 k3 => by simp only [vuA, k1, k2, k3, if_false]) (by first | rfl | exact (vuSelf _ _).symm) (by first | rfl | exact (vuSelf _ _).symm) ?_ ?_ ?_ ?_ ?_ ?_
      · exact hR.1
      · simp [FR, FM, frG, updA, ← g0, ← g1, ← g2, ← g3, ← g4, ← g5, ← g7, ← g8, ← g9, hm, hFM, hpe]; exact ⟨(po + 1) % 16, by omega, pos_next hpo⟩
      · exact ⟨by simp [updA, l0, l1, l2, l3, l5], ds, LD_keep hD (by simp [updA]) (by simp [updA]) (by simp [updA]) (by simp [updA]) (by simp [updA]) (by simp [updA]), by simp [LSt, updA, z0, hS]⟩
      · simp [updA, hm, hc1, hc2, smt, s0]
      · exact fun hg => absurd hg (by simp [go, s0])
      · first | rfl | (simp [updA]; done)

set_option maxHeartbeats 2000000 in
theorem sim_ready {q nf f : Nat} {X : ES} {h : CS} {N G : ES} (hR : XR q nf X h N G) (hf : f < nf) (hm : X (22 + f) 0 = 2) : SimS q nf X h N G f := by
  have h4 : f < 4 := by have := hR.1.2.1.2.1; omega
  obtain ⟨c, hc, hc1, hc2, hc3⟩ := hR.2.2.2.1 f h4 (by rw [hm]; decide)
  obtain ⟨⟨g0, g1, g2, g3, g4, g5, g7, g8, g9⟩, ⟨po, hpo, hpe⟩, hFM⟩ := hR.2.2.1 f h4
  obtain ⟨⟨l0, l1, l2, l3, l5⟩, ds, hD, hS⟩ := hR.2.1 c hc
  obtain ⟨w0, w1, w2, w3, w4⟩ := hR.1.2.2.2.2.2.2.2.1
  have m0 : G f 0 = 2 := g0.symm.trans hm
  have m2 : G f 2 = nI c := g2.symm.trans hc1
  have n1 : ¬ (22 + f = 6 + c) := by omega
  have n2 : ¬ (6 + c = 22 + f) := by omega
  have n3 : ¬ (22 + f = 0) := by omega
  have n4 : ¬ (6 + c = 0) := by omega
  have n5 : ¬ (0 = 22 + f) := by omega
  have n6 : ¬ (0 = 6 + c) := by omega
  have n7 : ¬ (5 = 22 + f) := by omega
  have n8 : ¬ (5 = 6 + c) := by omega
  simp [FM, hm] at hFM
  have s0 : X (6 + c) 0 = 2 := by simpa [smt, hm] using hc3
  have z0 : N c 0 = 2 := l0.symm.trans s0
  simp [LSt, z0] at hS
  cases ds with
  | nil =>
    obtain ⟨d1, d2, d3, d4, d5⟩ := id hD
    have e10 : N c 10 = 0 := d3
    have e5 : X (6 + c) 5 = 0 := l5.trans e10
    by_cases ht : X (22 + f) 7 + 1 < X 5 0
    · apply simI
      · intro K hK
        simp only [wp_X0_takeStep, wp_X0_awaitDigit, wp_X1_become, wp_X1_becomeFree, wp_X2_leaveCall, updA, forall_eq, hm, hc1, lix_nI hc, vuS, vuU, vuN n1, vuN n2, vuN n3, vuN n4, vuN n5, vuN n6, vuN n7, vuN n8, stg_0, stg_1, stg_2, stg_3, e5, ht]
        simp [updA, e5, ht]
        exact hK
      · intro Z K hK
        simp only [wp_X5_stepFinder, wp_X5_waitForDigit, ofF_0 h4, layF_0 h4, ofF_1 h4, layF_1 h4, ofF_2 h4, layF_2 h4, ofF_3 h4, layF_3 h4, ofF_4 h4, layF_4 h4, ofF_5 h4, layF_5 h4, ofF_6 h4, layF_6 h4, ofF_7 h4, layF_7 h4, ofF_8 h4, layF_8 h4, ofF_9 h4, layF_9 h4, of_0 hc, lay_0 hc, of_1 hc, lay_1 hc, of_2 hc, lay_2 hc, of_3 hc, lay_3 hc, of_4 hc, lay_4 hc, of_5 hc, lay_5 hc, of_6 hc, lay_6 hc, of_7 hc, lay_7 hc, of_8 hc, lay_8 hc, of_9 hc, lay_9 hc, of_10 hc, lay_10 hc, cnt_0, cnt_1, cnt_2, cnt_3, cnt_4, cnt_5, cnt_6, set_0, set_1, set_2, set_3, set_4, m0, m2, vuU, vuS]
        simp [updA, m0, m2]
        refine q_take0 hc e10 ?_
        simp only [wp_X5_reaches, ofF_0 h4, ofF_2 h4, ofF_7 h4, layF_7 h4, set_0, vuS, vuU, wp_X5_giveUp]
        simp [updA, ← g7, ← w0, ht, m2]
        exact hK
      · refine XS_one2 hR hf hc (by rw [hm]; decide) (by rw [hm]; decide) (by rw [hm]; decide) hc1 (by simp only [vuA, n1, n2, n3, n4, n5, n6, if_true, if_false]; rfl) (by simp only [vuA, n1, n2, n3, n4, n5, n6, if_true, if_false]; rfl) (by simp only [vuA, n1, n2, n3, n4, n5, n6, if_true, if_false]; rfl) (fun k k1 k2 k3 => by simp only [vuA, k1, k2, k3, if_false]) (by first | rfl | exact (vuSelf _ _).symm) (by first | rfl | exact (vuSelf _ _).symm) ?_ ?_ ?_ ?_ ?_ ?_
        · exact hR.1
        · simp [FR, FM, frG, updA, ← g0, ← g1, ← g2, ← g3, ← g4, ← g5, ← g7, ← g8, ← g9, hm, hFM, hpe]; exact ⟨po, hpo, rfl⟩
        · exact ⟨by simp [updA, l0, l1, l2, l3, l5], [], LD_keep hD (by simp [updA]) (by simp [updA]) (by simp [updA]) (by simp [updA]) (by simp [updA]) (by simp [updA]), by simp [LSt, updA, z0, hS]⟩
        · simp [updA, hm, hc1, hc2, smt, s0]
        · intro hg; first | (simp [S6, updA, hc2]; done) | (refine absurd hg ?_; simp [go, s0, e5]; done)
        · first | rfl | (simp [updA]; done)
    · apply simI
      · intro K hK
        simp only [wp_X0_takeStep, wp_X0_awaitDigit, wp_X1_become, wp_X1_becomeFree, wp_X2_leaveCall, updA, forall_eq, hm, hc1, lix_nI hc, vuS, vuU, vuN n1, vuN n2, vuN n3, vuN n4, vuN n5, vuN n6, vuN n7, vuN n8, stg_0, stg_1, stg_2, stg_3, e5, ht]
        simp [updA, e5, ht]
        exact hK
      · intro Z K hK
        simp only [wp_X5_stepFinder, wp_X5_waitForDigit, ofF_0 h4, layF_0 h4, ofF_1 h4, layF_1 h4, ofF_2 h4, layF_2 h4, ofF_3 h4, layF_3 h4, ofF_4 h4, layF_4 h4, ofF_5 h4, layF_5 h4, ofF_6 h4, layF_6 h4, ofF_7 h4, layF_7 h4, ofF_8 h4, layF_8 h4, ofF_9 h4, layF_9 h4, of_0 hc, lay_0 hc, of_1 hc, lay_1 hc, of_2 hc, lay_2 hc, of_3 hc, lay_3 hc, of_4 hc, lay_4 hc, of_5 hc, lay_5 hc, of_6 hc, lay_6 hc, of_7 hc, lay_7 hc, of_8 hc, lay_8 hc, of_9 hc, lay_9 hc, of_10 hc, lay_10 hc, cnt_0, cnt_1, cnt_2, cnt_3, cnt_4, cnt_5, cnt_6, set_0, set_1, set_2, set_3, set_4, m0, m2, vuU, vuS]
        simp [updA, m0, m2]
        refine q_take0 hc e10 ?_
        simp only [wp_X5_reaches, ofF_0 h4, ofF_2 h4, ofF_7 h4, layF_7 h4, set_0, vuS, vuU, wp_X5_giveUp]
        simp [updA, ← g7, ← w0, ht, m2]
        refine q_free h4 ?_
        simp only [wp_X5_park, lay_0 hc, lay_5 hc, lay_10 hc, lay_3 hc, cnt_6, vuU, vuS]
        exact hK
      · refine XS_one2 hR hf hc (by rw [hm]; decide) (by rw [hm]; decide) (by rw [hm]; decide) hc1 (by simp only [vuA, n1, n2, n3, n4, n5, n6, if_true, if_false]; rfl) (by simp only [vuA, n1, n2, n3, n4, n5, n6, if_true, if_false]; rfl) (by simp only [vuA, n1, n2, n3, n4, n5, n6, if_true, if_false]; rfl) (fun k k1 k2 k3 => by simp only [vuA, k1, k2, k3, if_false]) (by first | rfl | exact (vuSelf _ _).symm) (by first | rfl | exact (vuSelf _ _).symm) ?_ ?_ ?_ ?_ ?_ ?_
        · exact HR_15 hR.1
        · simp [FR, FM, frG, updA, ← g0, ← g1, ← g2, ← g3, ← g4, ← g5, ← g7, ← g8, ← g9, hm, hFM, hpe]; exact ⟨po, hpo, rfl⟩
        · exact ⟨by simp [updA, l0, l1, l2, l3, l5], [], by simp [LD, updA, packL, nI_0], by simp [LSt, updA, hS]⟩
        · simp [updA]
        · intro hg; first | (simp [S6, updA, hc2]; done) | (refine absurd hg ?_; simp [go, s0, e5]; done)
        · first | rfl | (simp [updA]; done)
  | cons v r =>
    have hv : v ≤ 9 := hD.2.1 v List.mem_cons_self
    have hlr : r.length ≤ 3 := by have := hD.1; simp at this; omega
    have e5 : ¬ X (6 + c) 5 ≤ 0 := by rw [l5, hD.2.2.1]; exact nI_nle (by simp) (by have := hD.1; simp at this ⊢; omega)
    obtain ⟨pp, pp1, pp2, pp3⟩ := plz_ex hv
    have hD' : LD (upd (upd (X (6 + c)) 4 (nI (packL r))) 5 (nI r.length)) (tkN (r.length + 1) (N c)) r := ⟨by omega, fun x hx => hD.2.1 x (List.mem_cons_of_mem _ hx), by rw [tk_10]; rfl, tk_ds hlr hD.2.2.2.1, by simp [updA]⟩
    apply simI
    · intro K hK
      simp only [wp_X0_takeStep, wp_X0_awaitDigit, wp_X1_become, wp_X1_becomeFree, wp_X2_leaveCall, updA, forall_eq, hm, hc1, lix_nI hc, vuS, vuU, vuN n1, vuN n2, vuN n3, vuN n4, vuN n5, vuN n6, vuN n7, vuN n8, stg_0, stg_1, stg_2, stg_3, e5]
      simp [updA, e5]
      refine q_tp hD l5 ?_
      exact hK
    · intro Z K hK
      simp only [wp_X5_stepFinder, wp_X5_waitForDigit, ofF_0 h4, layF_0 h4, ofF_1 h4, layF_1 h4, ofF_2 h4, layF_2 h4, ofF_3 h4, layF_3 h4, ofF_4 h4, layF_4 h4, ofF_5 h4, layF_5 h4, ofF_6 h4, layF_6 h4, ofF_7 h4, layF_7 h4, ofF_8 h4, layF_8 h4, ofF_9 h4, layF_9 h4, of_0 hc, lay_0 hc, of_1 hc, lay_1 hc, of_2 hc, lay_2 hc, of_3 hc, lay_3 hc, of_4 hc, lay_4 hc, of_5 hc, lay_5 hc, of_6 hc, lay_6 hc, of_7 hc, lay_7 hc, of_8 hc, lay_8 hc, of_9 hc, lay_9 hc, of_10 hc, lay_10 hc, cnt_0, cnt_1, cnt_2, cnt_3, cnt_4, cnt_5, cnt_6, set_0, set_1, set_2, set_3, set_4, m0, m2, vuU, vuS]
      simp [updA, m0, m2]
      refine q_takeD hc hD ?_
      simp only [ofF_0 h4, layF_0 h4, layF_5 h4, layF_6 h4, layF_7 h4, m0, lay_0 hc, vuU, vuS]
      simp [plz_nle hv, plz_pos hv]
      exact hK
    · refine XS_one2 hR hf hc (by rw [hm]; decide) (by rw [hm]; decide) (by rw [hm]; decide) hc1 (by simp only [vuA, n1, n2, n3, n4, n5, n6, if_true, if_false]; rfl) (by simp only [vuA, n1, n2, n3, n4, n5, n6, if_true, if_false]; rfl) (by simp only [vuA, n1, n2, n3, n4, n5, n6, if_true, if_false]; rfl) (fun k k1 k2 k3 => by simp only [vuA, k1, k2, k3, if_false]) (by first | rfl | exact (vuSelf _ _).symm) (by first | rfl | exact (vuSelf _ _).symm) ?_ ?_ ?_ ?_ ?_ ?_
      · exact hR.1
      · simp [FR, FM, frG, updA, ← g0, ← g1, ← g2, ← g3, ← g4, ← g5, ← g7, ← g8, ← g9, hm, hFM, hpe, pp3]; exact ⟨⟨po, hpo, rfl⟩, ⟨0, rfl, pp, rfl, pp1, by omega⟩⟩
      · exact ⟨by simp [updA, l0, l1, l2, l3, tk_lo, tk_10], r, by simpa [LD, updA] using hD', by simp [LSt, updA, hS, tk_lo]⟩
      · simp [updA, hm, hc1, hc2, smt, s0]
      · intro hg; first | (simp [S6, updA, hc2]; done) | (refine absurd hg ?_; simp [go, s0, e5]; done)
      · first | rfl | (simp [updA]; done)

set_option maxHeartbeats 2000000 in
theorem sim_linked {q nf f : Nat} {X : ES} {h : CS} {N G : ES} (hR : XR q nf X h N G) (hf : f < nf) (hm : X (22 + f) 0 = 5) : SimS q nf X h N G f := by
  have h4 : f < 4 := by have := hR.1.2.1.2.1; omega
  obtain ⟨c, hc, hc1, hc2, hc3⟩ := hR.2.2.2.1 f h4 (by rw [hm]; decide)
  obtain ⟨⟨g0, g1, g2, g3, g4, g5, g7, g8, g9⟩, ⟨po, hpo, hpe⟩, hFM⟩ := hR.2.2.1 f h4
  obtain ⟨⟨l0, l1, l2, l3, l5⟩, ds, hD, hS⟩ := hR.2.1 c hc
  obtain ⟨w0, w1, w2, w3, w4⟩ := hR.1.2.2.2.2.2.2.2.1
  have m0 : G f 0 = 5 := g0.symm.trans hm
  have m2 : G f 2 = nI c := g2.symm.trans hc1
  have n1 : ¬ (22 + f = 6 + c) := by omega
  have n2 : ¬ (6 + c = 22 + f) := by omega
  have n3 : ¬ (22 + f = 0) := by omega
  have n4 : ¬ (6 + c = 0) := by omega
  have n5 : ¬ (0 = 22 + f) := by omega
  have n6 : ¬ (0 = 6 + c) := by omega
  have n7 : ¬ (5 = 22 + f) := by omega
  have n8 : ¬ (5 = 6 + c) := by omega
  simp [FM, hm] at hFM
  have s0 : X (6 + c) 0 = 3 := by simpa [smt, hm] using hc3
  have z0 : N c 0 = 3 := l0.symm.trans s0
  simp [LSt, z0] at hS
  cases ds with
  | nil =>
    obtain ⟨d1, d2, d3, d4, d5⟩ := id hD
    have e10 : N c 10 = 0 := d3
    have e5 : X (6 + c) 5 = 0 := l5.trans e10
    by_cases ht : X (22 + f) 7 + 1 < X 5 0
    · apply simI
      · intro K hK
        simp only [wp_X0_takeStep, wp_X0_awaitDigit, wp_X1_become, wp_X1_becomeFree, wp_X2_leaveCall, updA, forall_eq, hm, hc1, lix_nI hc, vuS, vuU, vuN n1, vuN n2, vuN n3, vuN n4, vuN n5, vuN n6, vuN n7, vuN n8, stg_0, stg_1, stg_2, stg_3, e5, ht]
        simp [updA, e5, ht]
        exact hK
      · intro Z K hK
        simp only [wp_X5_stepFinder, wp_X5_waitForDigit, ofF_0 h4, layF_0 h4, ofF_1 h4, layF_1 h4, ofF_2 h4, layF_2 h4, ofF_3 h4, layF_3 h4, ofF_4 h4, layF_4 h4, ofF_5 h4, layF_5 h4, ofF_6 h4, layF_6 h4, ofF_7 h4, layF_7 h4, ofF_8 h4, layF_8 h4, ofF_9 h4, layF_9 h4, of_0 hc, lay_0 hc, of_1 hc, lay_1 hc, of_2 hc, lay_2 hc, of_3 hc, lay_3 hc, of_4 hc, lay_4 hc, of_5 hc, lay_5 hc, of_6 hc, lay_6 hc, of_7 hc, lay_7 hc, of_8 hc, lay_8 hc, of_9 hc, lay_9 hc, of_10 hc, lay_10 hc, cnt_0, cnt_1, cnt_2, cnt_3, cnt_4, cnt_5, cnt_6, set_0, set_1, set_2, set_3, set_4, m0, m2, vuU, vuS]
        simp [updA, m0, m2]
        refine q_take0 hc e10 ?_
        simp only [wp_X5_reaches, ofF_0 h4, ofF_2 h4, ofF_7 h4, layF_7 h4, set_0, vuS, vuU, wp_X5_giveUp]
        simp [updA, ← g7, ← w0, ht, m2]
        exact hK
      · refine XS_one2 hR hf hc (by rw [hm]; decide) (by rw [hm]; decide) (by rw [hm]; decide) hc1 (by simp only [vuA, n1, n2, n3, n4, n5, n6, if_true, if_false]; rfl) (by simp only [vuA, n1, n2, n3, n4, n5, n6, if_true, if_false]; rfl) (by simp only [vuA, n1, n2, n3, n4, n5, n6, if_true, if_false]; rfl) (fun k k1 k2 k3 => by simp only [vuA, k1, k2, k3, if_false]) (by first | rfl | exact (vuSelf _ _).symm) (by first | rfl | exact (vuSelf _ _).symm) ?_ ?_ ?_ ?_ ?_ ?_
        · exact hR.1
        · simp [FR, FM, frG, updA, ← g0, ← g1, ← g2, ← g3, ← g4, ← g5, ← g7, ← g8, ← g9, hm, hFM, hpe]; exact ⟨po, hpo, rfl⟩
        · exact ⟨by simp [updA, l0, l1, l2, l3, l5], [], LD_keep hD (by simp [updA]) (by simp [updA]) (by simp [updA]) (by simp [updA]) (by simp [updA]) (by simp [updA]), by simp [LSt, updA, z0, hS]⟩
        · simp [updA, hm, hc1, hc2, smt, s0]
        · exact fun hg => by simp [S6, updA, s0, hc2]
        · first | rfl | (simp [updA]; done)
    · apply simI
      · intro K hK
        simp only [wp_X0_takeStep, wp_X0_awaitDigit, wp_X1_become, wp_X1_becomeFree, wp_X2_leaveCall, updA, forall_eq, hm, hc1, lix_nI hc, vuS, vuU, vuN n1, vuN n2, vuN n3, vuN n4, vuN n5, vuN n6, vuN n7, vuN n8, stg_0, stg_1, stg_2, stg_3, e5, ht]
        simp [updA, e5, ht]
        exact hK
      · intro Z K hK
        simp only [wp_X5_stepFinder, wp_X5_waitForDigit, ofF_0 h4, layF_0 h4, ofF_1 h4, layF_1 h4, ofF_2 h4, layF_2 h4, ofF_3 h4, layF_3 h4, ofF_4 h4, layF_4 h4, ofF_5 h4, layF_5 h4, ofF_6 h4, layF_6 h4, ofF_7 h4, layF_7 h4, ofF_8 h4, layF_8 h4, ofF_9 h4, layF_9 h4, of_0 hc, lay_0 hc, of_1 hc, lay_1 hc, of_2 hc, lay_2 hc, of_3 hc, lay_3 hc, of_4 hc, lay_4 hc, of_5 hc, lay_5 hc, of_6 hc, lay_6 hc, of_7 hc, lay_7 hc, of_8 hc, lay_8 hc, of_9 hc, lay_9 hc, of_10 hc, lay_10 hc, cnt_0, cnt_1, cnt_2, cnt_3, cnt_4, cnt_5, cnt_6, set_0, set_1, set_2, set_3, set_4, m0, m2, vuU, vuS]
        simp [updA, m0, m2]
        refine q_take0 hc e10 ?_
        simp only [wp_X5_reaches, ofF_0 h4, ofF_2 h4, ofF_7 h4, layF_7 h4, set_0, vuS, vuU, wp_X5_giveUp]
        simp [updA, ← g7, ← w0, ht, m2]
        refine q_free h4 ?_
        simp only [wp_X5_park, lay_0 hc, lay_5 hc, lay_10 hc, lay_3 hc, cnt_6, vuU, vuS]
        exact hK
      · refine XS_one2 hR hf hc (by rw [hm]; decide) (by rw [hm]; decide) (by rw [hm]; decide) hc1 (by simp only [vuA, n1, n2, n3, n4, n5, n6, if_true, if_false]; rfl) (by simp only [vuA, n1, n2, n3, n4, n5, n6, if_true, if_false]; rfl) (by simp only [vuA, n1, n2, n3, n4, n5, n6, if_true, if_false]; rfl) (fun k k1 k2 k3 => by simp only [vuA, k1, k2, k3, if_false]) (by first | rfl | exact (vuSelf _ _).symm) (by first | rfl | exact (vuSelf _ _).symm) ?_ ?_ ?_ ?_ ?_ ?_
        · exact HR_15 hR.1
        · simp [FR, FM, frG, updA, ← g0, ← g1, ← g2, ← g3, ← g4, ← g5, ← g7, ← g8, ← g9, hm, hFM, hpe]; exact ⟨po, hpo, rfl⟩
        · exact ⟨by simp [updA, l0, l1, l2, l3, l5], [], by simp [LD, updA, packL, nI_0], by simp [LSt, updA, hS]⟩
        · simp [updA]
        · exact fun hg => by simp [S6, updA, s0, hc2]
        · first | rfl | (simp [updA]; done)
  | cons v r =>
    have hv : v ≤ 9 := hD.2.1 v List.mem_cons_self
    have hlr : r.length ≤ 3 := by have := hD.1; simp at this; omega
    have e5 : ¬ X (6 + c) 5 ≤ 0 := by rw [l5, hD.2.2.1]; exact nI_nle (by simp) (by have := hD.1; simp at this ⊢; omega)
    obtain ⟨pp, pp1, pp2, pp3⟩ := plz_ex hv
    have hD' : LD (upd (upd (X (6 + c)) 4 (nI (packL r))) 5 (nI r.length)) (tkN (r.length + 1) (N c)) r := ⟨by omega, fun x hx => hD.2.1 x (List.mem_cons_of_mem _ hx), by rw [tk_10]; rfl, tk_ds hlr hD.2.2.2.1, by simp [updA]⟩
    apply simI
    · intro K hK
      simp only [wp_X0_takeStep, wp_X0_awaitDigit, wp_X1_become, wp_X1_becomeFree, wp_X2_leaveCall, updA, forall_eq, hm, hc1, lix_nI hc, vuS, vuU, vuN n1, vuN n2, vuN n3, vuN n4, vuN n5, vuN n6, vuN n7, vuN n8, stg_0, stg_1, stg_2, stg_3, e5]
      simp [updA, e5]
      refine q_tp hD l5 ?_
      exact hK
    · intro Z K hK
      simp only [wp_X5_stepFinder, wp_X5_waitForDigit, ofF_0 h4, layF_0 h4, ofF_1 h4, layF_1 h4, ofF_2 h4, layF_2 h4, ofF_3 h4, layF_3 h4, ofF_4 h4, layF_4 h4, ofF_5 h4, layF_5 h4, ofF_6 h4, layF_6 h4, ofF_7 h4, layF_7 h4, ofF_8 h4, layF_8 h4, ofF_9 h4, layF_9 h4, of_0 hc, lay_0 hc, of_1 hc, lay_1 hc, of_2 hc, lay_2 hc, of_3 hc, lay_3 hc, of_4 hc, lay_4 hc, of_5 hc, lay_5 hc, of_6 hc, lay_6 hc, of_7 hc, lay_7 hc, of_8 hc, lay_8 hc, of_9 hc, lay_9 hc, of_10 hc, lay_10 hc, cnt_0, cnt_1, cnt_2, cnt_3, cnt_4, cnt_5, cnt_6, set_0, set_1, set_2, set_3, set_4, m0, m2, vuU, vuS]
      simp [updA, m0, m2]
      refine q_takeD hc hD ?_
      simp only [ofF_0 h4, layF_0 h4, layF_5 h4, layF_6 h4, layF_7 h4, m0, lay_0 hc, vuU, vuS]
      simp [plz_nle hv, plz_pos hv]
      exact hK
    · refine XS_one2 hR hf hc (by rw [hm]; decide) (by rw [hm]; decide) (by rw [hm]; decide) hc1 (by simp only [vuA, n1, n2, n3, n4, n5, n6, if_true, if_false]; rfl) (by simp only [vuA, n1, n2, n3, n4, n5, n6, if_true, if_false]; rfl) (by simp only [vuA, n1, n2, n3, n4, n5, n6, if_true, if_false]; rfl) (fun k k1 k2 k3 => by simp only [vuA, k1, k2, k3, if_false]) (by first | rfl | exact (vuSelf _ _).symm) (by first | rfl | exact (vuSelf _ _).symm) ?_ ?_ ?_ ?_ ?_ ?_
      · exact hR.1
      · simp [FR, FM, frG, updA, ← g0, ← g1, ← g2, ← g3, ← g4, ← g5, ← g7, ← g8, ← g9, hm, hFM, hpe, pp3]; exact ⟨⟨po, hpo, rfl⟩, ⟨0, rfl, pp, rfl, pp1, by omega, by rw [Nat.zero_add]⟩⟩
      · exact ⟨by simp [updA, l0, l1, l2, l3, tk_lo, tk_10], r, by simpa [LD, updA] using hD', by simp [LSt, updA, hS, tk_lo]⟩
      · simp [updA, hm, hc1, hc2, smt, s0]
      · exact fun hg => by simp [S6, updA, s0, hc2]
      · first | rfl | (simp [updA]; done)

set_option maxHeartbeats 2000000 in
theorem sim_sound {q nf f : Nat} {X : ES} {h : CS} {N G : ES} (hR : XR q nf X h N G) (hf : f < nf) (hm : X (22 + f) 0 = 9) : SimS q nf X h N G f := by
  have h4 : f < 4 := by have := hR.1.2.1.2.1; omega
  obtain ⟨c, hc, hc1, hc2, hc3⟩ := hR.2.2.2.1 f h4 (by rw [hm]; decide)
  obtain ⟨⟨g0, g1, g2, g3, g4, g5, g7, g8, g9⟩, ⟨po, hpo, hpe⟩, hFM⟩ := hR.2.2.1 f h4
  obtain ⟨⟨l0, l1, l2, l3, l5⟩, ds, hD, hS⟩ := hR.2.1 c hc
  obtain ⟨w0, w1, w2, w3, w4⟩ := hR.1.2.2.2.2.2.2.2.1
  have m0 : G f 0 = 9 := g0.symm.trans hm
  have m2 : G f 2 = nI c := g2.symm.trans hc1
  have n1 : ¬ (22 + f = 6 + c) := by omega
  have n2 : ¬ (6 + c = 22 + f) := by omega
  have n3 : ¬ (22 + f = 0) := by omega
  have n4 : ¬ (6 + c = 0) := by omega
  have n5 : ¬ (0 = 22 + f) := by omega
  have n6 : ¬ (0 = 6 + c) := by omega
  have n7 : ¬ (5 = 22 + f) := by omega
  have n8 : ¬ (5 = 6 + c) := by omega
  simp [FM, hm] at hFM
  obtain ⟨sx, s0⟩ : ∃ sx, X (6 + c) 0 = sx ∧ (sx = 8 ∨ sx = 9) := ⟨_, rfl, by simpa [smt, hm] using hc3⟩
  have z0 : N c 0 = sx := l0.symm.trans s0.1
  have hS' : N c 1 = 1 ∧ X (6 + c) 8 = 0 := by
    rcases s0.2 with e | e <;> (rw [e] at z0; simpa [LSt, z0] using hS)
  by_cases ht : X (22 + f) 7 + 1 < X 5 0
  · apply simI
    · intro K hK
      simp only [wp_X0_takeStep, wp_X0_soundOn, wp_X1_become, wp_X1_becomeFree, wp_X2_leaveCall, updA, forall_eq, hm, hc1, lix_nI hc, vuS, vuU, vuN n1, vuN n2, vuN n3, vuN n4, vuN n5, vuN n6, vuN n7, vuN n8, stg_0, stg_1, stg_2, stg_3, ht]
      simp [updA, ht]
      exact hK
    · intro Z K hK
      simp only [wp_X5_stepFinder, wp_X5_soundOn, ofF_0 h4, layF_0 h4, ofF_1 h4, layF_1 h4, ofF_2 h4, layF_2 h4, ofF_3 h4, layF_3 h4, ofF_4 h4, layF_4 h4, ofF_5 h4, layF_5 h4, ofF_6 h4, layF_6 h4, ofF_7 h4, layF_7 h4, ofF_8 h4, layF_8 h4, ofF_9 h4, layF_9 h4, of_0 hc, lay_0 hc, of_1 hc, lay_1 hc, of_2 hc, lay_2 hc, of_3 hc, lay_3 hc, of_4 hc, lay_4 hc, of_5 hc, lay_5 hc, of_6 hc, lay_6 hc, of_7 hc, lay_7 hc, of_8 hc, lay_8 hc, of_9 hc, lay_9 hc, of_10 hc, lay_10 hc, cnt_0, cnt_1, cnt_2, cnt_3, cnt_4, cnt_5, cnt_6, set_0, set_1, set_2, set_3, set_4, m0, m2, vuU, vuS, wp_X5_reaches, ← g7, ← w0, ht]
      simp [updA, m0, m2, wp_X5_reaches, ← g7, ← w0, ht]
      exact hK
    · refine XS_one2 hR hf hc (by rw [hm]; decide) (by rw [hm]; decide) (by rw [hm]; decide) hc1 (by simp only [vuA, n1, n2, n3, n4, n5, n6, if_true, if_false]; rfl) (by simp only [vuA, n1, n2, n3, n4, n5, n6, if_true, if_false]; rfl) (by simp only [vuA, n1, n2, n3, n4, n5, n6, if_true, if_false]; rfl) (fun k k1 k2 k3 => by simp only [vuA, k1, k2, k3, if_false]) (by first | rfl | exact (vuSelf _ _).symm) (by first | rfl | exact (vuSelf _ _).symm) ?_ ?_ ?_ ?_ ?_ ?_
      · exact hR.1
      · simp [FR, FM, frG, updA, ← g0, ← g1, ← g2, ← g3, ← g4, ← g5, ← g7, ← g8, ← g9, hm, hFM, hpe]; exact ⟨po, hpo, rfl⟩
      · exact hR.2.1 c hc
      · rcases s0.2 with e | e <;> simp [updA, hm, hc1, hc2, smt, s0, e]
      · exact fun hg => absurd hg (by rcases s0.2 with e | e <;> simp [go, s0.1, e])
      · first | rfl | (simp [updA]; done)
  · apply simI
    · intro K hK
      simp only [wp_X0_takeStep, wp_X0_soundOn, wp_X1_become, wp_X1_becomeFree, wp_X2_leaveCall, updA, forall_eq, hm, hc1, lix_nI hc, vuS, vuU, vuN n1, vuN n2, vuN n3, vuN n4, vuN n5, vuN n6, vuN n7, vuN n8, stg_0, stg_1, stg_2, stg_3, ht]
      simp [updA, ht]
      exact hK
    · intro Z K hK
      simp only [wp_X5_stepFinder, wp_X5_soundOn, ofF_0 h4, layF_0 h4, ofF_1 h4, layF_1 h4, ofF_2 h4, layF_2 h4, ofF_3 h4, layF_3 h4, ofF_4 h4, layF_4 h4, ofF_5 h4, layF_5 h4, ofF_6 h4, layF_6 h4, ofF_7 h4, layF_7 h4, ofF_8 h4, layF_8 h4, ofF_9 h4, layF_9 h4, of_0 hc, lay_0 hc, of_1 hc, lay_1 hc, of_2 hc, lay_2 hc, of_3 hc, lay_3 hc, of_4 hc, lay_4 hc, of_5 hc, lay_5 hc, of_6 hc, lay_6 hc, of_7 hc, lay_7 hc, of_8 hc, lay_8 hc, of_9 hc, lay_9 hc, of_10 hc, lay_10 hc, cnt_0, cnt_1, cnt_2, cnt_3, cnt_4, cnt_5, cnt_6, set_0, set_1, set_2, set_3, set_4, m0, m2, vuU, vuS, wp_X5_reaches, ← g7, ← w0, ht]
      simp [updA, m0, m2, wp_X5_reaches, ← g7, ← w0, ht]
      refine q_free h4 ?_
      simp only [wp_X5_park, lay_0 hc, lay_5 hc, lay_10 hc, lay_3 hc, cnt_6, vuU, vuS]
      exact hK
    · refine XS_one2 hR hf hc (by rw [hm]; decide) (by rw [hm]; decide) (by rw [hm]; decide) hc1 (by simp only [vuA, n1, n2, n3, n4, n5, n6, if_true, if_false]; rfl) (by simp only [vuA, n1, n2, n3, n4, n5, n6, if_true, if_false]; rfl) (by simp only [vuA, n1, n2, n3, n4, n5, n6, if_true, if_false]; rfl) (fun k k1 k2 k3 => by simp only [vuA, k1, k2, k3, if_false]) (by first | rfl | exact (vuSelf _ _).symm) (by first | rfl | exact (vuSelf _ _).symm) ?_ ?_ ?_ ?_ ?_ ?_
      · exact hR.1
      · simp [FR, FM, frG, updA, ← g0, ← g1, ← g2, ← g3, ← g4, ← g5, ← g7, ← g8, ← g9, hm, hFM, hpe]; exact ⟨po, hpo, rfl⟩
      · exact ⟨by simp [updA, l0, l1, l2, l3, l5], [], by simp [LD, updA, packL, nI_0], by simp [LSt, updA, hS']⟩
      · simp [updA]
      · exact fun hg => absurd hg (by rcases s0.2 with e | e <;> simp [go, s0.1, e])
      · first | rfl | (simp [updA]; done)

set_option maxHeartbeats 2000000 in
theorem sim_rise {q nf f : Nat} {X : ES} {h : CS} {N G : ES} (hR : XR q nf X h N G) (hf : f < nf) (hm : X (22 + f) 0 = 3) : SimS q nf X h N G f := by
  have h4 : f < 4 := by have := hR.1.2.1.2.1; omega
  obtain ⟨c, hc, hc1, hc2, hc3⟩ := hR.2.2.2.1 f h4 (by rw [hm]; decide)
  obtain ⟨⟨g0, g1, g2, g3, g4, g5, g7, g8, g9⟩, ⟨po, hpo, hpe⟩, hFM⟩ := hR.2.2.1 f h4
  obtain ⟨⟨l0, l1, l2, l3, l5⟩, ds, hD, hS⟩ := hR.2.1 c hc
  obtain ⟨w0, w1, w2, w3, w4⟩ := hR.1.2.2.2.2.2.2.2.1
  have m0 : G f 0 = 3 := g0.symm.trans hm
  have m2 : G f 2 = nI c := g2.symm.trans hc1
  have n1 : ¬ (22 + f = 6 + c) := by omega
  have n2 : ¬ (6 + c = 22 + f) := by omega
  have n3 : ¬ (22 + f = 0) := by omega
  have n4 : ¬ (6 + c = 0) := by omega
  have n5 : ¬ (0 = 22 + f) := by omega
  have n6 : ¬ (0 = 6 + c) := by omega
  have n7 : ¬ (5 = 22 + f) := by omega
  have n8 : ¬ (5 = 6 + c) := by omega
  simp [FM, hm] at hFM
  have s0 : X (6 + c) 0 = 3 := by simpa [smt, hm] using hc3
  have z0 : N c 0 = 3 := l0.symm.trans s0
  simp [LSt, z0] at hS
  obtain ⟨⟨a, ea, p, ep, hp1, hap⟩, f4, f6, f7, f8, f9⟩ := id hFM
  obtain ⟨p', rfl⟩ : ∃ p', p = p' + 1 := ⟨p - 1, by omega⟩
  have u5 : X (22 + f) 5 - 1 = nI p' := by rw [ep]; exact nI_pred p'
  have u3 : X (22 + f) 3 + 1 = nI (a + 1) := by rw [ea]; exact nI_1 a
  have v5 : G f 5 - 1 = nI p' := by rw [← g5]; exact u5
  have v3 : G f 3 + 1 = nI (a + 1) := by rw [← g3]; exact u3
  by_cases hp : p' = 0
  · subst hp
    rw [nI_0] at u5 v5
    by_cases ha : a + 1 ≤ 4
    · have ha' : nI (a + 1) ≤ 4 := nI_le (b := 4) ha (by decide)
      have ha2 : ¬ 4 < nI (a + 1) := fun z => absurd z (nI_nlt (b := a + 1) (a := 4) ha (by decide))
      apply simI
      · intro K hK
        simp only [wp_X0_takeStep, wp_X0_rise, wp_X1_become, wp_X0_sound, updA, forall_eq, hm, hc1, lix_nI hc, vuS, vuU, vuN n1, vuN n2, vuN n3, vuN n4, vuN n5, vuN n6, vuN n7, vuN n8, stg_0, stg_1, stg_2, stg_3, u5, u3, ha']
        simp [updA, u5, u3, ha']
        exact hK
      · intro Z K hK
        simp only [wp_X5_stepFinder, wp_X5_rise, ofF_0 h4, layF_0 h4, ofF_1 h4, layF_1 h4, ofF_2 h4, layF_2 h4, ofF_3 h4, layF_3 h4, ofF_4 h4, layF_4 h4, ofF_5 h4, layF_5 h4, ofF_6 h4, layF_6 h4, ofF_7 h4, layF_7 h4, ofF_8 h4, layF_8 h4, ofF_9 h4, layF_9 h4, of_0 hc, lay_0 hc, of_1 hc, lay_1 hc, of_2 hc, lay_2 hc, of_3 hc, lay_3 hc, of_4 hc, lay_4 hc, of_5 hc, lay_5 hc, of_6 hc, lay_6 hc, of_7 hc, lay_7 hc, of_8 hc, lay_8 hc, of_9 hc, lay_9 hc, of_10 hc, lay_10 hc, cnt_0, cnt_1, cnt_2, cnt_3, cnt_4, cnt_5, cnt_6, set_0, set_1, set_2, set_3, set_4, m0, m2, vuU, vuS, v5, v3, ha2, ha']
        simp [updA, m0, m2, v5, v3, ha2, ha']
        exact hK
      · refine XS_one2 hR hf hc (by rw [hm]; decide) (by rw [hm]; decide) (by rw [hm]; decide) hc1 (by simp only [vuA, n1, n2, n3, n4, n5, n6, if_true, if_false]; rfl) (by simp only [vuA, n1, n2, n3, n4, n5, n6, if_true, if_false]; rfl) (by simp only [vuA, n1, n2, n3, n4, n5, n6, if_true, if_false]; rfl) (fun k k1 k2 k3 => by simp only [vuA, k1, k2, k3, if_false]) (by first | rfl | exact (vuSelf _ _).symm) (by first | rfl | exact (vuSelf _ _).symm) ?_ ?_ ?_ ?_ ?_ ?_
        · exact hR.1
        · simp [FR, FM, frG, updA, ← g0, ← g1, ← g2, ← g3, ← g4, ← g5, ← g7, ← g8, ← g9, hm, hFM, hpe, f4, f6, f7, f8, f9]; exact ⟨⟨po, hpo, rfl⟩, a + 1, by omega, ha, rfl⟩
        · exact ⟨by simp [updA, l0, l1, l2, l3, l5], ds, LD_keep hD (by simp [updA]) (by simp [updA]) (by simp [updA]) (by simp [updA]) (by simp [updA]) (by simp [updA]), by simp [LSt, updA, z0, hS]⟩
        · simp [updA, hm, hc1, hc2, smt, s0]
        · exact fun hg => by simp [S6, updA, s0, hc2]
        · first | rfl | (simp [updA]; done)
    · have ha' : ¬ nI (a + 1) ≤ 4 := nI_ge (a := 4) (by omega) (by omega)
      have ha2 : 4 < nI (a + 1) := nI_lt (a := 4) (by omega) (by omega)
      apply simI
      · intro K hK
        simp only [wp_X0_takeStep, wp_X0_rise, wp_X1_become, wp_X0_sound, updA, forall_eq, hm, hc1, lix_nI hc, vuS, vuU, vuN n1, vuN n2, vuN n3, vuN n4, vuN n5, vuN n6, vuN n7, vuN n8, stg_0, stg_1, stg_2, stg_3, u5, u3, ha', ha2]
        simp [updA, u5, u3, ha', ha2]
        exact hK
      · intro Z K hK
        simp only [wp_X5_stepFinder, wp_X5_rise, wp_X5_sound, ofF_0 h4, layF_0 h4, ofF_1 h4, layF_1 h4, ofF_2 h4, layF_2 h4, ofF_3 h4, layF_3 h4, ofF_4 h4, layF_4 h4, ofF_5 h4, layF_5 h4, ofF_6 h4, layF_6 h4, ofF_7 h4, layF_7 h4, ofF_8 h4, layF_8 h4, ofF_9 h4, layF_9 h4, of_0 hc, lay_0 hc, of_1 hc, lay_1 hc, of_2 hc, lay_2 hc, of_3 hc, lay_3 hc, of_4 hc, lay_4 hc, of_5 hc, lay_5 hc, of_6 hc, lay_6 hc, of_7 hc, lay_7 hc, of_8 hc, lay_8 hc, of_9 hc, lay_9 hc, of_10 hc, lay_10 hc, cnt_0, cnt_1, cnt_2, cnt_3, cnt_4, cnt_5, cnt_6, set_0, set_1, set_2, set_3, set_4, m0, m2, vuU, vuS, v5, v3, ha2, ha']
        simp [updA, m0, m2, v5, v3, ha2, ha']
        simp only [lay_0 hc, lay_3 hc, cnt_4, cnt_5, vuU, vuS]
        try simp
        exact hK
      · refine XS_one2 hR hf hc (by rw [hm]; decide) (by rw [hm]; decide) (by rw [hm]; decide) hc1 (by simp only [vuA, n1, n2, n3, n4, n5, n6, if_true, if_false]; rfl) (by simp only [vuA, n1, n2, n3, n4, n5, n6, if_true, if_false]; rfl) (by simp only [vuA, n1, n2, n3, n4, n5, n6, if_true, if_false]; rfl) (fun k k1 k2 k3 => by simp only [vuA, k1, k2, k3, if_false]) (by first | rfl | exact (vuSelf _ _).symm) (by first | rfl | exact (vuSelf _ _).symm) ?_ ?_ ?_ ?_ ?_ ?_
        · exact HR_14 hR.1
        · simp [FR, FM, frG, updA, ← g0, ← g1, ← g2, ← g3, ← g4, ← g5, ← g7, ← g8, ← g9, hm, hFM, hpe, f4, f6, f7, f8, f9]; exact ⟨po, hpo, rfl⟩
        · exact ⟨by simp [updA, l0, l1, l2, l3, l5], ds, LD_keep hD (by simp [updA]) (by simp [updA]) (by simp [updA]) (by simp [updA]) (by simp [updA]) (by simp [updA]), by simp [LSt, updA, z0, hS]⟩
        · simp [updA, hm, hc1, hc2, smt, s0]
        · exact fun hg => by simp [S6, updA, s0, hc2]
        · first | rfl | (simp [updA]; done)
  · obtain ⟨p2, rfl⟩ : ∃ p2, p' = p2 + 1 := ⟨p' - 1, by omega⟩
    have q1 : ¬ nI (p2 + 1) ≤ 0 := nle_s (by omega)
    have q2 : ¬ nI (p2 + 1) = 0 := ne_s (by omega)
    have q3 : 0 < nI (p2 + 1) := nI_lt (a := 0) (by omega) (by omega)
    apply simI
    · intro K hK
      simp only [wp_X0_takeStep, wp_X0_rise, wp_X1_become, wp_X0_sound, updA, forall_eq, hm, hc1, lix_nI hc, vuS, vuU, vuN n1, vuN n2, vuN n3, vuN n4, vuN n5, vuN n6, vuN n7, vuN n8, stg_0, stg_1, stg_2, stg_3, u5, u3, q1, q2, q3]
      simp [updA, u5, u3, q1, q2, q3]
      exact hK
    · intro Z K hK
      simp only [wp_X5_stepFinder, wp_X5_rise, ofF_0 h4, layF_0 h4, ofF_1 h4, layF_1 h4, ofF_2 h4, layF_2 h4, ofF_3 h4, layF_3 h4, ofF_4 h4, layF_4 h4, ofF_5 h4, layF_5 h4, ofF_6 h4, layF_6 h4, ofF_7 h4, layF_7 h4, ofF_8 h4, layF_8 h4, ofF_9 h4, layF_9 h4, of_0 hc, lay_0 hc, of_1 hc, lay_1 hc, of_2 hc, lay_2 hc, of_3 hc, lay_3 hc, of_4 hc, lay_4 hc, of_5 hc, lay_5 hc, of_6 hc, lay_6 hc, of_7 hc, lay_7 hc, of_8 hc, lay_8 hc, of_9 hc, lay_9 hc, of_10 hc, lay_10 hc, cnt_0, cnt_1, cnt_2, cnt_3, cnt_4, cnt_5, cnt_6, set_0, set_1, set_2, set_3, set_4, m0, m2, vuU, vuS, v5, v3, q1, q2, q3]
      simp [updA, m0, m2, v5, v3, q1, q2, q3]
      exact hK
    · refine XS_one2 hR hf hc (by rw [hm]; decide) (by rw [hm]; decide) (by rw [hm]; decide) hc1 (by simp only [vuA, n1, n2, n3, n4, n5, n6, if_true, if_false]; rfl) (by simp only [vuA, n1, n2, n3, n4, n5, n6, if_true, if_false]; rfl) (by simp only [vuA, n1, n2, n3, n4, n5, n6, if_true, if_false]; rfl) (fun k k1 k2 k3 => by simp only [vuA, k1, k2, k3, if_false]) (by first | rfl | exact (vuSelf _ _).symm) (by first | rfl | exact (vuSelf _ _).symm) ?_ ?_ ?_ ?_ ?_ ?_
      · exact hR.1
      · simp [FR, FM, frG, updA, ← g0, ← g1, ← g2, ← g3, ← g4, ← g5, ← g7, ← g8, ← g9, hm, hFM, hpe, f4, f6, f7, f8, f9, u5, u3, v5, v3]; exact ⟨⟨po, hpo, rfl⟩, a + 1, rfl, p2 + 1, rfl, by omega, by omega⟩
      · exact ⟨by simp [updA, l0, l1, l2, l3, l5], ds, LD_keep hD (by simp [updA]) (by simp [updA]) (by simp [updA]) (by simp [updA]) (by simp [updA]) (by simp [updA]), by simp [LSt, updA, z0, hS]⟩
      · simp [updA, hm, hc1, hc2, smt, s0]
      · exact fun hg => by simp [S6, updA, s0, hc2]
      · first | rfl | (simp [updA]; done)

set_option maxHeartbeats 2000000 in
theorem sim_hunt {q nf f : Nat} {X : ES} {h : CS} {N G : ES} (hR : XR q nf X h N G) (hf : f < nf) (hm : X (22 + f) 0 = 4) : SimS q nf X h N G f := by
  have h4 : f < 4 := by have := hR.1.2.1.2.1; omega
  obtain ⟨c, hc, hc1, hc2, hc3⟩ := hR.2.2.2.1 f h4 (by rw [hm]; decide)
  obtain ⟨⟨g0, g1, g2, g3, g4, g5, g7, g8, g9⟩, ⟨po, hpo, hpe⟩, hFM⟩ := hR.2.2.1 f h4
  obtain ⟨⟨l0, l1, l2, l3, l5⟩, ds, hD, hS⟩ := hR.2.1 c hc
  obtain ⟨w0, w1, w2, w3, w4⟩ := hR.1.2.2.2.2.2.2.2.1
  have m0 : G f 0 = 4 := g0.symm.trans hm
  have m2 : G f 2 = nI c := g2.symm.trans hc1
  have n1 : ¬ (22 + f = 6 + c) := by omega
  have n2 : ¬ (6 + c = 22 + f) := by omega
  have n3 : ¬ (22 + f = 0) := by omega
  have n4 : ¬ (6 + c = 0) := by omega
  have n5 : ¬ (0 = 22 + f) := by omega
  have n6 : ¬ (0 = 6 + c) := by omega
  have n7 : ¬ (5 = 22 + f) := by omega
  have n8 : ¬ (5 = 6 + c) := by omega
  simp [FM, hm] at hFM
  have s0 : X (6 + c) 0 = 3 := by simpa [smt, hm] using hc3
  have z0 : N c 0 = 3 := l0.symm.trans s0
  simp [LSt, z0] at hS
  obtain ⟨rr, hr1, hr2, hr3⟩ := hold_sim hR (X (22 + f) 3) (X (22 + f) 4)
  have hr3' := fun (Z : ES) => hr3 Z
  rw [g3, g4] at hr3'
  by_cases hr : rr = -6
  · subst hr
    apply simI
    · intro K hK
      simp only [wp_X0_takeStep, wp_X0_hunt, wp_X1_become, wp_X0_sound, forall_eq, hm, hc1, lix_nI hc, vuS, vuU, vuN n1, vuN n2, vuN n3, vuN n4, vuN n5, vuN n6]
      simp [updA]
      refine hr2 _ ?_
      simp [updA]
      exact hK
    · intro Z K hK
      simp only [wp_X5_stepFinder, wp_X5_hunt, ofF_0 h4, ofF_3 h4, ofF_4 h4, layF_0 h4, layF_7 h4, layF_4 h4, m0, vpl_2, hd_2]
      simp
      refine hr3' Z _ ?_
      simp [updA]
      simp only [layF_7 h4, vuU, vuS]
      exact hK
    · refine XS_one2 hR hf hc (by rw [hm]; decide) (by rw [hm]; decide) (by rw [hm]; decide) hc1 (by simp only [vuA, n1, n2, n3, n4, n5, n6, if_true, if_false]; rfl) (by simp only [vuA, n1, n2, n3, n4, n5, n6, if_true, if_false]; rfl) (by simp only [vuA, n1, n2, n3, n4, n5, n6, if_true, if_false]; rfl) (fun k k1 k2 k3 => by simp only [vuA, k1, k2, k3, if_false]) (by first | rfl | exact (vuSelf _ _).symm) (by first | rfl | exact (vuSelf _ _).symm) ?_ ?_ ?_ ?_ ?_ ?_
      · exact hR.1
      · simp [FR, FM, frG, updA, ← g0, ← g1, ← g2, ← g3, ← g4, ← g5, ← g7, ← g8, ← g9, hm, hFM, hpe]; exact ⟨po, hpo, rfl⟩
      · exact ⟨by simp [updA, l0, l1, l2, l3, l5], ds, LD_keep hD (by simp [updA]) (by simp [updA]) (by simp [updA]) (by simp [updA]) (by simp [updA]) (by simp [updA]), by simp [LSt, updA, z0, hS]⟩
      · simp [updA, hm, hc1, hc2, smt, s0]
      · exact fun hg => by simp [S6, updA, s0, hc2]
      · first | rfl | (simp [updA]; done)
  · have hr0 : 0 ≤ rr := by
      rcases hr1 with e | ⟨j, hj, e⟩
      · exact absurd e hr
      · rw [e]; exact nI_pos' (by omega)
    have hr0' : ¬ rr < 0 := fun z => absurd hr0 (Int32.not_le.mpr z)
    have w6 : X 0 6 = h 2 := hR.1.2.2.1.1
    by_cases hcc : X (22 + f) 4 + 1 < X 0 6
    · have hcc2 : ¬ h 2 ≤ G f 4 + 1 := by rw [← w6, ← g4]; exact Int32.not_le.mpr hcc
      have hcc3 : G f 4 + 1 < h 2 := by rw [← w6, ← g4]; exact hcc
      apply simI
      · intro K hK
        simp only [wp_X0_takeStep, wp_X0_hunt, wp_X1_become, wp_X0_sound, forall_eq, hm, hc1, lix_nI hc, vuS, vuU, vuN n1, vuN n2, vuN n3, vuN n4, vuN n5, vuN n6]
        simp [updA]
        refine hr2 _ ?_
        simp [updA, hr, hcc, Int32.not_le.mpr hcc]
        exact hK
      · intro Z K hK
        simp only [wp_X5_stepFinder, wp_X5_hunt, ofF_0 h4, ofF_3 h4, ofF_4 h4, layF_0 h4, layF_7 h4, layF_4 h4, m0, vpl_2, hd_2]
        simp
        refine hr3' Z _ ?_
        simp [updA, hr0, hr0', hcc2, hcc3]
        try simp only [layF_4 h4, vuU, vuS]
        exact hK
      · refine XS_one2 hR hf hc (by rw [hm]; decide) (by rw [hm]; decide) (by rw [hm]; decide) hc1 (by simp only [vuA, n1, n2, n3, n4, n5, n6, if_true, if_false]; rfl) (by simp only [vuA, n1, n2, n3, n4, n5, n6, if_true, if_false]; rfl) (by simp only [vuA, n1, n2, n3, n4, n5, n6, if_true, if_false]; rfl) (fun k k1 k2 k3 => by simp only [vuA, k1, k2, k3, if_false]) (by first | rfl | exact (vuSelf _ _).symm) (by first | rfl | exact (vuSelf _ _).symm) ?_ ?_ ?_ ?_ ?_ ?_
        · exact hR.1
        · simp [FR, FM, frG, updA, ← g0, ← g1, ← g2, ← g3, ← g4, ← g5, ← g7, ← g8, ← g9, hm, hFM, hpe]; exact ⟨po, hpo, rfl⟩
        · exact ⟨by simp [updA, l0, l1, l2, l3, l5], ds, LD_keep hD (by simp [updA]) (by simp [updA]) (by simp [updA]) (by simp [updA]) (by simp [updA]) (by simp [updA]), by simp [LSt, updA, z0, hS]⟩
        · simp [updA, hm, hc1, hc2, smt, s0]
        · exact fun hg => by simp [S6, updA, s0, hc2]
        · first | rfl | (simp [updA]; done)
    · have hcc2 : h 2 ≤ G f 4 + 1 := by rw [← w6, ← g4]; exact Int32.not_lt.mp hcc
      have hcc3 : ¬ G f 4 + 1 < h 2 := by rw [← w6, ← g4]; exact hcc
      apply simI
      · intro K hK
        simp only [wp_X0_takeStep, wp_X0_hunt, wp_X1_become, wp_X0_sound, forall_eq, hm, hc1, lix_nI hc, vuS, vuU, vuN n1, vuN n2, vuN n3, vuN n4, vuN n5, vuN n6]
        simp [updA]
        refine hr2 _ ?_
        simp [updA, hr, hcc, Int32.not_lt.mp hcc]
        exact hK
      · intro Z K hK
        simp only [wp_X5_stepFinder, wp_X5_hunt, ofF_0 h4, ofF_3 h4, ofF_4 h4, layF_0 h4, layF_7 h4, layF_4 h4, m0, vpl_2, hd_2]
        simp
        refine hr3' Z _ ?_
        simp [updA, hr0, hr0', hcc2, hcc3]
        simp only [wp_X5_sound, ofF_2 h4, m2, layF_0 h4, layF_4 h4, layF_9 h4, layF_7 h4, layF_5 h4, lay_0 hc, lay_3 hc, cnt_4, cnt_5, vuU, vuS]
        simp
        exact hK
      · refine XS_one2 hR hf hc (by rw [hm]; decide) (by rw [hm]; decide) (by rw [hm]; decide) hc1 (by simp only [vuA, n1, n2, n3, n4, n5, n6, if_true, if_false]; rfl) (by simp only [vuA, n1, n2, n3, n4, n5, n6, if_true, if_false]; rfl) (by simp only [vuA, n1, n2, n3, n4, n5, n6, if_true, if_false]; rfl) (fun k k1 k2 k3 => by simp only [vuA, k1, k2, k3, if_false]) (by first | rfl | exact (vuSelf _ _).symm) (by first | rfl | exact (vuSelf _ _).symm) ?_ ?_ ?_ ?_ ?_ ?_
        · exact HR_13 hR.1
        · simp [FR, FM, frG, updA, ← g0, ← g1, ← g2, ← g3, ← g4, ← g5, ← g7, ← g8, ← g9, hm, hFM, hpe]; exact ⟨po, hpo, rfl⟩
        · exact ⟨by simp [updA, l0, l1, l2, l3, l5], ds, LD_keep hD (by simp [updA]) (by simp [updA]) (by simp [updA]) (by simp [updA]) (by simp [updA]) (by simp [updA]), by simp [LSt, updA, z0, hS]⟩
        · simp [updA, hm, hc1, hc2, smt, s0]
        · exact fun hg => by simp [S6, updA, s0, hc2]
        · first | rfl | (simp [updA]; done)

