-- ===== the first world =====
theorem Inv_init {o : Nat} {sv : Nat → Option Nat} {E E0 : ES} {fr : CS} (hX : ∀ k, k < 26 → E (o + 1 + k) = xbE E0 (o + 1) 16 4 fr (o + 1 + k)) (hF : FS fr) (h30 : E (o + 30) 0 = 0) (h54 : E (o + 54) 1 = 0) (hM : PM (vw (o + 56) E)) (s0 : sv 0 = none) (s1 : sv 1 = none) : Inv 0 o sv E := by
  obtain ⟨⟨h, N, G, m1, ⟨a0, a1, a2, a3, a4⟩, ⟨b5, b6, b7, b8, b9⟩, hz, hN, hG⟩, m5, q0, q1⟩ := hM
  obtain ⟨f0, f1, f2, f3, f4⟩ := hF
  have x0 : vw (o + 1) E 0 = zEx := by rw [show vw (o + 1) E 0 = E (o + 1 + 0) from rfl, hX 0 (by decide), xbE, if_pos (by omega)]
  have x3 : vw (o + 1) E 3 = zLi := by rw [show vw (o + 1) E 3 = E (o + 1 + 3) from rfl, hX 3 (by decide), xbE, if_neg (by omega), if_neg (by omega), if_neg (by omega), if_pos rfl]
  have x5 : vw (o + 1) E 5 = fr := by rw [show vw (o + 1) E 5 = E (o + 1 + 5) from rfl, hX 5 (by decide), xbE, if_neg (by omega), if_neg (by omega), if_neg (by omega), if_neg (by omega), if_neg (by omega), if_pos rfl]
  refine ⟨⟨2, h, N, G, XR_fresh ?_ (fun i hi => ?_) (fun f hf => ?_) hN hG, ⟨0, Nat.zero_le _, a0⟩, m1⟩, ⟨0, by decide, h54, m5, fun k hk => absurd hk (by omega)⟩, h30, Or.inl ⟨s0, q0⟩, Or.inl ⟨s1, q1⟩⟩
  · show HRr 0 2 (vw (o + 1) E 3) (vw (o + 1) E 0) (vw (o + 1) E 5) h
    rw [x0, x3, x5]
    refine ⟨rfl, ⟨by decide, by decide, a1, rfl⟩, ⟨by rw [a2]; rfl, 1, by decide, by decide, a2⟩, by rw [a0]; rfl, Or.inl ⟨a3, rfl⟩, ⟨0, Nat.le_refl _, a4, hz 10 (by decide) (by decide), rfl⟩, ⟨?_, ?_, ?_, ?_, ?_, ?_⟩, ⟨f0.trans b5.symm, f1.trans b6.symm, f2.trans b7.symm, f3.trans b8.symm, f4.trans b9.symm⟩, ⟨20, by decide, by decide, b5⟩, ⟨40, by decide, by decide, b6⟩, ⟨30, by decide, by decide, b7⟩, ⟨10, by decide, by decide, b8⟩, ⟨15, by decide, by decide, b9⟩⟩
    · rw [hz 11 (by decide) (by decide)]; rfl
    · rw [hz 12 (by decide) (by decide)]; rfl
    · rw [hz 13 (by decide) (by decide)]; rfl
    · rw [hz 14 (by decide) (by decide)]; rfl
    · rw [hz 15 (by decide) (by decide)]; rfl
    · rw [hz 16 (by decide) (by decide)]; rfl
  · have e : vw (o + 1) E (6 + i) = zLi := by rw [show vw (o + 1) E (6 + i) = E (o + 1 + (6 + i)) from rfl, hX (6 + i) (by omega), xbE, if_neg (by omega), if_neg (by omega), if_neg (by omega), if_neg (by omega), if_neg (by omega), if_neg (by omega), if_pos (by omega)]
    rw [e]; exact ⟨rfl, rfl, rfl, rfl, rfl, rfl, rfl, rfl⟩
  · have e : vw (o + 1) E (22 + f) = zFi := by rw [show vw (o + 1) E (22 + f) = E (o + 1 + (22 + f)) from rfl, hX (22 + f) (by omega), xbE, if_neg (by omega), if_neg (by omega), if_neg (by omega), if_neg (by omega), if_neg (by omega), if_neg (by omega), if_neg (by omega), if_pos (by omega)]
    rw [e]; exact ⟨rfl, rfl, rfl, rfl, rfl, rfl, rfl, rfl, rfl, rfl⟩
