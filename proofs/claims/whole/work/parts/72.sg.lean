/-! both sides, between words -/
/-- the cells behind: e exceptions, and five for each definition -/
def rRm (z0 e : Nat) (C : xC) : Prop := C.2.2.2.2.2.2.1.length ≤ 5 * C.1 4 + e ∧ C.2.2.2.2.2.2.2 ≤ z0 + 246 * C.1 4 + 6 * e
/-- what is alike also behind a fault -/
def rF (z0 e : Nat) (C : xC) (M : xM) : Prop := rW C M ∧ rCt C M ∧ C.1 12 = M.1 5 ∧ M.1 5 ≤ 64 ∧ (∃ H, rDs C M H) ∧ rNm C M ∧ rRm z0 e C ∧ C.2.1 0 = M.2.1 0
def rTx (C : xC) (M : xM) : Prop := C.1 0 = M.1 2 ∧ M.1 2 ≤ 160 ∧ C.2.1 0 = M.2.1 0 ∧ ∀ j, j < M.1 2 → 32 ≤ M.2.1 0 j ∧ M.2.1 0 j ≤ 126
def rCp (C : xC) (M : xM) : Prop := C.1 5 = M.1 6 ∧ M.1 6 ≤ 1 ∧ (M.1 6 = 1 → (∃ h, rKp C M h) ∧ C.1 8 = M.1 8 ∧ rNm1 C.2.2.2.1 (M.2.2.2 (M.1 4)))
def rI (z0 e : Nat) (C : xC) (M : xM) : Prop := rF z0 e C M ∧ rTx C M ∧ rS C M ∧ rCp C M ∧ M.1 1 = 0 ∧ M.1 15 = 0 ∧ M.1 0 = 0
section SG
variable {z0 e : Nat} {C C' : xC} {M M' : xM}
theorem rF.g (k : rF z0 e C M) (hc : rgC C C') (hm : rgM M M') (hW : rW C' M') (hCt : rCt C' M') : rF z0 e C' M' := by
  obtain ⟨k1, k2, k3, k4, ⟨H, k5⟩, k6, k7⟩ := k
  have m5 : M'.1 5 = M.1 5 := hm.1 5 (by decide)
  refine ⟨hW, hCt, by rw [hc.1 12 (by decide), m5]; exact k3, by rw [m5]; exact k4, ⟨H, k5.eq hc hm⟩, k6.g hc hm, ?_, by rw [hc.2.1 0 (by decide), hm.2.1 0 (by decide)]; exact k7.2⟩
  unfold rRm
  rw [hc.2.2.2.2.2, hc.1 4 (by decide)]; exact k7.1
theorem rF.h (k : rF z0 e C M) (hc : rhC C C') (hm : rhM M M') : rF z0 e C' M' := by
  obtain ⟨⟨k1a, k1b, k1c⟩, ⟨t1, t2, t3, t4, t5⟩, k3, k4, ⟨H, k5⟩, k6, k7⟩ := k
  have m5 : M'.1 5 = M.1 5 := hm.1 5 (by decide) (by decide) (by decide) (by decide)
  have m11 : M'.1 11 = M.1 11 := hm.1 11 (by decide) (by decide) (by decide) (by decide)
  have m12 : M'.1 12 = M.1 12 := hm.1 12 (by decide) (by decide) (by decide) (by decide)
  have m13 : M'.1 13 = M.1 13 := hm.1 13 (by decide) (by decide) (by decide) (by decide)
  have m14 : M'.1 14 = M.1 14 := hm.1 14 (by decide) (by decide) (by decide) (by decide)
  have a3 := hm.2.2.2.2.1 3 (by decide)
  have a4 := hm.2.2.2.2.1 4 (by decide)
  refine ⟨⟨by rw [hc.2.2.1 3 (by decide), a3]; exact k1a, by rw [hc.1 13 (by decide), m11]; exact k1b, by rw [hc.2.2.1 4 (by decide), m11, a4]; exact k1c⟩, ⟨by rw [hc.1 14 (by decide), m12]; exact t1, by rw [m12]; exact t2, by rw [hc.1 15 (by decide), m13]; exact t3, by rw [hc.1 16 (by decide), m14]; exact t4, by rw [m11, m12]; exact t5⟩, by rw [hc.1 12 (by decide), m5]; exact k3, by rw [m5]; exact k4, ⟨H, k5.h hc hm⟩, k6.h hc hm, ?_, by rw [hc.2.1 0 (by decide), hm.2.1 0 (by decide)]; exact k7.2⟩
  unfold rRm
  rw [hc.2.2.2.2, hc.1 4 (by decide)]; exact k7.1
theorem rTx.g (k : rTx C M) (hc : rgC C C') (hm : rgM M M') : rTx C' M' := by
  obtain ⟨k1, k2, k2b, k3⟩ := k
  have m2 : M'.1 2 = M.1 2 := hm.1 2 (by decide)
  refine ⟨by rw [hc.1 0 (by decide), m2]; exact k1, by rw [m2]; exact k2, by rw [hc.2.1 0 (by decide), hm.2.1 0 (by decide)]; exact k2b, fun j hj => ?_⟩
  rw [m2] at hj
  rw [hm.2.1 0 (by decide)]; exact k3 j hj
theorem rTx.h (k : rTx C M) (hc : rhC C C') (hm : rhM M M') : rTx C' M' := by
  obtain ⟨k1, k2, k2b, k3⟩ := k
  have m2 : M'.1 2 = M.1 2 := hm.1 2 (by decide) (by decide) (by decide) (by decide)
  refine ⟨by rw [hc.1 0 (by decide), m2]; exact k1, by rw [m2]; exact k2, by rw [hc.2.1 0 (by decide), hm.2.1 0 (by decide)]; exact k2b, fun j hj => ?_⟩
  rw [m2] at hj
  rw [hm.2.1 0 (by decide)]; exact k3 j hj
theorem rS.h (k : rS C M) (hc : rhC C C') (hm : rhM M M') : rS C' M' := by
  obtain ⟨k1, k2, k3, k4, k5, k6⟩ := k
  have m9 : M'.1 9 = M.1 9 := hm.1 9 (by decide) (by decide) (by decide) (by decide)
  have m10 : M'.1 10 = M.1 10 := hm.1 10 (by decide) (by decide) (by decide) (by decide)
  exact ⟨by rw [hc.1 9 (by decide), m9]; exact k1, by rw [m9]; exact k2, by rw [m9, hc.2.2.1 1 (by decide), hm.2.2.2.2.1 1 (by decide)]; exact k3, by rw [hc.1 10 (by decide), m10]; exact k4, by rw [m10]; exact k5, by rw [m10, hc.2.2.1 2 (by decide), hm.2.2.2.2.1 2 (by decide)]; exact k6⟩
/-- how a word ends -/
def rX (z0 e : Nat) (C : xC) (M : xM) (C' : xC) (f : Nat) (M' : xM) : Prop := 55 ≤ f ∧ f < 61 ∧ M'.1 1 = rfb f ∧ rF z0 e C' M' ∧ M'.1 3 ≤ 160 ∧ (f = 55 → rI z0 e C' M' ∧ C'.1 3 = M'.1 3 ∧ C.1 3 ≤ C'.1 3 ∧ C'.1 3 ≤ C'.1 0 ∧ C'.1 1 = C.1 1 + (if M'.1 3 ≤ M.1 3 then 0 else 1))
/-- behind a run -/
theorem rI.g {f : Nat} (k : rI z0 e C M) (h3 : C.1 3 = M.1 3) (h30 : C.1 3 ≤ C.1 0) (h6 : M.1 6 = 0) (y : rY C M C' f M') : rX z0 e C M C' f M' := by
  obtain ⟨k1, k2, k3, k4, k5, k6⟩ := k
  obtain ⟨y1, y2, y3, y4, y5, y6, y7, y8⟩ := y
  have m3 : M'.1 3 = M.1 3 := y4.1 3 (by decide)
  have c3 : C'.1 3 = C.1 3 := y3.1 3 (by decide)
  have c1 : C'.1 1 = C.1 1 := y3.1 1 (by decide)
  have c0 : C'.1 0 = C.1 0 := y3.1 0 (by decide)
  have t1 := k2.1
  have t2 := k2.2.1
  refine ⟨y7, y6, y5, k1.g y3 y4 y1 y2, by omega, fun q => ?_⟩
  obtain ⟨y8', y9⟩ := y8 q
  subst q
  have m6 : M'.1 6 = 0 := (y4.1 6 (by decide)).trans h6
  refine ⟨⟨k1.g y3 y4 y1 y2, k2.g y3 y4, y8', ⟨?_, by omega, fun q => by omega⟩, y5, y9, (y4.1 0 (by decide)).trans k6.2⟩, by omega, by omega, by omega, ?_⟩
  · rw [y3.1 5 (by decide), y4.1 6 (by decide)]; exact k4.1
  · rw [if_pos (by omega)]; exact c1
/-- behind a word that was compiled -/
theorem rI.u {r : Nat} (k : rI z0 e C M) (h3 : C.1 3 = M.1 3) (h30 : C.1 3 ≤ C.1 0) (h6 : M.1 6 = 1) (y : rU C M C' r M') : rX z0 e C M C' (if r = 0 then 57 else 55) M' := by
  obtain ⟨k1, k2, k3, k4, k5, k6⟩ := k
  have t1 := k2.1
  have t2 := k2.2.1
  rcases y with ⟨rfl, y1, y2, y3, y4⟩ | ⟨rfl, y1, y2, y3⟩
  · obtain ⟨a1, a2, a3, a4, a5, a6⟩ := y1
    have m3 : M'.1 3 = M.1 3 := a2.1 3 (by decide) (by decide) (by decide) (by decide)
    have m4 : M'.1 4 = M.1 4 := a2.1 4 (by decide) (by decide) (by decide) (by decide)
    have c3 : C'.1 3 = C.1 3 := a1.1 3 (by decide)
    have c1 : C'.1 1 = C.1 1 := a1.1 1 (by decide)
    have c0 : C'.1 0 = C.1 0 := a1.1 0 (by decide)
    have m15 : M'.1 15 = M.1 15 := a2.1 15 (by decide) (by decide) (by decide) (by decide)
    refine ⟨by decide, by decide, y4, k1.h a1 a2, by omega, fun _ => ⟨⟨k1.h a1 a2, k2.h a1 a2, k3.h a1 a2, ⟨by rw [a3, a5]; exact k4.1, by rw [a5]; exact k4.2.1, fun _ => ⟨y2, y3, ?_⟩⟩, y4, m15.trans k6.1, (a2.1 0 (by decide) (by decide) (by decide) (by decide)).trans k6.2⟩, by omega, by omega, by omega, ?_⟩⟩
    · rw [a4, a6, m4]; exact (k4.2.2 h6).2.2
    · rw [if_pos (by omega)]; exact c1
  · have m3 : M'.1 3 = M.1 3 := y2.1 3 (by decide) (by decide) (by decide) (by decide)
    exact ⟨by decide, by decide, y3, k1.h y1 y2, by omega, fun q => absurd q (by decide)⟩
/-- behind the end of a definition -/
theorem rF.en (k : rF z0 e C M) (y : rEn C M C' M') : rF z0 e C' M' := by
  obtain ⟨⟨k1a, k1b, k1c⟩, ⟨t1, t2, t3, t4, t5⟩, k3, k4, ⟨H, k5⟩, k6, ⟨k7a, k7b⟩, k8⟩ := k
  obtain ⟨y1, y2, y3, y4, y5, y6, y7, y8, y9, y10, y11, y12, y13, y14, y15⟩ := y
  have m5 : M'.1 5 = M.1 5 := y13 5 (by decide) (by decide) (by decide) (by decide) (by decide)
  have m11 : M'.1 11 = M.1 11 := y13 11 (by decide) (by decide) (by decide) (by decide) (by decide)
  have m12 : M'.1 12 = M.1 12 := y13 12 (by decide) (by decide) (by decide) (by decide) (by decide)
  have m13 : M'.1 13 = M.1 13 := y13 13 (by decide) (by decide) (by decide) (by decide) (by decide)
  have m14 : M'.1 14 = M.1 14 := y13 14 (by decide) (by decide) (by decide) (by decide) (by decide)
  have a3 := y15 3 (by decide)
  have a4 := y15 4 (by decide)
  refine ⟨⟨by rw [y9 3 (by decide), a3]; exact k1a, by rw [y7 13 (by decide), m11]; exact k1b, by rw [y9 4 (by decide), m11, a4]; exact k1c⟩, ⟨by rw [y7 14 (by decide), m12]; exact t1, by rw [m12]; exact t2, by rw [y7 15 (by decide), m13]; exact t3, by rw [y7 16 (by decide), m14]; exact t4, by rw [m11, m12]; exact t5⟩, by rw [y7 12 (by decide), m5]; exact k3, by rw [m5]; exact k4, y1, y2, ?_, by rw [y8 0 (by decide), y14 0 (by decide)]; exact k8⟩
  unfold rRm
  rw [y5]
  exact ⟨by omega, by omega⟩
theorem rTx.en (k : rTx C M) (y : rEn C M C' M') : rTx C' M' := by
  obtain ⟨k1, k2, k2b, k3⟩ := k
  obtain ⟨y1, y2, y3, y4, y5, y6, y7, y8, y9, y10, y11, y12, y13, y14, y15⟩ := y
  have m2 : M'.1 2 = M.1 2 := y13 2 (by decide) (by decide) (by decide) (by decide) (by decide)
  refine ⟨by rw [y7 0 (by decide), m2]; exact k1, by rw [m2]; exact k2, by rw [y8 0 (by decide), y14 0 (by decide)]; exact k2b, fun j hj => ?_⟩
  rw [m2] at hj
  rw [y14 0 (by decide)]; exact k3 j hj
theorem rS.en (k : rS C M) (y : rEn C M C' M') : rS C' M' := by
  obtain ⟨k1, k2, k3, k4, k5, k6⟩ := k
  obtain ⟨y1, y2, y3, y4, y5, y6, y7, y8, y9, y10, y11, y12, y13, y14, y15⟩ := y
  have m9 : M'.1 9 = M.1 9 := y13 9 (by decide) (by decide) (by decide) (by decide) (by decide)
  have m10 : M'.1 10 = M.1 10 := y13 10 (by decide) (by decide) (by decide) (by decide) (by decide)
  exact ⟨by rw [y7 9 (by decide), m9]; exact k1, by rw [m9]; exact k2, by rw [m9, y9 1 (by decide), y15 1 (by decide)]; exact k3, by rw [y7 10 (by decide), m10]; exact k4, by rw [m10]; exact k5, by rw [m10, y9 2 (by decide), y15 2 (by decide)]; exact k6⟩
theorem rI.ed {r : Nat} (k : rI z0 e C M) (h3 : C.1 3 = M.1 3) (h30 : C.1 3 ≤ C.1 0) (y : rE C M C' r M') : rX z0 e C M C' (if r = 0 then 57 else 55) M' := by
  obtain ⟨k1, k2, k3, k4, k5, k6⟩ := k
  have t1 := k2.1
  have t2 := k2.2.1
  rcases y with ⟨rfl, y1, y2⟩ | ⟨rfl, y1, y2, y3⟩
  · have k1' := k1.en y1
    have k2' := k2.en y1
    have k3' := k3.en y1
    obtain ⟨y1, y2', y3, y4, y5, y6, y7, y8, y9, y10, y11, y12, y13, y14, y15⟩ := y1
    have m3 : M'.1 3 = M.1 3 := y13 3 (by decide) (by decide) (by decide) (by decide) (by decide)
    have m15 : M'.1 15 = M.1 15 := y13 15 (by decide) (by decide) (by decide) (by decide) (by decide)
    have c3 : C'.1 3 = C.1 3 := y7 3 (by decide)
    have c1 : C'.1 1 = C.1 1 := y7 1 (by decide)
    have c0 : C'.1 0 = C.1 0 := y7 0 (by decide)
    refine ⟨by decide, by decide, y4, k1', by omega, fun _ => ⟨⟨k1', k2', k3', ⟨by omega, by omega, fun q => by omega⟩, y4, m15.trans k6.1, (y13 0 (by decide) (by decide) (by decide) (by decide) (by decide)).trans k6.2⟩, by omega, by omega, by omega, ?_⟩⟩
    rw [if_pos (by omega)]; exact c1
  · have m3 : M'.1 3 = M.1 3 := y2.1 3 (by decide) (by decide) (by decide) (by decide)
    exact ⟨by decide, by decide, y3, k1.h y1 y2, by omega, fun q => absurd q (by decide)⟩
/-- a fault, nothing else -/
theorem rI.f {f : Nat} (k : rI z0 e C M) (h3 : M.1 3 ≤ 160) (hf : 55 < f) (hf2 : f < 61) : rX z0 e C M C f (dN M 1 (rfb f)) := by
  exact ⟨by omega, hf2, rfl, k.1.h (rhC.rf C) (rhM_1 M _), h3, fun q => by omega⟩
end SG
