/-! one operation of a definition, on both sides -/
section RI
variable {C : xC} {K : Nat → Nat → xC → Prop} {Q : Nat → xC → Prop} {l4 a w : Nat} {D : xDf}
theorem rbodyC (hl : l4 ≤ 600) (h1 : 1 ≤ C.1 11) (h12 : C.1 11 ≤ 12) (ha : C.2.2.2.2.1 3 (C.1 11 - 1) = some a) (hD : xD C a D) (hpl : C.2.1 4 (C.1 11 - 1) < D.2.1) (hw : D.2.2.1 (C.2.1 4 (C.1 11 - 1)) = some (1048576 + w)) (hw5 : w < 55) (h9 : xwT w ≤ C.1 9 + D.2.2.2.2.1 (C.2.1 4 (C.1 11 - 1))) (hb1 : D.2.2.2.2.1 (C.2.1 4 (C.1 11 - 1)) < 1000) (hb9 : C.1 9 ≤ 24) (hs : C.1 14 ≤ 600)
    (hQ : C.1 14 = 600 → Q 60 C)
    (hP : C.1 14 < 600 → w_M_perform w (D.2.2.2.1 (C.2.1 4 (C.1 11 - 1))) (cN (cB (cN C 14 (C.1 14 + 1)) 4 (C.1 11 - 1) (C.2.1 4 (C.1 11 - 1) + 1)) 15 (C.1 15 + min (D.2.2.2.2.1 (C.2.1 4 (C.1 11 - 1))) (C.1 9 + D.2.2.2.2.1 (C.2.1 4 (C.1 11 - 1)) - xwT w))) (fun r C3 => (r < 61 ∧ ((r = 55 → (xD C3 a D ∧ (C.2.1 4 (C.1 11 - 1) < D.2.1 ∧ w_M_leaveWhatEnded (cN C3 16 (C3.1 16 + D.2.2.2.2.2 (C.2.1 4 (C.1 11 - 1)))) (fun C4 => K r (l4 + 1) C4)))) ∧ (¬ r = 55 → K r (l4 + 1) C3))))) : wi_M_doWord_28 K 55 l4 C Q := by
  unfold wi_M_doWord_28
  refine ⟨by omega, fun q => absurd q (by omega), fun _ => ⟨by omega, fun q => absurd q (by omega), fun _ => ⟨by decide, fun _ => ⟨h1, by omega, a, D, ha, hD, h1, by omega, ?_⟩, fun q => absurd rfl q⟩⟩⟩
  unfold w_M_takeStep
  refine ⟨by omega, fun q => ⟨by decide, fun _ => hQ q, fun q => absurd rfl q⟩, fun q => ⟨by decide, fun q => absurd q (by decide), fun _ => ⟨h1, (show C.1 11 - 1 < 12 by omega), hD, hpl, w, hw, hw5, hpl, ?_⟩⟩⟩
  unfold w_M_countLoads
  refine ⟨h9, by omega, (show C.1 9 + D.2.2.2.2.1 (C.2.1 4 (C.1 11 - 1)) - xwT w < 2147483648 by omega), hD, hpl, hpl, w, hw, ?_⟩
  exact hP (by omega)
theorem rlv {Q : xC → Prop} (h1 : 1 ≤ C.1 11) (h12 : C.1 11 ≤ 12) (ha : C.2.2.2.2.1 3 (C.1 11 - 1) = some a) (hD : xD C a D) (hp : C.2.1 4 (C.1 11 - 1) < 1000) (hy : C.2.1 4 (C.1 11 - 1) = D.2.1 → Q (cN C 11 (C.1 11 - 1))) (hn : ¬ C.2.1 4 (C.1 11 - 1) = D.2.1 → Q C) : w_M_leaveWhatEnded C Q := by
  have hz := hD.2.2.1
  unfold w_M_leaveWhatEnded
  exact ⟨h1, by omega, h1, by omega, a, D, ha, hD, by omega, by omega, fun q => ⟨h1, hy q⟩, hn⟩
end RI
section RJ
variable {M : xM} {Q : xM → Prop} {d k c : Nat}
theorem rtlM (hb : M.1 1 = 0) (hk : k < 2460) (hm : M.2.1 3 k < 1000) (hc : c < 1000) (h15 : c = 40 → 1 ≤ M.1 15 ∧ M.1 15 ≤ 12 ∧ d < 41 ∧ M.2.1 7 (M.1 15 - 1) < 1000 ∧ M.2.1 1 d < 1000)
    (hy : c = 40 → M.2.1 7 (M.1 15 - 1) = M.2.1 1 d → Q (dN (dN M 14 (M.1 14 + M.2.1 3 k % 16)) 15 (M.1 15 - 1))) (hn : ¬ (c = 40 ∧ M.2.1 7 (M.1 15 - 1) = M.2.1 1 d) → Q (dN M 14 (M.1 14 + M.2.1 3 k % 16))) : w_R_operate_216 d k c M Q := by
  unfold w_R_operate_216
  refine ⟨by omega, fun _ => ⟨hk, by omega, ?_⟩, fun q => absurd hb q⟩
  unfold w_R_operate_241
  refine ⟨(show M.1 1 < 2147483648 by omega), fun _ => ⟨by omega, fun q => ?_, fun q => hn fun z => q z.1⟩, fun q => absurd hb q⟩
  obtain ⟨a1, a2, a3, a4, a5⟩ := h15 q
  exact ⟨a1, (show M.1 15 - 1 < 13 by omega), a3, (show M.2.1 7 (M.1 15 - 1) < 2147483648 by omega), (show M.2.1 1 d < 2147483648 by omega), fun z => ⟨a1, hy q z⟩, fun z => hn fun y => z y.2⟩
theorem rtlMb (hb : ¬ M.1 1 = 0) (hb2 : M.1 1 < 2147483648) (h : Q M) : w_R_operate_216 d k c M Q := by
  unfold w_R_operate_216 w_R_operate_241
  exact ⟨hb2, fun q => absurd q hb, fun _ => ⟨hb2, fun q => absurd q hb, fun _ => h⟩⟩
end RJ
section RK
variable {C C' : xC} {M M' : xM} {H : Nat → Nat → Nat}
theorem rFr_top (hF : rFr C M H) (hd : 1 ≤ M.1 15) (e1 : C'.1 11 = C.1 11) (e2 : M'.1 15 = M.1 15) (e3 : M'.2.1 6 = M.2.1 6) (e4 : C'.2.2.2.2.1 = C.2.2.2.2.1) (e6 : M'.1 4 = M.1 4) (e7 : M'.2.1 1 = M.2.1 1) (t : Nat) (e8 : C'.2.1 4 = xu (C.2.1 4) (M.1 15 - 1) t) (e9 : M'.2.1 7 = xu (M.2.1 7) (M.1 15 - 1) t) (ht : t < M.2.1 1 (M.2.1 6 (M.1 15 - 1))) (hh : H (M.2.1 6 (M.1 15 - 1)) t ≤ M'.1 9) : rFr C' M' H := by
  obtain ⟨f1, f2, f3⟩ := hF
  refine ⟨by rw [e1, e2]; exact f1, by rw [e2]; exact f2, fun j hj => ?_⟩
  rw [e2] at hj ⊢
  obtain ⟨g1, g2, g3, g4, g5, g6⟩ := f3 j hj
  rw [e3, e4, e6, e7, e8, e9]
  unfold xu
  by_cases hjt : j = M.1 15 - 1
  · subst hjt
    rw [if_pos rfl, if_pos rfl]
    exact ⟨g1, g2, rfl, ht, fun q => by omega, hh⟩
  · rw [if_neg hjt, if_neg hjt]
    have z := g5 (by omega)
    exact ⟨g1, g2, g3, g4, g5, by rw [z]; exact Nat.zero_le _⟩
theorem rFr_pop (hF : rFr C M H) (hd : 1 ≤ M.1 15) (e1 : C'.1 11 = C.1 11 - 1) (e2 : M'.1 15 = M.1 15 - 1) (e3 : M'.2.1 6 = M.2.1 6) (e4 : C'.2.2.2.2.1 = C.2.2.2.2.1) (e6 : M'.1 4 = M.1 4) (e7 : M'.2.1 1 = M.2.1 1) (e8 : ∀ j, j < M.1 15 - 1 → C'.2.1 4 j = C.2.1 4 j) (e9 : ∀ j, j < M.1 15 - 1 → M'.2.1 7 j = M.2.1 7 j) : rFr C' M' H := by
  obtain ⟨f1, f2, f3⟩ := hF
  refine ⟨by rw [e1, e2, f1], by rw [e2]; omega, fun j hj => ?_⟩
  rw [e2] at hj ⊢
  obtain ⟨g1, g2, g3, g4, g5, g6⟩ := f3 j (by omega)
  rw [e3, e4, e6, e7, e8 j hj, e9 j hj]
  have z := g5 (by omega)
  exact ⟨g1, g2, g3, g4, fun _ => z, by rw [z]; exact Nat.zero_le _⟩
theorem rFr_push (hF : rFr C M H) (hd : 1 ≤ M.1 15) (h12 : M.1 15 < 12) (e1 : C'.1 11 = C.1 11 + 1) (e2 : M'.1 15 = M.1 15 + 1) (e : Nat) (he : e < M.1 4) (hs : 0 < M.2.1 1 e) (hH : H e 0 = 0) (e3 : M'.2.1 6 = xu (M.2.1 6) (M.1 15) e) (e4 : C'.2.2.2.2.1 3 = xu (C.2.2.2.2.1 3) (M.1 15) (C.2.2.2.2.1 0 e)) (e5 : C'.2.2.2.2.1 0 = C.2.2.2.2.1 0) (e6 : M'.1 4 = M.1 4) (e7 : M'.2.1 1 = M.2.1 1) (t : Nat) (e8 : C'.2.1 4 = xu (xu (C.2.1 4) (M.1 15 - 1) t) (M.1 15) 0) (e9 : M'.2.1 7 = xu (xu (M.2.1 7) (M.1 15 - 1) t) (M.1 15) 0) (ht : t < M.2.1 1 (M.2.1 6 (M.1 15 - 1))) (hh : H (M.2.1 6 (M.1 15 - 1)) t = 0) : rFr C' M' H := by
  obtain ⟨f1, f2, f3⟩ := hF
  refine ⟨by rw [e1, e2, f1], by rw [e2]; omega, fun j hj => ?_⟩
  rw [e2] at hj ⊢
  rw [e3, e4, e5, e6, e7, e8, e9]
  unfold xu
  by_cases hjn : j = M.1 15
  · subst hjn
    simp only [if_true]
    exact ⟨he, trivial, trivial, hs, fun _ => hH, by rw [hH]; exact Nat.zero_le _⟩
  · obtain ⟨g1, g2, g3, g4, g5, g6⟩ := f3 j (by omega)
    simp only [if_neg hjn]
    by_cases hjt : j = M.1 15 - 1
    · subst hjt
      simp only [if_true]
      exact ⟨g1, g2, trivial, ht, fun _ => hh, by rw [hh]; exact Nat.zero_le _⟩
    · simp only [if_neg hjt]
      have z := g5 (by omega)
      exact ⟨g1, g2, g3, g4, fun _ => z, by rw [z]; exact Nat.zero_le _⟩
end RK
/-- what an operation leaves -/
def rZ (H : Nat → Nat → Nat) (C : xC) (M : xM) (C' : xC) (f : Nat) (M' : xM) : Prop := rW C' M' ∧ rCt C' M' ∧ rgC C C' ∧ rgM M M' ∧ M'.1 1 = rfb f ∧ f < 61 ∧ 55 ≤ f ∧ (M'.1 15 ≤ 12 ∧ C'.1 11 ≤ 12) ∧ (f = 55 → rS C' M' ∧ rFr C' M' H ∧ M'.1 12 = M.1 12 + 1)
