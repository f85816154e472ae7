/-! one operation: the step of both loops -/
section RO
variable {nd d i w : Nat} {M : xM} {D : xDf} {h : Nat → Nat}
theorem rOp.n37 (k : rOp nd M d D h i w) : w = 37 → D.2.2.2.1 i = M.2.2.1 0 (60 * d + i) := k.2.2.2.2.2.2.2.2.1
theorem rOp.n49 (k : rOp nd M d D h i w) : w = 49 → ∃ e, e < nd ∧ D.2.2.2.1 i = nI e ∧ M.2.2.1 0 (60 * d + i) = nI e := k.2.2.2.2.2.2.2.2.2.1
theorem rOp.jmp (k : rOp nd M d D h i w) : 38 ≤ w → w ≤ 45 → w ≠ 41 → ∃ t, t < D.2.1 ∧ h t = 0 ∧ D.2.2.2.1 i = nI t ∧ M.2.2.1 0 (60 * d + i) = nI t := k.2.2.2.2.2.2.2.2.2.2.1
theorem rOp.e48 (k : rOp nd M d D h i w) : w = 48 → i + 1 = D.2.1 := k.2.2.2.2.2.2.2.2.2.2.2.1
theorem rOp.las (k : rOp nd M d D h i w) : i + 1 = D.2.1 → w = 48 ∨ (w = 37 ∧ D.2.1 = 1) := k.2.2.2.2.2.2.2.2.2.2.2.2.1
theorem rOp.nxt (k : rOp nd M d D h i w) : i + 1 < D.2.1 → (w < 38 → h (i + 1) + xwT w ≤ h i + D.2.2.2.2.1 i + xwL w) ∧ (38 ≤ w → h (i + 1) = 0) := k.2.2.2.2.2.2.2.2.2.2.2.2.2
end RO
section RL
variable {C : xC} {M : xM} {H : Nat → Nat → Nat} {l4 : Nat} {K : Nat → Nat → xC → Prop} {Q : Nat → xC → Prop}
/-- a fault leaves what it must -/
theorem rZ_no {C4 : xC} {M4 : xM} {f : Nat} (hW : rW C4 M4) (hCt : rCt C4 M4) (h1 : rgC C C4) (h2 : rgM M M4) (hb : M4.1 1 = rfb f) (hf : 55 < f) (hf2 : f < 61) (h15 : M4.1 15 ≤ 12 ∧ C4.1 11 ≤ 12) : rZ H C M C4 f M4 := ⟨hW, hCt, h1, h2, hb, hf2, by omega, h15, fun q => by omega⟩
/-- the states in which an operation is done: a step taken, the place moved on, loads counted -/
def rC3 (C : xC) (y : Nat) : xC := cN (cB (cN C 14 (C.1 14 + 1)) 4 (C.1 11 - 1) (C.2.1 4 (C.1 11 - 1) + 1)) 15 (C.1 15 + y)
def rM2 (M : xM) (y : Nat) : xM := dN (dN M 12 (M.1 12 + 1)) 13 (M.1 13 + y)
def rM3 (M : xM) (y : Nat) : xM := dB (rM2 M y) 7 (M.1 15 - 1) (M.2.1 7 (M.1 15 - 1) + 1)
theorem rC3_g (C : xC) (y : Nat) : rgC C (rC3 C y) := ⟨fun i hi => by simp only [rC3, cN, cB, xu]; rw [if_neg (by omega), if_neg (by omega)], fun k hk => by simp [rC3, cN, cB, xu2, hk], rfl, rfl, fun _ _ => rfl, rfl⟩
theorem rM3_g (M : xM) (y : Nat) : rgM M (rM3 M y) := ⟨fun i hi => by simp only [rM3, rM2, dN, dB, xu]; rw [if_neg (by omega), if_neg (by omega)], fun k hk => by simp [rM3, rM2, dN, dB, xu2]; omega, rfl, rfl⟩
/-- what must be shown of an operation that is done from there -/
theorem rstep (hS : rS C M) (hW : rW C M) (hCt : rCt C M) (hF : rFr C M H) (hDs : rDs C M H) (hb : M.1 1 = 0) (hd : 1 ≤ M.1 15) (hl : l4 ≤ M.1 12)
    (hQ : (∀ Q' : xM → Prop, (∀ M', rZ H C M C 60 M' → Q' M') → w_R_operate M Q') → Q 60 C)
    (hP : ∀ (a : Nat) (D : xDf) (w y : Nat), M.1 12 < 600 → C.2.2.2.2.1 3 (C.1 11 - 1) = some a → xD C a D → D.2.1 = M.2.1 1 (M.2.1 6 (M.1 15 - 1)) → M.2.1 7 (M.1 15 - 1) < D.2.1 → M.2.1 6 (M.1 15 - 1) < M.1 4 → rOp (M.1 4) M (M.2.1 6 (M.1 15 - 1)) D (H (M.2.1 6 (M.1 15 - 1))) (M.2.1 7 (M.1 15 - 1)) w → C.2.1 4 (C.1 11 - 1) = M.2.1 7 (M.1 15 - 1) →
      (∀ Q' : xM → Prop, w_R_operate_101 (M.2.1 6 (M.1 15 - 1)) (60 * M.2.1 6 (M.1 15 - 1) + M.2.1 7 (M.1 15 - 1)) (rcd w) (rM2 M y) Q' → w_R_operate M Q') →
      w_M_perform w (D.2.2.2.1 (M.2.1 7 (M.1 15 - 1))) (rC3 C y) (fun r C3 => (r < 61 ∧ ((r = 55 → (xD C3 a D ∧ (M.2.1 7 (M.1 15 - 1) < D.2.1 ∧ w_M_leaveWhatEnded (cN C3 16 (C3.1 16 + D.2.2.2.2.2 (M.2.1 7 (M.1 15 - 1)))) (fun C4 => K r (l4 + 1) C4)))) ∧ (¬ r = 55 → K r (l4 + 1) C3))))) : wi_M_doWord_28 K 55 l4 C Q := by
  obtain ⟨t1, t2, t3, t4, t5⟩ := id hCt
  obtain ⟨f1, f2, f3⟩ := id hF
  have f4 := f3 (M.1 15 - 1) (by omega)
  have g1 := f4.1
  have g2 := f4.2.1
  have g3 := f4.2.2.1
  have g4 := f4.2.2.2.1
  have g6 := f4.2.2.2.2.2
  obtain ⟨d1, d2, d3⟩ := id hDs
  obtain ⟨a, D, k1, k2, k3, k4, k5, k6, k7⟩ := d3 _ g1
  obtain ⟨s1, s2, s3, s4, s5, s6⟩ := id hS
  have ep : C.2.1 4 (C.1 11 - 1) = M.2.1 7 (M.1 15 - 1) := by rw [f1]; exact g3
  have gp : M.2.1 7 (M.1 15 - 1) < D.2.1 := by rw [k3]; exact g4
  obtain ⟨w, hop⟩ := k7 _ gp
  have o1 := hop.1
  have o2 := hop.2.1
  have o3 := hop.2.2.1
  have o4 := hop.2.2.2.1
  have o5 := hop.2.2.2.2.1
  have o7 := hop.2.2.2.2.2.2.1
  have o8 := hop.2.2.2.2.2.2.2.1
  have hT : xwT w < 5 := (by decide : ∀ w, w < 50 → xwT w < 5) w o1
  have hk : 60 * M.2.1 6 (M.1 15 - 1) + M.2.1 7 (M.1 15 - 1) < 2460 := by omega
  have ha : C.2.2.2.2.1 3 (C.1 11 - 1) = some a := by rw [f1, g2]; exact k1
  have hlw : xwT w ≤ M.1 9 + M.2.1 3 (60 * M.2.1 6 (M.1 15 - 1) + M.2.1 7 (M.1 15 - 1)) / 16 := by omega
  refine rbodyC (w := w) (by omega) (by omega) (by omega) ha k2 (by rw [ep]; exact gp) (by rw [ep]; exact o3) (by omega) (by rw [ep, s1, o5]; exact hlw) (by rw [ep, o5]; omega) (by omega) (by omega) (fun q => hQ fun Q' hq => ?_) (fun q => ?_)
  · refine rope o1 o2 hb hd f2 s2 t2 rfl rfl hk o4 o7 hlw (fun _ => hq _ ?_) (fun z => by omega)
    exact rZ_no hW hCt (rgC.rf C) ⟨fun i hi => by simp [dN, xu]; omega, fun _ _ => rfl, rfl, rfl⟩ rfl (by decide) (by decide) ⟨f2, by omega⟩
  · rw [ep, s1, o5]
    have := hP a D w (min (M.2.1 3 (60 * M.2.1 6 (M.1 15 - 1) + M.2.1 7 (M.1 15 - 1)) / 16) (M.1 9 + M.2.1 3 (60 * M.2.1 6 (M.1 15 - 1) + M.2.1 7 (M.1 15 - 1)) / 16 - xwT w)) (by omega) ha k2 k3 gp g1 hop ep (fun Q' h => rope o1 o2 hb hd f2 s2 t2 rfl rfl hk o4 o7 hlw (fun z => by omega) (fun _ => h))
    unfold rC3 at this
    rw [ep] at this
    exact this
end RL
