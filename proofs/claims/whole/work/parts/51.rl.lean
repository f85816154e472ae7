/-! operations that control: the step -/
theorem xu_xu {α : Type} (f : Nat → α) (i : Nat) (a b : α) : xu (xu f i a) i b = xu f i b := by
  funext j
  simp only [xu]
  split <;> rfl
/-- what must follow once an operation is done -/
def rKK (a : Nat) (D : xDf) (p : Nat) (K : Nat → xC → Prop) (r : Nat) (C3 : xC) : Prop := r < 61 ∧ ((r = 55 → (xD C3 a D ∧ (p < D.2.1 ∧ w_M_leaveWhatEnded (cN C3 16 (C3.1 16 + D.2.2.2.2.2 p)) (fun C4 => K r C4)))) ∧ (¬ r = 55 → K r C3))
section RU
variable {C : xC} {M : xM} {H : Nat → Nat → Nat} {K : Nat → xC → Prop} {a w y : Nat} {D : xDf} {n : Int32}
/-- what is known when an operation is done -/
def rA (H : Nat → Nat → Nat) (C : xC) (M : xM) (a : Nat) (D : xDf) (w y : Nat) : Prop := rS C M ∧ rW C M ∧ rCt C M ∧ rFr C M H ∧ M.1 1 = 0 ∧ 1 ≤ M.1 15 ∧ M.1 12 < 600 ∧ C.2.2.2.2.1 3 (C.1 11 - 1) = some a ∧ xD C a D ∧ D.2.1 = M.2.1 1 (M.2.1 6 (M.1 15 - 1)) ∧ M.2.1 7 (M.1 15 - 1) < D.2.1 ∧ M.2.1 6 (M.1 15 - 1) < 40 ∧ rOp (M.1 4) M (M.2.1 6 (M.1 15 - 1)) D (H (M.2.1 6 (M.1 15 - 1))) (M.2.1 7 (M.1 15 - 1)) w ∧ C.2.1 4 (C.1 11 - 1) = M.2.1 7 (M.1 15 - 1) ∧ ∀ Q' : xM → Prop, w_R_operate_101 (M.2.1 6 (M.1 15 - 1)) (60 * M.2.1 6 (M.1 15 - 1) + M.2.1 7 (M.1 15 - 1)) (rcd w) (rM2 M y) Q' → w_R_operate M Q'
/-- it goes on at place t of the same definition -/
theorem rkk {C4 : xC} {M4 : xM} {t : Nat} (hA : rA H C M a D w y) (hc : rcd w ≠ 40) (hcb : rcd w < 1000) (hK : ∀ f C', (∀ Q' : xM → Prop, (∀ M', rZ H C M C' f M' → Q' M') → w_R_operate M Q') → K f C')
    (hS4 : rS C4 M4) (hW4 : rW C4 M4) (gC : rgC C C4) (c14 : C4.1 14 = C.1 14 + 1) (c15 : C4.1 15 = C.1 15 + y) (c16 : C4.1 16 = C.1 16) (c11 : C4.1 11 = C.1 11) (cr : C4.2.2.2.2.1 = C.2.2.2.2.1) (c4 : C4.2.1 4 = xu (C.2.1 4) (M.1 15 - 1) t)
    (gM : rgM M M4) (m12 : M4.1 12 = M.1 12 + 1) (m13 : M4.1 13 = M.1 13 + y) (m14 : M4.1 14 = M.1 14) (m15 : M4.1 15 = M.1 15) (m11 : M4.1 11 ≤ M.1 11 + 1) (hb4 : M4.1 1 = 0) (m6 : M4.2.1 6 = M.2.1 6) (m7 : M4.2.1 7 = xu (M.2.1 7) (M.1 15 - 1) t)
    (ht : t < D.2.1) (hh : H (M.2.1 6 (M.1 15 - 1)) t ≤ M4.1 9)
    (hrun : ∀ Q' : xM → Prop, w_R_operate_216 (M.2.1 6 (M.1 15 - 1)) (60 * M.2.1 6 (M.1 15 - 1) + M.2.1 7 (M.1 15 - 1)) (rcd w) M4 Q' → w_R_operate M Q') : rKK a D (M.2.1 7 (M.1 15 - 1)) K 55 C4 := by
  obtain ⟨hS, hW, hCt, hF, hb, hd, hst, ha, hD, hsz, hp, hdn, hop, ep, hopr⟩ := hA
  have f1 := hF.1
  have f2 := hF.2.1
  have o7 := hop.2.2.2.2.2.2.1
  have o6 := hop.2.2.2.2.2.1
  have hz := hD.2.2.1
  have hD4 : xD C4 a D := hD.eq gC.2.2.2.2.2
  refine ⟨by decide, fun _ => ⟨hD4, hp, ?_⟩, fun q => absurd rfl q⟩
  have e11 : (cN C4 16 (C4.1 16 + D.2.2.2.2.2 (M.2.1 7 (M.1 15 - 1)))).1 11 = C.1 11 := c11
  have epl : (cN C4 16 (C4.1 16 + D.2.2.2.2.2 (M.2.1 7 (M.1 15 - 1)))).2.1 4 (C.1 11 - 1) = t := by
    show C4.2.1 4 (C.1 11 - 1) = _
    rw [c4, f1]
    simp [xu]
  refine rlv (a := a) (D := D) (by rw [e11]; omega) (by rw [e11]; omega) (by rw [e11]; show C4.2.2.2.2.1 3 _ = _; rw [cr]; exact ha) (hD4.eq rfl) (by rw [e11, epl]; omega) (fun q => ?_) (fun q => ?_)
  · rw [e11, epl] at q
    omega
  · refine hK 55 _ fun Q' hq => hrun Q' ?_
    have em3 : M4.2.1 3 = M.2.1 3 := gM.2.1 3 (by decide)
    have hk : 60 * M.2.1 6 (M.1 15 - 1) + M.2.1 7 (M.1 15 - 1) < 2460 := by omega
    refine rtlM hb4 hk (by rw [em3]; omega) (by omega) (fun q => absurd q hc) (fun q => absurd q hc) (fun _ => hq _ ?_)
    rw [em3, o6]
    exact rZ_ok hCt hst hW4 hS4 gC gM c14 c15 c16 m12 m13 m14 m11 hb4 (rFr_top hF hd c11 m15 m6 cr (gM.1 4 (by omega)) (gM.2.1 1 (by decide)) t c4 m7 (by omega) hh)
/-- a fault -/
theorem rkf {C4 : xC} {M4 : xM} (hA : rA H C M a D w y) (hK : ∀ f C', (∀ Q' : xM → Prop, (∀ M', rZ H C M C' f M' → Q' M') → w_R_operate M Q') → K f C') (hW4 : rW C4 M4) (gC : rgC C C4) (c14 : C4.1 14 = C.1 14 + 1) (c15 : C4.1 15 = C.1 15 + y) (c16 : C4.1 16 = C.1 16) (gM : rgM M M4) (m12 : M4.1 12 = M.1 12 + 1) (m13 : M4.1 13 = M.1 13 + y) (m14 : M4.1 14 = M.1 14) (m11 : M4.1 11 ≤ M.1 11 + 1) (hb4 : M4.1 1 = 3) (m15 : M4.1 15 ≤ 12 ∧ C4.1 11 ≤ 12)
    (hrun : ∀ Q' : xM → Prop, Q' M4 → w_R_operate M Q') : rKK a D (M.2.1 7 (M.1 15 - 1)) K 58 C4 := by
  obtain ⟨hS, hW, hCt, hF, hb, hd, hst, ha, hD, hsz, hp, hdn, hop, ep, hopr⟩ := hA
  obtain ⟨t1, t2, t3, t4, t5⟩ := hCt
  exact ⟨by decide, fun q => absurd q (by decide), fun _ => hK 58 C4 fun Q' hq => hrun Q' (hq _ (rZ_no hW4 ⟨by omega, by omega, by omega, by omega, by omega⟩ gC gM hb4 (by decide) (by decide) m15))⟩
theorem rA.C3 (hA : rA H C M a D w y) : (rC3 C y).2.1 4 = xu (C.2.1 4) (M.1 15 - 1) (M.2.1 7 (M.1 15 - 1) + 1) := by
  obtain ⟨hS, hW, hCt, hF, hb, hd, hst, ha, hD, hsz, hp, hdn, hop, ep, hopr⟩ := hA
  show xu (C.2.1 4) (C.1 11 - 1) (C.2.1 4 (C.1 11 - 1) + 1) = _
  rw [ep, hF.1]
/-- ELSE, AGAIN, REPEAT -/
theorem rst_j (hw : w = 42 ∨ w = 43 ∨ w = 44) (hA : rA H C M a D w y) (hK : ∀ f C', (∀ Q' : xM → Prop, (∀ M', rZ H C M C' f M' → Q' M') → w_R_operate M Q') → K f C') : w_M_perform w (D.2.2.2.1 (M.2.1 7 (M.1 15 - 1))) (rC3 C y) (rKK a D (M.2.1 7 (M.1 15 - 1)) K) := by
  have hA0 := hA
  obtain ⟨hS, hW, hCt, hF, hb, hd, hst, ha, hD, hsz, hp, hdn, hop, ep, hopr⟩ := hA
  obtain ⟨s1, s2, s3, s4, s5, s6⟩ := id hS
  have f2 := hF.2.1
  have f1 := hF.1
  have e : xwT w = 0 ∧ xwL w = 0 ∧ xwK w = 7 ∧ rcd w = 46 := by rcases hw with h | h | h <;> subst h <;> decide
  obtain ⟨eT, eL, eK, eC⟩ := e
  obtain ⟨t, j1, j2, j3, j4⟩ := hop.jmp (by omega) (by omega) (by omega)
  have hk : 60 * M.2.1 6 (M.1 15 - 1) + M.2.1 7 (M.1 15 - 1) < 2460 := by have := hD.2.2.1; omega
  refine rpfC (by omega) (show C.1 9 ≤ 24 by omega) (fun q => by omega) (fun _ q => ?_) (fun _ _ => ⟨fun q => by omega, fun q => by omega, fun q => by omega, fun q => by omega, fun q => by omega, fun q => by omega, fun _ => ?_⟩)
  · have q : 24 < C.1 9 - xwT w + xwL w := q
    omega
  refine rct_jp hw ⟨t, j3, (show 1 ≤ C.1 11 by omega), (show C.1 11 - 1 < 12 by omega), ?_⟩
  refine rkk (t := t) (M4 := dB (rM3 M y) 7 (M.1 15 - 1) t) hA0 (by omega) (by omega) hK hS hW ((rC3_g C y).tr ⟨fun _ _ => rfl, fun k hk => by simp [cB, xu2, hk], rfl, rfl, fun _ _ => rfl, rfl⟩) rfl rfl rfl rfl rfl ?_ ((rM3_g M y).tr ⟨fun _ _ => rfl, fun k hk => by simp only [dB, xu2]; rw [if_neg (by omega)], rfl, rfl⟩) rfl rfl rfl rfl (Nat.le_succ _) hb rfl ?_ j1 (by rw [j2]; exact Nat.zero_le _) (fun Q' h => hopr Q' ?_)
  · show xu ((rC3 C y).2.1 4) (C.1 11 - 1) t = _
    rw [hA0.C3, f1, xu_xu]
  · show xu (xu (M.2.1 7) (M.1 15 - 1) (M.2.1 7 (M.1 15 - 1) + 1)) (M.1 15 - 1) t = _
    rw [xu_xu]
  · refine rgo_ok (M := rM2 M y) (by omega) (by omega) (by omega) (by omega) hb hd f2 s2 hk (show xwT w ≤ M.1 9 by omega) (fun Q' h => rft0 (by omega) (by omega) hb s2 h) ?_
    unfold w_R_goes
    exact ⟨by omega, fun _ => ⟨hd, t, j4, (show M.1 15 - 1 < 13 by omega), h⟩, fun q => absurd eC q⟩
end RU
