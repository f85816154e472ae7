/-! one operation: words that do not control -/
theorem rexP {c : Nat} {v : Int32} {M : xM} {Q : xM → Prop} (h : w_R_perform c v M Q) : ∃ M', Q M' := by
  obtain ⟨o, M', _, _, k⟩ := p_R_perform 0 (fun _ => 0) 0 c v M Q h
  exact ⟨M', k⟩
section RM
variable {C : xC} {M : xM} {H : Nat → Nat → Nat} {l4 : Nat} {K : Nat → Nat → xC → Prop}
theorem rst_v (hS : rS C M) (hW : rW C M) (hCt : rCt C M) (hF : rFr C M H) (hb : M.1 1 = 0) (hd : 1 ≤ M.1 15)
    (hK : ∀ f C', (∀ Q' : xM → Prop, (∀ M', rZ H C M C' f M' → Q' M') → w_R_operate M Q') → K f (l4 + 1) C')
    (a : Nat) (D : xDf) (w y : Nat) (hst : M.1 12 < 600) (ha : C.2.2.2.2.1 3 (C.1 11 - 1) = some a) (hD : xD C a D) (hsz : D.2.1 = M.2.1 1 (M.2.1 6 (M.1 15 - 1))) (hp : M.2.1 7 (M.1 15 - 1) < D.2.1) (hdn : M.2.1 6 (M.1 15 - 1) < 40) (hop : rOp (M.1 4) M (M.2.1 6 (M.1 15 - 1)) D (H (M.2.1 6 (M.1 15 - 1))) (M.2.1 7 (M.1 15 - 1)) w) (ep : C.2.1 4 (C.1 11 - 1) = M.2.1 7 (M.1 15 - 1))
    (hopr : ∀ Q' : xM → Prop, w_R_operate_101 (M.2.1 6 (M.1 15 - 1)) (60 * M.2.1 6 (M.1 15 - 1) + M.2.1 7 (M.1 15 - 1)) (rcd w) (rM2 M y) Q' → w_R_operate M Q') (hw : w < 38) :
    w_M_perform w (D.2.2.2.1 (M.2.1 7 (M.1 15 - 1))) (rC3 C y) (fun r C3 => (r < 61 ∧ ((r = 55 → (xD C3 a D ∧ (M.2.1 7 (M.1 15 - 1) < D.2.1 ∧ w_M_leaveWhatEnded (cN C3 16 (C3.1 16 + D.2.2.2.2.2 (M.2.1 7 (M.1 15 - 1)))) (fun C4 => K r (l4 + 1) C4)))) ∧ (¬ r = 55 → K r (l4 + 1) C3)))) := by
  obtain ⟨t1, t2, t3, t4, t5⟩ := id hCt
  obtain ⟨f1, f2, f3⟩ := id hF
  obtain ⟨s1, s2, s3, s4, s5, s6⟩ := id hS
  have g6 := (f3 (M.1 15 - 1) (by omega)).2.2.2.2.2
  have hz := hD.2.2.1
  have o7 := hop.2.2.2.2.2.2.1
  have o6 := hop.2.2.2.2.2.1
  have hcd : rcd w < 45 ∧ rcd w ≠ 42 ∧ rcd w ≠ 41 ∧ (rcd w = 40 → w = 37) := (by decide : ∀ w, w < 38 → rcd w < 45 ∧ rcd w ≠ 42 ∧ rcd w ≠ 41 ∧ (rcd w = 40 → w = 37)) w hw
  have hcd1 := hcd.1
  have hcd2 := hcd.2.1
  have hcd3 := hcd.2.2.1
  have hk : 60 * M.2.1 6 (M.1 15 - 1) + M.2.1 7 (M.1 15 - 1) < 2460 := by omega
  have h3 : rfb 55 = 0 := rfl
  -- the other side's operation from a done word
  have hopr2 : ∀ Q' : xM → Prop, w_R_perform (rcd w) (M.2.2.1 0 (60 * M.2.1 6 (M.1 15 - 1) + M.2.1 7 (M.1 15 - 1))) (rM3 M y) (fun M4 => w_R_operate_216 (M.2.1 6 (M.1 15 - 1)) (60 * M.2.1 6 (M.1 15 - 1) + M.2.1 7 (M.1 15 - 1)) (rcd w) M4 Q') → w_R_operate M Q' := fun Q' h => hopr Q' (by
    unfold w_R_operate_101
    exact ⟨hd, (show M.1 15 - 1 < 13 by omega), hd, (show M.1 15 - 1 < 13 by omega), by omega, fun q => absurd q hcd2, fun _ => ⟨by omega, fun q => absurd q hcd3, fun _ => ⟨by omega, fun q => absurd q (by omega), fun _ => ⟨hk, h⟩⟩⟩⟩)
  refine rsim (v := M.2.2.1 0 (60 * M.2.1 6 (M.1 15 - 1) + M.2.1 7 (M.1 15 - 1))) (M := rM3 M y) hw hS hW hb (fun q => (hop.n37 q).symm) (show M.1 11 < 2147483648 by omega) (fun f C4 hf => ?_)
  obtain ⟨M4, p1, p2, p3, p4, p5, p6, p7⟩ := rexP (hf _ (fun M' h => h))
  have gC : rgC C C4 := (rC3_g C y).tr (rgC.of p3)
  have c14 : C4.1 14 = C.1 14 + 1 := p3.1 14 (by decide) (by decide) (by decide)
  have c15 : C4.1 15 = C.1 15 + y := p3.1 15 (by decide) (by decide) (by decide)
  have c16 : C4.1 16 = C.1 16 := p3.1 16 (by decide) (by decide) (by decide)
  have c11 : C4.1 11 = C.1 11 := p3.1 11 (by decide) (by decide) (by decide)
  have c4 : C4.2.1 4 = xu (C.2.1 4) (C.1 11 - 1) (C.2.1 4 (C.1 11 - 1) + 1) := by rw [p3.2.1]; rfl
  have cr : C4.2.2.2.2.1 = C.2.2.2.2.1 := by rw [p3.2.2.2]; rfl
  have hD4 : xD C4 a D := hD.eq gC.2.2.2.2.2
  have hfx : f < 61 := by omega
  -- what the other side's state says
  have mM : ∀ M', rfM (rM3 M y) M' → rgM M M' ∧ M'.1 12 = M.1 12 + 1 ∧ M'.1 13 = M.1 13 + y ∧ M'.1 14 = M.1 14 ∧ M'.1 15 = M.1 15 ∧ M'.2.1 6 = M.2.1 6 ∧ M'.2.1 7 = xu (M.2.1 7) (M.1 15 - 1) (M.2.1 7 (M.1 15 - 1) + 1) := fun M' h => ⟨(rM3_g M y).tr (rgM.of h), h.1 12 (by decide) (by decide) (by decide) (by decide), h.1 13 (by decide) (by decide) (by decide) (by decide), h.1 14 (by decide) (by decide) (by decide) (by decide), h.1 15 (by decide) (by decide) (by decide) (by decide), by rw [h.2.1]; rfl, by rw [h.2.1]; rfl⟩
  refine ⟨hfx, fun hq55 => ⟨hD4, hp, ?_⟩, fun hq55 => hK f C4 fun Q' hq => hopr2 Q' (hf _ fun M' hm => ?_)⟩
  · subst hq55
    have e11 : (cN C4 16 (C4.1 16 + D.2.2.2.2.2 (M.2.1 7 (M.1 15 - 1)))).1 11 = C.1 11 := c11
    have epl : (cN C4 16 (C4.1 16 + D.2.2.2.2.2 (M.2.1 7 (M.1 15 - 1)))).2.1 4 (C.1 11 - 1) = M.2.1 7 (M.1 15 - 1) + 1 := by
      show C4.2.1 4 (C.1 11 - 1) = _
      rw [c4, ← ep]
      simp [xu]
    refine rlv (a := a) (D := D) (by rw [e11]; omega) (by rw [e11]; omega) (by rw [e11]; show C4.2.2.2.2.1 3 _ = _; rw [cr]; exact ha) (hD4.eq rfl) (by rw [e11, epl]; omega) (fun q => ?_) (fun q => ?_)
    · rw [e11, epl] at q
      rw [e11]
      -- the definition has ended
      have hlast := hop.las q
      refine hK 55 _ fun Q' hq => hopr2 Q' (hf _ fun M' hm => ?_)
      obtain ⟨m1, m2, m3, m4, m5, m6, m7⟩ := hm
      obtain ⟨z1, z2, z3, z4, z5, z6, z7⟩ := mM M' m4
      obtain ⟨m2a, m2b, m2c⟩ := m2 rfl
      have m2c : xwT w ≤ M.1 9 := m2c
      have em3 : M'.2.1 3 = M.2.1 3 := z1.2.1 3 (by decide)
      have em1 : M'.2.1 1 = M.2.1 1 := z1.2.1 1 (by decide)
      have ew : w = 37 := by omega
      have ecd : rcd w = 40 := by rw [ew]; rfl
      have hnx : M'.2.1 7 (M'.1 15 - 1) = M.2.1 7 (M.1 15 - 1) + 1 := by rw [z5, z7]; simp [xu]
      refine rtlM m5 hk (by rw [em3]; omega) (by omega) (fun _ => ⟨by omega, by omega, by omega, by omega, by rw [em1]; omega⟩) (fun _ _ => hq _ ?_) (fun z => absurd ⟨ecd, by rw [hnx, em1]; omega⟩ z)
      refine ⟨m1, ⟨?_, ?_, ?_, ?_, ?_⟩, ?_, ?_, m5, by decide, by decide, ⟨show M'.1 15 - 1 ≤ 12 by omega, show C.1 11 - 1 ≤ 12 by omega⟩, fun _ => ⟨m2a, ?_, ?_⟩⟩
      · show C4.1 14 = M'.1 12; omega
      · show M'.1 12 ≤ 600; omega
      · show C4.1 15 = M'.1 13; omega
      · show C4.1 16 + D.2.2.2.2.2 (M.2.1 7 (M.1 15 - 1)) = M'.1 14 + M'.2.1 3 (60 * M.2.1 6 (M.1 15 - 1) + M.2.1 7 (M.1 15 - 1)) % 16
        rw [em3, o6]; omega
      · have m6 : M'.1 11 ≤ M.1 11 + 1 := m6
        show M'.1 11 ≤ M'.1 12; omega
      · refine gC.tr ⟨fun i hi => ?_, fun _ _ => rfl, rfl, rfl, fun _ _ => rfl, rfl⟩
        simp only [cN, xu]
        rw [if_neg (by omega), if_neg (by omega)]
      · refine z1.tr ⟨fun i hi => ?_, fun _ _ => rfl, rfl, rfl⟩
        simp only [dN, xu]
        rw [if_neg (by omega), if_neg (by omega)]
      · refine rFr_pop hF hd rfl ?_ z6 cr (z1.1 4 (by omega)) em1 (fun j hj => ?_) (fun j hj => ?_)
        · show M'.1 15 - 1 = M.1 15 - 1; omega
        · show C4.2.1 4 j = C.2.1 4 j
          rw [c4]; simp only [xu]; rw [if_neg (by omega)]
        · show M'.2.1 7 j = M.2.1 7 j
          rw [z7]; simp only [xu]; rw [if_neg (by omega)]
      · show M'.1 12 = M.1 12 + 1; exact z2
    · rw [e11, epl] at q
      refine hK 55 _ fun Q' hq => hopr2 Q' (hf _ fun M' hm => ?_)
      obtain ⟨m1, m2, m3, m4, m5, m6, m7⟩ := hm
      obtain ⟨z1, z2, z3, z4, z5, z6, z7⟩ := mM M' m4
      obtain ⟨m2a, m2b, m2c⟩ := m2 rfl
      have m2c : xwT w ≤ M.1 9 := m2c
      have m2b : M'.1 9 + xwT w = M.1 9 + xwL w := m2b
      have em3 : M'.2.1 3 = M.2.1 3 := z1.2.1 3 (by decide)
      have em1 : M'.2.1 1 = M.2.1 1 := z1.2.1 1 (by decide)
      have hnx : M'.2.1 7 (M'.1 15 - 1) = M.2.1 7 (M.1 15 - 1) + 1 := by rw [z5, z7]; simp [xu]
      have hnext := (hop.nxt (by omega)).1 hw
      have o8 := hop.2.2.2.2.2.2.2.1
      refine rtlM m5 hk (by rw [em3]; omega) (by omega) (fun _ => ⟨by omega, by omega, by omega, by omega, by rw [em1]; omega⟩) (fun _ z => absurd z (by rw [hnx, em1]; omega)) (fun _ => hq _ ?_)
      refine ⟨m1, ⟨?_, ?_, ?_, ?_, ?_⟩, ?_, ?_, m5, by decide, by decide, ⟨show M'.1 15 ≤ 12 by omega, show C4.1 11 ≤ 12 by omega⟩, fun _ => ⟨m2a, ?_, ?_⟩⟩
      · show C4.1 14 = M'.1 12; omega
      · show M'.1 12 ≤ 600; omega
      · show C4.1 15 = M'.1 13; omega
      · show C4.1 16 + D.2.2.2.2.2 (M.2.1 7 (M.1 15 - 1)) = M'.1 14 + M'.2.1 3 (60 * M.2.1 6 (M.1 15 - 1) + M.2.1 7 (M.1 15 - 1)) % 16
        rw [em3, o6]; omega
      · have m6 : M'.1 11 ≤ M.1 11 + 1 := m6
        show M'.1 11 ≤ M'.1 12; omega
      · refine gC.tr ⟨fun i hi => ?_, fun _ _ => rfl, rfl, rfl, fun _ _ => rfl, rfl⟩
        simp only [cN, xu]
        rw [if_neg (by omega)]
      · refine z1.tr ⟨fun i hi => ?_, fun _ _ => rfl, rfl, rfl⟩
        simp only [dN, xu]
        rw [if_neg (by omega)]
      · refine rFr_top hF hd c11 z5 z6 cr (z1.1 4 (by omega)) em1 (M.2.1 7 (M.1 15 - 1) + 1) ?_ z7 (by omega) ?_
        · show C4.2.1 4 = _
          rw [c4, ep, f1]
        · show H (M.2.1 6 (M.1 15 - 1)) (M.2.1 7 (M.1 15 - 1) + 1) ≤ M'.1 9
          omega
      · show M'.1 12 = M.1 12 + 1; exact z2
  · obtain ⟨m1, m2, m3, m4, m5, m6, m7⟩ := hm
    obtain ⟨z1, z2, z3, z4, z5, z6, z7⟩ := mM M' m4
    have m6 : M'.1 11 ≤ M.1 11 + 1 := m6
    have hne : ¬ M'.1 1 = 0 ∧ M'.1 1 < 10 := by
      rw [m5]
      rcases m7 with h | h | h
      · exact absurd h hq55
      · subst h; exact ⟨by decide, by decide⟩
      · subst h; exact ⟨by decide, by decide⟩
    exact rtlMb hne.1 (by omega) (hq _ (rZ_no m1 ⟨by omega, by omega, by omega, by omega, by omega⟩ gC z1 m5 (by omega) hfx ⟨by omega, by omega⟩))
end RM
