/-! operations that leave a definition, or enter one -/
section RW
variable {C : xC} {M : xM} {H : Nat → Nat → Nat} {K : Nat → xC → Prop} {a w y : Nat} {D : xDf} {n : Int32}
/-- ";" and EXIT: the class's side stands at the end, C4 -/
theorem rke {C4 : xC} (hA : rA H C M a D w y) (hc : rcd w = 42) (hK : ∀ f C', (∀ Q' : xM → Prop, (∀ M', rZ H C M C' f M' → Q' M') → w_R_operate M Q') → K f C') (hS4 : rS C4 (rM3 M y)) (hW4 : rW C4 (rM3 M y)) (gC : rgC C C4) (c14 : C4.1 14 = C.1 14 + 1) (c15 : C4.1 15 = C.1 15 + y) (c16 : C4.1 16 = C.1 16) (c11 : C4.1 11 = C.1 11) (cr : C4.2.2.2.2.1 = C.2.2.2.2.1) (c4 : C4.2.1 4 = xu (C.2.1 4) (M.1 15 - 1) D.2.1) : rKK a D (M.2.1 7 (M.1 15 - 1)) K 55 C4 := by
  obtain ⟨hS, hW, hCt, hF, hb, hd, hst, ha, hD, hsz, hp, hdn, hop, ep, hopr⟩ := hA
  obtain ⟨t1, t2, t3, t4, t5⟩ := hCt
  have f1 := hF.1
  have f2 := hF.2.1
  have o7 := hop.2.2.2.2.2.2.1
  have o6 := hop.2.2.2.2.2.1
  have hz := hD.2.2.1
  have hD4 : xD C4 a D := hD.eq gC.2.2.2.2.2
  refine ⟨by decide, fun _ => ⟨hD4, hp, ?_⟩, fun q => absurd rfl q⟩
  have e11 : (cN C4 16 (C4.1 16 + D.2.2.2.2.2 (M.2.1 7 (M.1 15 - 1)))).1 11 = C.1 11 := c11
  have epl : (cN C4 16 (C4.1 16 + D.2.2.2.2.2 (M.2.1 7 (M.1 15 - 1)))).2.1 4 (C.1 11 - 1) = D.2.1 := by
    show C4.2.1 4 (C.1 11 - 1) = _
    rw [c4, f1]
    simp [xu]
  refine rlv (a := a) (D := D) (by rw [e11]; omega) (by rw [e11]; omega) (by rw [e11]; show C4.2.2.2.2.1 3 _ = _; rw [cr]; exact ha) (hD4.eq rfl) (by rw [e11, epl]; omega) (fun q => ?_) (fun q => ?_)
  · rw [e11]
    refine hK 55 _ fun Q' hq => hopr Q' ?_
    have hk : 60 * M.2.1 6 (M.1 15 - 1) + M.2.1 7 (M.1 15 - 1) < 2460 := by omega
    unfold w_R_operate_101
    refine ⟨hd, (show M.1 15 - 1 < 13 by omega), hd, (show M.1 15 - 1 < 13 by omega), by omega, fun _ => ⟨hd, ?_⟩, fun q => absurd hc q⟩
    refine rtlM (M := dN (rM3 M y) 15 (M.1 15 - 1)) hb hk (show M.2.1 3 _ < 1000 by omega) (by omega) (fun q => by omega) (fun q => by omega) (fun _ => hq _ ?_)
    refine ⟨hW4, ⟨?_, ?_, ?_, ?_, ?_⟩, gC.tr ⟨fun i hi => ?_, fun _ _ => rfl, rfl, rfl, fun _ _ => rfl, rfl⟩, (rM3_g M y).tr ⟨fun i hi => ?_, fun _ _ => rfl, rfl, rfl⟩, hb, by decide, by decide, ⟨show M.1 15 - 1 ≤ 12 by omega, show C.1 11 - 1 ≤ 12 by omega⟩, fun _ => ⟨hS4, rFr_pop hF hd rfl rfl rfl cr rfl rfl (fun j hj => ?_) (fun j hj => ?_), rfl⟩⟩
    · show C4.1 14 = M.1 12 + 1; omega
    · show M.1 12 + 1 ≤ 600; omega
    · show C4.1 15 = M.1 13 + y; omega
    · show C4.1 16 + D.2.2.2.2.2 (M.2.1 7 (M.1 15 - 1)) = M.1 14 + M.2.1 3 (60 * M.2.1 6 (M.1 15 - 1) + M.2.1 7 (M.1 15 - 1)) % 16
      rw [o6]; omega
    · show M.1 11 ≤ M.1 12 + 1; omega
    · simp only [cN, xu]; rw [if_neg (by omega), if_neg (by omega)]
    · simp only [dN, xu]; rw [if_neg (by omega), if_neg (by omega)]
    · show C4.2.1 4 j = C.2.1 4 j
      rw [c4]; simp only [xu]; rw [if_neg (by omega)]
    · show xu (M.2.1 7) (M.1 15 - 1) _ j = M.2.1 7 j
      simp only [xu]; rw [if_neg (by omega)]
  · rw [e11, epl] at q
    exact absurd rfl q
theorem rst_e (hw : w = 46 ∨ w = 48) (hA : rA H C M a D w y) (hK : ∀ f C', (∀ Q' : xM → Prop, (∀ M', rZ H C M C' f M' → Q' M') → w_R_operate M Q') → K f C') : w_M_perform w (D.2.2.2.1 (M.2.1 7 (M.1 15 - 1))) (rC3 C y) (rKK a D (M.2.1 7 (M.1 15 - 1)) K) := by
  have hA0 := hA
  obtain ⟨hS, hW, hCt, hF, hb, hd, hst, ha, hD, hsz, hp, hdn, hop, ep, hopr⟩ := hA
  obtain ⟨s1, s2, s3, s4, s5, s6⟩ := id hS
  have f2 := hF.2.1
  have f1 := hF.1
  have e : xwT w = 0 ∧ xwL w = 0 ∧ xwK w = 7 ∧ rcd w = 42 := by rcases hw with h | h <;> subst h <;> decide
  obtain ⟨eT, eL, eK, eC⟩ := e
  refine rpfC (by omega) (show C.1 9 ≤ 24 by omega) (fun q => by omega) (fun _ q => ?_) (fun _ _ => ⟨fun q => by omega, fun q => by omega, fun q => by omega, fun q => by omega, fun q => by omega, fun q => by omega, fun _ => ?_⟩)
  · have q : 24 < C.1 9 - xwT w + xwL w := q
    omega
  rcases hw with hw | hw
  · subst hw
    refine rct_ex ⟨(show 1 ≤ C.1 11 by omega), (show C.1 11 - 1 < 12 by omega), a, D, ha, hD.eq rfl, (show 1 ≤ C.1 11 by omega), (show C.1 11 - 1 < 12 by omega), ?_⟩
    refine rke hA0 eC hK hS hW ((rC3_g C y).tr ⟨fun _ _ => rfl, fun k hk => by simp only [cB, xu2]; rw [if_neg hk], rfl, rfl, fun _ _ => rfl, rfl⟩) rfl rfl rfl rfl rfl ?_
    show xu ((rC3 C y).2.1 4) (C.1 11 - 1) D.2.1 = _
    rw [hA0.C3, f1, xu_xu]
  · have hl := hop.e48 hw
    subst hw
    refine rct_en ?_
    refine rke hA0 eC hK hS hW (rC3_g C y) rfl rfl rfl rfl rfl ?_
    rw [hA0.C3, hl]
/-- CALL -/
theorem rst_c (hA : rA H C M a D 49 y) (hDs : rDs C M H) (hK : ∀ f C', (∀ Q' : xM → Prop, (∀ M', rZ H C M C' f M' → Q' M') → w_R_operate M Q') → K f C') : w_M_perform 49 (D.2.2.2.1 (M.2.1 7 (M.1 15 - 1))) (rC3 C y) (rKK a D (M.2.1 7 (M.1 15 - 1)) K) := by
  have hA0 := hA
  obtain ⟨hS, hW, hCt, hF, hb, hd, hst, ha, hD, hsz, hp, hdn, hop, ep, hopr⟩ := hA
  obtain ⟨s1, s2, s3, s4, s5, s6⟩ := id hS
  obtain ⟨t1, t2, t3, t4, t5⟩ := id hCt
  have f2 := hF.2.1
  have f1 := hF.1
  have eT : xwT 49 = 0 := rfl
  have eL : xwL 49 = 0 := rfl
  have o7 := hop.2.2.2.2.2.2.1
  have o6 := hop.2.2.2.2.2.1
  have hz := hD.2.2.1
  obtain ⟨d1, d2, d3⟩ := hDs
  obtain ⟨e, e1, e2, e3⟩ := hop.n49 rfl
  obtain ⟨a2, D2, k1, k2, k3, k4, k5, k6, k7⟩ := d3 e e1
  have hk : 60 * M.2.1 6 (M.1 15 - 1) + M.2.1 7 (M.1 15 - 1) < 2460 := by omega
  have hlast : M.2.1 7 (M.1 15 - 1) + 1 < D.2.1 := by
    rcases Nat.lt_or_ge (M.2.1 7 (M.1 15 - 1) + 1) D.2.1 with h | h
    · exact h
    · have := hop.las (by omega); omega
  have hn := (hop.nxt hlast).2 (by omega)
  have hen : ∀ Q' : xM → Prop, w_R_enter e (rM3 M y) (fun M4 => w_R_operate_216 (M.2.1 6 (M.1 15 - 1)) (60 * M.2.1 6 (M.1 15 - 1) + M.2.1 7 (M.1 15 - 1)) 41 M4 Q') → w_R_operate M Q' := fun Q' h => hopr Q' (by
    unfold w_R_operate_101
    exact ⟨hd, (show M.1 15 - 1 < 13 by omega), hd, (show M.1 15 - 1 < 13 by omega), by decide, fun q => absurd q (by decide), fun _ => ⟨by decide, fun _ => ⟨hk, e, e3, h⟩, fun q => absurd rfl q⟩⟩)
  refine rpfC (by decide) (show C.1 9 ≤ 24 by omega) (fun q => by omega) (fun _ q => ?_) (fun c1 _ => ⟨fun q => absurd q (by decide), fun q => absurd q (by decide), fun q => absurd q (by decide), fun q => absurd q (by decide), fun q => absurd q (by decide), fun q => absurd q (by decide), fun _ => ?_⟩)
  · have q : 24 < C.1 9 - xwT 49 + xwL 49 := q
    omega
  refine rct_ca ?_
  rw [e2]
  unfold w_D_at
  refine ⟨fun q => ?_, fun e' he' hl' => ?_⟩
  · rw [Int32.lt_iff_toInt_lt, xt_N (by omega)] at q
    have : (0 : Int32).toInt = 0 := rfl
    omega
  have ee : e' = e := by
    have h3 : (nI e).toInt = (nI e').toInt := by rw [he']
    rw [xt_N (by omega), xt_N hl'] at h3
    omega
  subst ee
  refine ⟨hl', fun q => absurd q (Nat.not_lt_zero _), fun _ => ⟨hl', (show C.1 4 < 2147483648 by omega), fun q => ?_, fun q => ⟨by omega, fun q => ?_, fun _ => ⟨a2, k1, ?_⟩⟩⟩⟩
  · have q : C.1 4 ≤ e' := q
    omega
  · have q : C.2.2.2.2.1 0 e' = none := q
    rw [k1] at q
    cases q
  · unfold w_M_enter_D
    refine ⟨(show C.1 11 < 2147483648 by omega), fun q => ?_, fun q => ⟨?_, ⟨k2.lt, k2.1, _, k2.2.2.2.1⟩, ?_, ?_⟩⟩
    · have q : C.1 11 = 12 := q
      refine rkf (M4 := dN (rM3 M y) 1 3) hA0 hK hW (rC3_g C y) rfl rfl rfl (rm3_b M y 3) rfl rfl rfl (Nat.le_succ _) rfl ⟨f2, show C.1 11 ≤ 12 by omega⟩ (fun Q' h => hen Q' ?_)
      unfold w_R_enter
      exact ⟨(show M.1 15 < 2147483648 by omega), fun _ => rwr hb (rtlMb (show ¬ (3 : Nat) = 0 by decide) (show (3 : Nat) < 2147483648 by decide) h), fun z => absurd (show M.1 15 = 12 by omega) z⟩
    · have q : ¬ C.1 11 = 12 := q
      show C.1 11 < 12; omega
    · have q : ¬ C.1 11 = 12 := q
      show C.1 11 < 12; omega
    · have q : ¬ C.1 11 = 12 := q
      have hD4 : ∀ Cx : xC, Cx.2.2.2.2.2 = C.2.2.2.2.2 → xD Cx a D := fun Cx hx => hD.eq hx
      refine ⟨by decide, fun _ => ⟨hD4 _ rfl, hp, ?_⟩, fun q => absurd rfl q⟩
      refine rlv (a := a2) (D := D2) (show 1 ≤ C.1 11 + 1 by omega) (show C.1 11 + 1 ≤ 12 by omega) ?_ (k2.eq rfl) ?_ (fun q => ?_) (fun q => ?_)
      · show xu (C.2.2.2.2.1 3) (C.1 11) (some a2) (C.1 11 + 1 - 1) = _
        simp [xu]
      · show xu ((rC3 C y).2.1 4) (C.1 11) 0 (C.1 11 + 1 - 1) < 1000
        simp [xu]
      · have q : xu ((rC3 C y).2.1 4) (C.1 11) 0 (C.1 11 + 1 - 1) = D2.2.1 := q
        simp [xu] at q
        omega
      · refine hK 55 _ fun Q' hq => hen Q' ?_
        unfold w_R_enter
        refine ⟨(show M.1 15 < 2147483648 by omega), fun z => absurd (show C.1 11 = 12 by have z : M.1 15 = 12 := z; omega) (by assumption), fun _ => ⟨(show M.1 15 < 13 by omega), (show M.1 15 < 13 by omega), ?_⟩⟩
        refine rtlM hb hk (show M.2.1 3 _ < 1000 by omega) (by decide) (fun q => absurd q (by decide)) (fun q => absurd q (by decide)) (fun _ => hq _ ?_)
        have o6' : (dN (dB (dB (rM3 M y) 6 (M.1 15) e') 7 (M.1 15) 0) 15 (M.1 15 + 1)).2.1 3 (60 * M.2.1 6 (M.1 15 - 1) + M.2.1 7 (M.1 15 - 1)) % 16 = D.2.2.2.2.2 (M.2.1 7 (M.1 15 - 1)) := o6.symm
        show rZ H C M _ 55 (dN (dN (dB (dB (rM3 M y) 6 (M.1 15) e') 7 (M.1 15) 0) 15 (M.1 15 + 1)) 14 ((dN (dB (dB (rM3 M y) 6 (M.1 15) e') 7 (M.1 15) 0) 15 (M.1 15 + 1)).1 14 + (dN (dB (dB (rM3 M y) 6 (M.1 15) e') 7 (M.1 15) 0) 15 (M.1 15 + 1)).2.1 3 (60 * M.2.1 6 (M.1 15 - 1) + M.2.1 7 (M.1 15 - 1)) % 16))
        rw [o6']
        refine rZ_ok hCt hst hW hS ((rC3_g C y).tr ⟨fun i hi => ?_, fun k hk => ?_, rfl, rfl, fun k hk => ?_, rfl⟩) ((rM3_g M y).tr ⟨fun i hi => ?_, fun k hk => ?_, rfl, rfl⟩) rfl rfl rfl rfl rfl rfl (Nat.le_succ _) hb (rFr_push hF hd (by omega) rfl rfl e' e1 (by rw [← k3]; omega) k6 rfl ?_ rfl rfl rfl (M.2.1 7 (M.1 15 - 1) + 1) ?_ rfl (by omega) hn)
        · simp only [cN, cB, cR, xu]; rw [if_neg (by omega)]
        · simp only [cN, cB, cR, xu2]; rw [if_neg hk]
        · simp only [cN, cB, cR, xu2]; rw [if_neg hk]
        · simp only [dN, dB, xu]; rw [if_neg (by omega)]
        · simp only [dN, dB, xu2]; rw [if_neg (by omega), if_neg (by omega)]
        · show xu (C.2.2.2.2.1 3) (C.1 11) (some a2) = xu (C.2.2.2.2.1 3) (M.1 15) (C.2.2.2.2.1 0 e')
          rw [k1, f1]
        · show xu ((rC3 C y).2.1 4) (C.1 11) 0 = _
          rw [hA0.C3, f1]
end RW
