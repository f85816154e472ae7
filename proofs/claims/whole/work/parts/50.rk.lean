/-! the words that control -/
section RQ
variable {w : Nat} {n : Int32} {C : xC} {Q : Nat → xC → Prop}
theorem rct_br (hw : w = 38 ∨ w = 39 ∨ w = 40) (h : w_S_pop_0 C (fun r C5 => ((r = 0 → (∃ e : Nat, n = nI e ∧ w_M_goOnAt e C5 (fun r C6 => Q r C6))) ∧ (¬ r = 0 → Q 55 C5)))) : w_M_control w n C Q := by
  rcases hw with hw | hw | hw <;> subst hw <;> simp only [w_M_control, xwV] <;> simp <;> exact h
theorem rct_jp (hw : w = 42 ∨ w = 43 ∨ w = 44) (h : ∃ e : Nat, n = nI e ∧ w_M_goOnAt e C (fun r C6 => Q r C6)) : w_M_control w n C Q := by
  rcases hw with hw | hw | hw <;> subst hw <;> simp only [w_M_control, xwV] <;> simp <;> exact h
theorem rct_do (h : w_M_beginLoop C (fun r C6 => Q r C6)) : w_M_control 41 n C Q := by
  simp only [w_M_control, xwV]; simp; exact h
theorem rct_lp (h : ∃ e : Nat, n = nI e ∧ w_M_endLoop e C (fun r C6 => Q r C6)) : w_M_control 45 n C Q := by
  simp only [w_M_control, xwV]; simp; exact h
theorem rct_ex (h : 1 ≤ C.1 11 ∧ C.1 11 - 1 < 12 ∧ ∃ (a : Nat) (D : xDf), C.2.2.2.2.1 3 (C.1 11 - 1) = some a ∧ xD C a D ∧ w_M_goOnAt D.2.1 C (fun r C6 => Q r C6)) : w_M_control 46 n C Q := by
  unfold w_M_control
  exact ⟨by decide, by decide, by decide, fun q => absurd q (by decide), fun _ => ⟨fun q => absurd q (by decide), fun _ => ⟨fun q => absurd q (by decide), fun _ => ⟨fun q => absurd q (by decide), fun _ => ⟨fun q => absurd q (by decide), fun _ => ⟨fun q => absurd q (by decide), fun _ => ⟨fun q => absurd q (by decide), fun _ => ⟨fun q => absurd q (by decide), fun _ => ⟨fun _ => h, fun q => absurd rfl q⟩⟩⟩⟩⟩⟩⟩⟩⟩
theorem rct_ca (h : w_D_at n C (fun r C6 => ((r = none → w_M_enter_n C6 (fun r C7 => Q r C7)) ∧ (¬ r = none → ∃ a : Nat, r = some a ∧ w_M_enter_D a C6 (fun r C7 => Q r C7))))) : w_M_control 49 n C Q := by
  unfold w_M_control
  exact ⟨by decide, by decide, by decide, fun q => absurd q (by decide), fun _ => ⟨fun q => absurd q (by decide), fun _ => ⟨fun q => absurd q (by decide), fun _ => ⟨fun q => absurd q (by decide), fun _ => ⟨fun q => absurd q (by decide), fun _ => ⟨fun q => absurd q (by decide), fun _ => ⟨fun q => absurd q (by decide), fun _ => ⟨fun q => absurd q (by decide), fun _ => ⟨fun q => absurd q (by decide), fun _ => ⟨fun _ => h, fun q => absurd rfl q⟩⟩⟩⟩⟩⟩⟩⟩⟩⟩
theorem rct_en (h : Q 55 C) : w_M_control 48 n C Q := by
  simp only [w_M_control, xwV]; simp; exact h
end RQ
section RR
variable {M : xM} {Q : Nat → xM → Prop} {d k : Nat}
/-- DO and LOOP want room, or numbers, on the return stack -/
theorem rft47 (hb : M.1 1 = 0) (hd : M.1 9 ≤ 24) (hr : M.1 10 ≤ 24) (h : M.1 10 ≤ 22 → Q 1 M) (h2 : 22 < M.1 10 → Q 0 (dN M 1 3)) : w_R_fits 47 M Q := by
  have e : (dN M 1 3).1 1 = 3 := rfl
  have k : ∀ t, w_R_fits_44 47 t M Q := by
    intro t
    unfold w_R_fits_44
    refine rwi (by decide) (by decide) (by decide) ?_
    rw [if_neg (by decide)]
    refine ⟨by decide, fun _ => ?_, fun q => absurd rfl q⟩
    unfold w_R_fits_70 w_R_fits_85 w_R_fits_109 w_R_fits_124
    refine ⟨by decide, fun q => absurd q (by decide), fun _ => ⟨by decide, fun q => absurd q (by decide), fun _ => ⟨by decide, fun q => absurd q (by decide), fun _ => ⟨by decide, fun _ => ⟨by omega, fun q => rwr hb ⟨by rw [e]; decide, fun z => absurd z (by rw [e]; decide), fun _ => h2 q⟩, fun q => ⟨by decide, fun q => absurd q (by decide), fun _ => ⟨by omega, fun _ => h (by omega), fun z => absurd hb z⟩⟩⟩, fun q => absurd rfl q⟩⟩⟩⟩
  unfold w_R_fits
  exact ⟨by omega, fun _ => ⟨by decide, fun q => absurd q (by decide), fun _ => ⟨by decide, fun q => absurd q (by decide), fun _ => k _⟩⟩, fun _ => ⟨by omega, by omega, by decide, fun q => absurd q (by decide), fun _ => ⟨by decide, fun q => absurd q (by decide), fun _ => k _⟩⟩⟩
theorem rft48 (hb : M.1 1 = 0) (hd : M.1 9 ≤ 24) (hr : M.1 10 ≤ 24) (h : 2 ≤ M.1 10 → Q 1 M) (h2 : M.1 10 < 2 → Q 0 (dN M 1 3)) : w_R_fits 48 M Q := by
  have e : (dN M 1 3).1 1 = 3 := rfl
  have k : ∀ t, w_R_fits_44 48 t M Q := by
    intro t
    unfold w_R_fits_44
    refine rwi (by decide) (by decide) (by decide) ?_
    rw [if_neg (by decide)]
    refine ⟨by decide, fun _ => ?_, fun q => absurd rfl q⟩
    unfold w_R_fits_70 w_R_fits_85 w_R_fits_109 w_R_fits_124
    refine ⟨by decide, fun q => absurd q (by decide), fun _ => ⟨by decide, fun q => absurd q (by decide), fun _ => ⟨by decide, fun q => absurd q (by decide), fun _ => ⟨by decide, fun q => absurd q (by decide), fun _ => ⟨by decide, fun _ => ⟨by omega, fun q => ⟨by omega, fun _ => h q, fun z => absurd hb z⟩, fun q => rwr hb ⟨by rw [e]; decide, fun z => absurd z (by rw [e]; decide), fun _ => h2 (by omega)⟩⟩, fun q => absurd rfl q⟩⟩⟩⟩⟩
  unfold w_R_fits
  exact ⟨by omega, fun _ => ⟨by decide, fun q => absurd q (by decide), fun _ => ⟨by decide, fun q => absurd q (by decide), fun _ => k _⟩⟩, fun _ => ⟨by omega, by omega, by decide, fun q => absurd q (by decide), fun _ => ⟨by decide, fun q => absurd q (by decide), fun _ => k _⟩⟩⟩
end RR
section RS
variable {w d k : Nat} {M : xM} {Q : xM → Prop}
/-- the other side's jumps: too few numbers; what does not fit; what goes -/
theorem rgo_few (hw : w < 50) (hw7 : w ≠ 47) (hc : 45 ≤ rcd w) (hc2 : rcd w < 50) (hb : M.1 1 = 0) (h15 : 1 ≤ M.1 15) (h12 : M.1 15 ≤ 12) (h9 : M.1 9 ≤ 24) (hf : M.1 9 < xwT w) (h : Q (dN (dB M 7 (M.1 15 - 1) (M.2.1 7 (M.1 15 - 1) + 1)) 1 3)) : w_R_operate_101 d k (rcd w) M Q := by
  have aT : xwT w < 5 := (by decide : ∀ w, w < 50 → xwT w < 5) w hw
  unfold w_R_operate_101
  refine ⟨h15, by omega, h15, by omega, by omega, fun q => by omega, fun _ => ⟨by omega, fun q => by omega, fun _ => ⟨by omega, fun _ => rtkM w hw hw7 ⟨by omega, by omega, fun q => by omega, fun _ => rwr hb ?_⟩, fun q => by omega⟩⟩⟩
  unfold w_R_operate_190
  have e : (dN (dB M 7 (M.1 15 - 1) (M.2.1 7 (M.1 15 - 1) + 1)) 1 3).1 1 = 3 := rfl
  exact ⟨by rw [e]; decide, fun z => absurd z (by rw [e]; decide), fun _ => rtlMb (by rw [e]; decide) (by rw [e]; decide) h⟩
theorem rgo_no (hw : w < 50) (hw7 : w ≠ 47) (hc : 45 ≤ rcd w) (hc2 : rcd w < 50) (hb : M.1 1 = 0) (h15 : 1 ≤ M.1 15) (h12 : M.1 15 ≤ 12) (h9 : M.1 9 ≤ 24) (hf : xwT w ≤ M.1 9) (hfit : ∀ Q' : Nat → xM → Prop, Q' 0 (dN (dB M 7 (M.1 15 - 1) (M.2.1 7 (M.1 15 - 1) + 1)) 1 3) → w_R_fits (rcd w) (dB M 7 (M.1 15 - 1) (M.2.1 7 (M.1 15 - 1) + 1)) Q') (h : Q (dN (dB M 7 (M.1 15 - 1) (M.2.1 7 (M.1 15 - 1) + 1)) 1 3)) : w_R_operate_101 d k (rcd w) M Q := by
  have aT : xwT w < 5 := (by decide : ∀ w, w < 50 → xwT w < 5) w hw
  unfold w_R_operate_101
  refine ⟨h15, by omega, h15, by omega, by omega, fun q => by omega, fun _ => ⟨by omega, fun q => by omega, fun _ => ⟨by omega, fun _ => rtkM w hw hw7 ⟨by omega, by omega, fun _ => ?_, fun q => absurd hf q⟩, fun q => by omega⟩⟩⟩
  unfold w_R_operate_190
  have e : (dN (dB M 7 (M.1 15 - 1) (M.2.1 7 (M.1 15 - 1) + 1)) 1 3).1 1 = 3 := rfl
  refine ⟨(show M.1 1 < 2147483648 by omega), fun _ => hfit _ ⟨by decide, fun _ => rtlMb (by rw [e]; decide) (by rw [e]; decide) h, fun q => absurd rfl q⟩, fun z => absurd hb z⟩
theorem rgo_ok (hw : w < 50) (hw7 : w ≠ 47) (hc : 45 ≤ rcd w) (hc2 : rcd w < 50) (hb : M.1 1 = 0) (h15 : 1 ≤ M.1 15) (h12 : M.1 15 ≤ 12) (h9 : M.1 9 ≤ 24) (hk : k < 2460) (hf : xwT w ≤ M.1 9) (hfit : ∀ Q' : Nat → xM → Prop, Q' 1 (dB M 7 (M.1 15 - 1) (M.2.1 7 (M.1 15 - 1) + 1)) → w_R_fits (rcd w) (dB M 7 (M.1 15 - 1) (M.2.1 7 (M.1 15 - 1) + 1)) Q') (h : w_R_goes (rcd w) (M.2.2.1 0 k) (dB M 7 (M.1 15 - 1) (M.2.1 7 (M.1 15 - 1) + 1)) (fun M8 => w_R_operate_216 d k (rcd w) M8 Q)) : w_R_operate_101 d k (rcd w) M Q := by
  have aT : xwT w < 5 := (by decide : ∀ w, w < 50 → xwT w < 5) w hw
  unfold w_R_operate_101
  refine ⟨h15, by omega, h15, by omega, by omega, fun q => by omega, fun _ => ⟨by omega, fun q => by omega, fun _ => ⟨by omega, fun _ => rtkM w hw hw7 ⟨by omega, by omega, fun _ => ?_, fun q => absurd hf q⟩, fun q => by omega⟩⟩⟩
  unfold w_R_operate_190
  exact ⟨(show M.1 1 < 2147483648 by omega), fun _ => hfit _ ⟨by decide, fun q => absurd q (by decide), fun _ => ⟨hk, h⟩⟩, fun z => absurd hb z⟩
end RS
section RT
variable {C : xC} {M : xM} {H : Nat → Nat → Nat}
theorem rZ_ok {C4 : xC} {M4 : xM} {s y : Nat} (hCt : rCt C M) (hst : M.1 12 < 600) (hW4 : rW C4 M4) (hS4 : rS C4 M4) (gC : rgC C C4) (gM : rgM M M4) (c14 : C4.1 14 = C.1 14 + 1) (c15 : C4.1 15 = C.1 15 + y) (c16 : C4.1 16 = C.1 16) (m12 : M4.1 12 = M.1 12 + 1) (m13 : M4.1 13 = M.1 13 + y) (m14 : M4.1 14 = M.1 14) (m11 : M4.1 11 ≤ M.1 11 + 1) (hb : M4.1 1 = 0) (hF4 : rFr C4 M4 H) : rZ H C M (cN C4 16 (C4.1 16 + s)) 55 (dN M4 14 (M4.1 14 + s)) := by
  obtain ⟨t1, t2, t3, t4, t5⟩ := hCt
  refine ⟨hW4, ⟨?_, ?_, ?_, ?_, ?_⟩, gC.tr ⟨fun i hi => ?_, fun _ _ => rfl, rfl, rfl, fun _ _ => rfl, rfl⟩, gM.tr ⟨fun i hi => ?_, fun _ _ => rfl, rfl, rfl⟩, hb, by decide, by decide, ⟨hF4.2.1, show C4.1 11 ≤ 12 by have := hF4.1; have := hF4.2.1; omega⟩, fun _ => ⟨hS4, hF4, m12⟩⟩
  · show C4.1 14 = M4.1 12; omega
  · show M4.1 12 ≤ 600; omega
  · show C4.1 15 = M4.1 13; omega
  · show C4.1 16 + s = M4.1 14 + s; omega
  · show M4.1 11 ≤ M4.1 12; omega
  · simp only [cN, xu]; rw [if_neg (by omega)]
  · simp only [dN, xu]; rw [if_neg (by omega)]
end RT
