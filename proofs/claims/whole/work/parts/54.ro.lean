/-! a run: both loops -/
section RX
variable {H : Nat → Nat → Nat} {Q : Nat → xC → Prop}
theorem rstep2 {C : xC} {M : xM} {l4 : Nat} {K : Nat → Nat → xC → Prop} (hS : rS C M) (hW : rW C M) (hCt : rCt C M) (hF : rFr C M H) (hDs : rDs C M H) (hb : M.1 1 = 0) (hd : 1 ≤ M.1 15) (hl : l4 ≤ M.1 12)
    (hQ : (∀ Q' : xM → Prop, (∀ M', rZ H C M C 60 M' → Q' M') → w_R_operate M Q') → Q 60 C)
    (hK : ∀ f C', M.1 12 < 600 → (∀ Q' : xM → Prop, (∀ M', rZ H C M C' f M' → Q' M') → w_R_operate M Q') → K f (l4 + 1) C') : wi_M_doWord_28 K 55 l4 C Q := by
  refine rstep hS hW hCt hF hDs hb hd hl hQ fun a D w y hst ha hD hsz hp hdn hop ep hopr => ?_
  have d2 := hDs.2.1
  have hK := fun f C' => hK f C' hst
  have hA : rA H C M a D w y := ⟨hS, hW, hCt, hF, hb, hd, hst, ha, hD, hsz, hp, by omega, hop, ep, hopr⟩
  have o1 := hop.1
  have o2 := hop.2.1
  by_cases h1 : w < 38
  · exact rst_v hS hW hCt hF hb hd hK a D w y hst ha hD hsz hp (by omega) hop ep hopr h1
  show w_M_perform w (D.2.2.2.1 (M.2.1 7 (M.1 15 - 1))) (rC3 C y) (rKK a D (M.2.1 7 (M.1 15 - 1)) (fun f C => K f (l4 + 1) C))
  by_cases h2 : w = 38 ∨ w = 39 ∨ w = 40
  · exact rst_b h2 hA hK
  by_cases h3 : w = 42 ∨ w = 43 ∨ w = 44
  · exact rst_j h3 hA hK
  by_cases h4 : w = 46 ∨ w = 48
  · exact rst_e h4 hA hK
  have h5 : w = 41 ∨ w = 45 ∨ w = 49 := by omega
  rcases h5 with h | h | h
  · subst h; exact rst_d hA hK
  · subst h; exact rst_l hA hK
  · subst h; exact rst_c hA hDs hK
/-- how a run ends -/
def rY (C : xC) (M : xM) (C' : xC) (f : Nat) (M' : xM) : Prop := rW C' M' ∧ rCt C' M' ∧ rgC C C' ∧ rgM M M' ∧ M'.1 1 = rfb f ∧ f < 61 ∧ 55 ≤ f ∧ (f = 55 → rS C' M' ∧ M'.1 15 = 0)
theorem rfb_0 {f : Nat} (h : 55 ≤ f) (h2 : f < 61) (h3 : f ≠ 55) : ¬ rfb f = 0 ∧ rfb f < 10 := by
  have : f = 56 ∨ f = 57 ∨ f = 58 ∨ f = 59 ∨ f = 60 := by omega
  rcases this with h | h | h | h | h <;> subst h <;> decide
theorem rloop : ∀ (m : Nat) (C : xC) (M : xM) (l4 : Nat), M.1 12 + m = 601 → rS C M → rW C M → rCt C M → rFr C M H → rDs C M H → M.1 1 = 0 → l4 ≤ M.1 12 →
    (∀ f C', (∀ Q' : xM → Prop, (∀ M', rY C M C' f M' → Q' M') → w_R_run_13 (m + 1) M Q') → Q f C') → w_M_doWord_28 m 55 l4 C Q
  | 0, C, M, l4, hm, _, _, hCt, _, _, _, _, _ => by have := hCt.2.1; omega
  | m + 1, C, M, l4, hm, hS, hW, hCt, hF, hDs, hb, hl, hQ => by
    have t2 := hCt.2.1
    have f1 := hF.1
    have f2 := hF.2.1
    unfold w_M_doWord_28
    by_cases hd : M.1 15 = 0
    · unfold wi_M_doWord_28
      refine ⟨by omega, fun q => by omega, fun _ => ⟨by omega, fun _ => ?_, fun q => by omega⟩⟩
      refine hQ 55 C fun Q' hq => ?_
      unfold w_R_run_13 wi_R_run_13
      exact ⟨by omega, fun _ => hq M ⟨hW, hCt, rgC.rf C, rgM.rf M, hb, by decide, by decide, fun _ => ⟨hS, hd⟩⟩, fun q => by omega⟩
    · have hrun : ∀ (M1 : xM), (∀ Q' : xM → Prop, Q' M1 → w_R_operate M Q') → ∀ Q' : xM → Prop, w_R_run_13 (m + 1) M1 Q' → w_R_run_13 (m + 1 + 1) M Q' := fun M1 h Q' k => by
        rw [w_R_run_13]
        unfold wi_R_run_13
        exact ⟨by omega, fun q => by omega, fun _ => ⟨by omega, fun _ => h _ k, fun q => absurd hb q⟩⟩
      have hend : ∀ (M1 : xM) (f : Nat), 55 ≤ f → f < 61 → f ≠ 55 → M1.1 1 = rfb f → M1.1 15 < 2147483648 → ∀ Q' : xM → Prop, Q' M1 → w_R_run_13 (m + 1) M1 Q' := fun M1 f h1 h2 h3 h4 h5 Q' k => by
        unfold w_R_run_13 wi_R_run_13
        have := rfb_0 h1 h2 h3
        rw [← h4] at this
        exact ⟨h5, fun _ => k, fun _ => ⟨by omega, fun q => absurd q this.1, fun _ => k⟩⟩
      refine rstep2 hS hW hCt hF hDs hb (by omega) hl (fun h => ?_) (fun f C' hst h => ?_)
      · obtain ⟨M1, z, k⟩ := yd_R_operate M _ (h _ (fun _ q => q))
        obtain ⟨z1, z2, z3, z4, z5, z6, z7, ⟨z8, z8b⟩, z9⟩ := z
        exact hQ 60 C fun Q' hq => hrun M1 k Q' (hend M1 60 (by decide) (by decide) (by decide) z5 (by omega) Q' (hq M1 ⟨z1, z2, z3, z4, z5, by decide, by decide, fun q => absurd q (by decide)⟩))
      · obtain ⟨M1, z, k⟩ := yd_R_operate M _ (h _ (fun _ q => q))
        obtain ⟨z1, z2, z3, z4, z5, z6, z7, ⟨z8, z8b⟩, z9⟩ := z
        by_cases h55 : f = 55
        · subst h55
          obtain ⟨y1, y2, y3⟩ := z9 rfl
          refine rloop m C' M1 (l4 + 1) (by omega) y1 z1 z2 y2 (hDs.eq z3 z4) z5 (by omega) (fun f2 C2 h2 => hQ f2 C2 fun Q' hq => hrun M1 k Q' (h2 Q' fun M2 hm => hq M2 ?_))
          obtain ⟨q1, q2, q3, q4, q5, q6, q7, q8⟩ := hm
          exact ⟨q1, q2, z3.tr q3, z4.tr q4, q5, q6, q7, q8⟩
        · cases m with
          | zero => omega
          | succ m =>
            unfold w_M_doWord_28 wi_M_doWord_28
            have e : Q f C' := hQ f C' fun Q' hq => hrun M1 k Q' (hend M1 f z7 z6 h55 z5 (by omega) Q' (hq M1 ⟨z1, z2, z3, z4, z5, z6, z7, fun q => absurd q h55⟩))
            have c11 : C'.1 11 < 2147483648 := by omega
            exact ⟨by omega, fun _ => e, fun _ => ⟨c11, fun _ => e, fun _ => ⟨z6, fun q => absurd q h55, fun _ => e⟩⟩⟩
end RX
