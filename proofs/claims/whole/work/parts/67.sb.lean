/-! the words that act at once: alike -/
def rAk (C : xC) (M : xM) (C' : xC) (M' : xM) : Prop := rhC C C' ∧ rhM M M' ∧ C'.1 5 = C.1 5 ∧ C'.2.2.2.1 = C.2.2.2.1 ∧ M'.1 6 = M.1 6 ∧ M'.2.2.2 = M.2.2.2
def rU (C : xC) (M : xM) (C' : xC) (r : Nat) (M' : xM) : Prop := (r = 1 ∧ rAk C M C' M' ∧ (∃ h', rKp C' M' h') ∧ C'.1 8 = M'.1 8 ∧ M'.1 1 = 0) ∨ (r = 0 ∧ rhC C C' ∧ rhM M M' ∧ M'.1 1 = 2)
theorem rhM_1 (M : xM) (b : Nat) : rhM M (dN M 1 b) := ⟨fun i a _ _ _ => by simp only [dN, xu]; rw [if_neg a], fun _ _ => rfl, fun _ _ => rfl, fun _ _ _ _ => rfl, fun _ _ => rfl, fun _ _ => rfl, fun _ _ => rfl⟩
theorem rhM_8 (M : xM) (b : Nat) : rhM M (dN M 8 b) := ⟨fun i _ _ _ a => by simp only [dN, xu]; rw [if_neg a], fun _ _ => rfl, fun _ _ => rfl, fun _ _ _ _ => rfl, fun _ _ => rfl, fun _ _ => rfl, fun _ _ => rfl⟩
theorem rhC_8 (C : xC) (b : Nat) : rhC C (cN C 8 b) := ⟨fun i hi => by simp only [cN, xu]; rw [if_neg (by omega)], fun _ _ => rfl, fun _ _ => rfl, fun _ _ => rfl, rfl⟩
theorem rhC_o (C : xC) (k p b : Nat) (x : Option Nat) : rhC C (cN (cB (cR C 2 k x) 3 k p) 8 b) := ⟨fun i hi => by simp only [cN, cB, cR, xu]; rw [if_neg (by omega)], fun j hj => by simp only [cN, cB, cR, xu2]; rw [if_neg (by omega)], fun _ _ => rfl, fun j hj => by simp only [cN, cB, cR, xu2]; rw [if_neg (by omega)], rfl⟩
theorem rhM_o (M : xM) (k a p b : Nat) : rhM M (dN (dB (dB M 4 k a) 5 k p) 8 b) := ⟨fun i _ _ _ a => by simp only [dN, dB, xu]; rw [if_neg a], fun j hj => by simp only [dN, dB, xu2]; rw [if_neg (by omega), if_neg (by omega)], fun _ _ => rfl, fun j hj i _ => by simp only [dN, dB, xu2]; rw [if_neg (by omega), if_neg (by omega)], fun _ _ => rfl, fun _ _ => rfl, fun _ _ => rfl⟩
theorem rAd.ak {w : Nat} {C C' : xC} {M M' : xM} {h h' : Nat → Nat} (k : rAd w C M h C' M' h') : rAk C M C' M' := ⟨k.2.1, k.2.2.1, k.2.2.2.1, k.2.2.2.2.1, k.2.2.2.2.2.2.1, k.2.2.2.2.2.2.2.1⟩
theorem rAk.tr {A B D : xC} {X Y Z : xM} (h : rAk A X B Y) (k : rAk B Y D Z) : rAk A X D Z := ⟨h.1.tr k.1, h.2.1.tr k.2.1, k.2.2.1.trans h.2.2.1, k.2.2.2.1.trans h.2.2.2.1, k.2.2.2.2.1.trans h.2.2.2.2.1, k.2.2.2.2.2.trans h.2.2.2.2.2⟩
section SB
variable {C : xC} {M : xM} {h : Nat → Nat} {Q : Nat → xC → Prop}
/-- IF -/
theorem sIF (hk : rKp C M h) (k8 : C.1 8 = M.1 8) (hb : M.1 1 = 0) (hQ : ∀ r C' M', rU C M C' r M' → (∀ Q' : xM → Prop, Q' M' → w_R_conditions 56 M Q') → Q r C') : w_C_act 38 C Q := by
  have k1 := hk.1
  have k2 := hk.2.1
  have hm : ∀ Q' : xM → Prop, w_R_add 45 (nI 0) M (fun M16 => (M16.1 1 < 2147483648 ∧ ((M16.1 1 = 0 → w_R_put 1 (M.2.1 1 (M.1 4)) M16 (fun M19 => Q' M19)) ∧ (¬ (M16.1 1 = 0) → Q' M16)))) → w_R_conditions 56 M Q' := fun Q' k => by
    unfold w_R_conditions
    exact ⟨by omega, by decide, fun _ => k, fun q => absurd rfl q⟩
  unfold w_C_act
  refine ⟨by decide, by decide, by decide, fun _ => ?_, fun q => absurd rfl q⟩
  refine rad (v := nI 0) hk hb (by decide) (by decide) (by decide) ⟨fun q => absurd q (by decide), fun q => absurd q (by decide), fun _ _ _ => ⟨0, Nat.zero_le _, hk.2.2.2.2.2.1, rfl, rfl⟩⟩ (fun q hr => ⟨by decide, fun _ => hQ 0 C (dN M 1 2) (Or.inr ⟨rfl, rhC.rf C, rhM_1 M 2, rfl⟩) (fun Q' hq => hm Q' (hr _ ⟨by show (2 : Nat) < 2147483648; decide, fun z => absurd (show (2 : Nat) = 0 from z) (by decide), fun _ => hq⟩)), fun z => absurd rfl z⟩) (fun C' M' h' ha hr => ⟨by decide, fun z => absurd z (by decide), fun _ => ?_⟩)
  obtain ⟨a1, a2, a3, a4, a5, a6, a7, a8, a9, a10, a11, a12, a13, a14, a15, a16, a17, a18⟩ := id ha
  have e : C'.1 6 - 1 = M.2.1 1 (M.1 4) := by omega
  refine ⟨by omega, sopn (w := 38) a1 (by omega) a6 (Or.inl rfl) (by omega) (fun _ => ⟨by omega, by rw [a9, Nat.add_sub_cancel]; exact a17.1⟩) (fun q => by omega) (fun q => absurd q (by decide)) (fun q hp => ⟨by decide, fun _ => hQ 0 C' (dN M' 1 2) (Or.inr ⟨rfl, a2, a3.tr (rhM_1 M' 2), rfl⟩) (fun Q' hq => hm Q' (hr _ ⟨by omega, fun _ => ?_, fun z => absurd a6 z⟩)), fun z => absurd rfl z⟩) (fun q hk' hp => ⟨by decide, fun z => absurd z (by decide), fun _ => hQ 1 _ _ (Or.inl ⟨rfl, ha.ak.tr ⟨rhC_o _ _ _ _ _, rhM_o _ _ _ _ _, rfl, rfl, rfl, rfl⟩, ⟨h', hk'⟩, (show C'.1 8 + 1 = M'.1 8 + 1 by omega), a6⟩) (fun Q' hq => hm Q' (hr _ ⟨by omega, fun _ => ?_, fun z => absurd a6 z⟩))⟩)⟩
  · have := hp Q' hq; rw [e] at this; exact this
  · have := hp Q' hq; rw [e] at this; exact this
end SB
