/-! a word is read; a word is done: alike -/
section SL
variable {z0 e : Nat} {C : xC} {M : xM} {Q : Nat → xC → Prop}
/-- behind a word that was read: class's side and the other -/
def rC1 (C : xC) (M : xM) : xC := cN (cN (cN C 2 (rws (M.2.1 0) (M.1 2) (M.1 3))) 3 (rwe (M.2.1 0) (M.1 2) (M.1 3))) 1 (C.1 1 + 1)
def rC1n (C : xC) (M : xM) : xC := cN (cN C 2 (rws (M.2.1 0) (M.1 2) (M.1 3))) 3 (rwe (M.2.1 0) (M.1 2) (M.1 3))
def rM1 (M : xM) : xM := dN (dN (dN (dN M 3 (rws (M.2.1 0) (M.1 2) (M.1 3))) 16 (rws (M.2.1 0) (M.1 2) (M.1 3))) 3 (rwe (M.2.1 0) (M.1 2) (M.1 3))) 17 (rwe (M.2.1 0) (M.1 2) (M.1 3) - rws (M.2.1 0) (M.1 2) (M.1 3))
theorem rwd_b (M : xM) (h : M.1 3 ≤ M.1 2) : M.1 3 ≤ rws (M.2.1 0) (M.1 2) (M.1 3) ∧ rws (M.2.1 0) (M.1 2) (M.1 3) ≤ rwe (M.2.1 0) (M.1 2) (M.1 3) ∧ rwe (M.2.1 0) (M.1 2) (M.1 3) ≤ M.1 2 ∧ ∀ j, rws (M.2.1 0) (M.1 2) (M.1 3) ≤ j → j < rwe (M.2.1 0) (M.1 2) (M.1 3) → ¬ M.2.1 0 j = 32 := by
  have a1 := rsp_le (M.2.1 0) (M.1 2) (M.1 2 - M.1 3 + 1) (M.1 3) h
  have a2 := rnw_le (M.2.1 0) (M.1 2) (M.1 2 - rws (M.2.1 0) (M.1 2) (M.1 3) + 1) (rws (M.2.1 0) (M.1 2) (M.1 3)) a1.2
  exact ⟨a1.1, a2.1, a2.2.1, a2.2.2⟩
/-- the next word, both sides -/
theorem snxt (hI : rI z0 e C M) (h3 : C.1 3 = M.1 3) (h30 : C.1 3 ≤ C.1 0)
    (h0 : rws (M.2.1 0) (M.1 2) (M.1 3) = rwe (M.2.1 0) (M.1 2) (M.1 3) → rI z0 e (rC1n C M) (rM1 M) → (∀ Q' : Nat → xM → Prop, Q' 0 (rM1 M) → w_R_word M Q') → Q 0 (rC1n C M))
    (h1 : rI z0 e (rC1 C M) (rM1 M) → (M.1 6 = 0 → rWd (rC1 C M) (rM1 M)) → (M.1 6 = 1 → rWd (rC1 C M) (rM1 M)) → M.1 3 < (rM1 M).1 3 → (∀ Q' : Nat → xM → Prop, Q' 1 (rM1 M) → w_R_word M Q') → Q 1 (rC1 C M)) : w_T_nextWord C Q := by
  obtain ⟨hF, hT, hS, hC, hb, h15⟩ := hI
  have hT0 := hT
  obtain ⟨t1, t2, t3, t4⟩ := hT
  have b := rwd_b M (by omega)
  obtain ⟨b1, b2, b3, b4⟩ := b
  have es : rws (C.2.1 0) (C.1 0) (C.1 3) = rws (M.2.1 0) (M.1 2) (M.1 3) := by rw [t3, t1, h3]
  have ee : rwe (C.2.1 0) (C.1 0) (C.1 3) = rwe (M.2.1 0) (M.1 2) (M.1 3) := by rw [t3, t1, h3]
  have hI1 : rI z0 e (rC1 C M) (rM1 M) := ⟨hF, hT0, hS, hC, hb, h15⟩
  have hI0 : rI z0 e (rC1n C M) (rM1 M) := ⟨hF, hT0, hS, hC, hb, h15⟩
  refine rnxC (by omega) (fun j hj => by rw [t3]; have := t4 j (by omega); omega) h30 (fun q => ?_) (fun q => ?_)
  · rw [es, ee] at q ⊢
    refine h0 q hI0 (fun Q' hq => rnxM t2 (fun j hj => by have := t4 j hj; omega) (by omega) (fun r hr => ?_))
    rw [if_pos q] at hr
    rw [hr]; exact hq
  · rw [es, ee] at q ⊢
    have hd : rWd (rC1 C M) (rM1 M) := ⟨rfl, (show rwe (M.2.1 0) (M.1 2) (M.1 3) = rws (M.2.1 0) (M.1 2) (M.1 3) + (rwe (M.2.1 0) (M.1 2) (M.1 3) - rws (M.2.1 0) (M.1 2) (M.1 3)) by omega), rfl, (show 1 ≤ rwe (M.2.1 0) (M.1 2) (M.1 3) - rws (M.2.1 0) (M.1 2) (M.1 3) by omega), (show rwe (M.2.1 0) (M.1 2) (M.1 3) ≤ C.1 0 by omega), fun j hj => b4 _ (Nat.le_add_right _ _) (by have hj : j < rwe (M.2.1 0) (M.1 2) (M.1 3) - rws (M.2.1 0) (M.1 2) (M.1 3) := hj; show rws (M.2.1 0) (M.1 2) (M.1 3) + j < _; omega)⟩
    refine h1 hI1 (fun _ => hd) (fun _ => hd) (show M.1 3 < rwe (M.2.1 0) (M.1 2) (M.1 3) by omega) (fun Q' hq => rnxM t2 (fun j hj => by have := t4 j hj; omega) (by omega) (fun r hr => ?_))
    rw [if_neg q] at hr
    rw [hr]; exact hq
theorem sdef {w : Nat} (hI : rI z0 e C M) (h3 : C.1 3 = M.1 3) (h30 : C.1 3 ≤ C.1 0) (h6 : M.1 6 = 0) (he : e ≤ 1000) (hw : w = 52 ∨ w = 53 ∨ w = 54) (hQ : ∀ f C', w_R_defines (rwc w) M (fun M' => rX z0 e C M C' f M') → Q f C') : w_F_define w C Q := by
  have hb := hI.2.2.2.2.1
  have t1 := hI.2.1.1
  have t2 := hI.2.1.2.1
  obtain ⟨b1, b2, b3, b4⟩ := rwd_b M (by omega)
  obtain ⟨H, hDs⟩ := hI.1.2.2.2.2.1
  -- a fault with the name
  have hfl : ∀ C', rF z0 e C' (rM1 M) → (∀ Q' : Int64 → xM → Prop, Q' (Int64.ofNat 0) (dN (rM1 M) 1 2) → w_R_name M Q') → Q 57 C' := fun C' hF hn => by
    refine hQ 57 C' ?_
    unfold w_R_defines
    refine hn _ ⟨by show (2 : Nat) < 2147483648; decide, fun z => absurd (show (2 : Nat) ≤ 0 from z) (by decide), fun _ => ?_⟩
    exact ⟨by decide, by decide, rfl, hF.h (rhC.rf C') (rhM_1 _ 2), (show rwe (M.2.1 0) (M.1 2) (M.1 3) ≤ 160 by omega), fun z => absurd z (by decide)⟩
  have h29 : ∀ Q' : Int64 → xM → Prop, Q' (Int64.ofNat 0) (dN (rM1 M) 1 2) → w_R_name_29 (rM1 M) Q' := fun Q' hq => by
    unfold w_R_name_29
    exact ⟨fun _ => rwr hb ⟨fun _ => hq, fun z => absurd rfl z⟩, fun z => absurd rfl z⟩
  unfold w_F_define
  refine snxt hI h3 h30 (fun q hI1 hm => ⟨by decide, fun _ => ?_, fun z => absurd rfl z⟩) (fun hI1 hd _ hlt hm => ⟨by decide, fun z => absurd z (by decide), fun _ => ?_⟩)
  · refine hfl _ hI1.1 (fun Q' hq => ?_)
    unfold w_R_name
    exact hm _ ⟨by decide, fun _ => h29 Q' hq, fun z => absurd rfl z⟩
  · have hd := hd h6
    obtain ⟨c1, c2, c3, c4, c5⟩ := hd.ch hI1
    have e4 : (rC1 C M).1 4 = (rM1 M).1 4 := hDs.1
    have h40 : (rM1 M).1 4 ≤ 40 := hDs.2.1
    have e16 : (rC1 C M).1 2 = (rM1 M).1 16 := rfl
    have e17 := hd.2.1
    have d17 := hd.2.2.2.1
    have hmn : ∀ Q' : Int64 → xM → Prop, (¬ 7 < (rM1 M).1 17 → ¬ 40 ≤ (rM1 M).1 4 → Q' (rkM ((rM1 M).2.1 0) ((rM1 M).1 16) ((rM1 M).1 17)) (rM1 M)) → (7 < (rM1 M).1 17 ∨ 40 ≤ (rM1 M).1 4 → Q' (Int64.ofNat 0) (dN (rM1 M) 1 2)) → w_R_name M Q' := fun Q' g1 g2 => by
      unfold w_R_name
      refine hm _ ⟨by decide, fun z => absurd z (by decide), fun _ => ⟨by omega, fun z => h29 Q' (g2 (Or.inl z)), fun z => ⟨by omega, fun y => h29 Q' (g2 (Or.inr y)), fun y => ⟨fun x => absurd x (by decide), fun _ => ⟨fun x => absurd x (by decide), fun _ => ?_⟩⟩⟩⟩⟩
      refine rpk c4 d17 c5 (fun x => ?_) (fun x => by omega)
      have := g1 z y
      unfold rkM at this
      rw [if_pos x] at this
      exact this
    have hf2 : 7 < (rM1 M).1 17 ∨ 40 ≤ (rM1 M).1 4 → Q 57 (rC1 C M) := fun z => hfl _ hI1.1 (fun Q' hq => hmn Q' (fun y1 y2 => by omega) (fun _ => hq))
    unfold w_T_isName
    refine ⟨by omega, by omega, fun q => ⟨by decide, fun _ => hf2 (Or.inl (by omega)), fun z => absurd rfl z⟩, fun q => ⟨by decide, fun z => absurd z (by decide), fun _ => ?_⟩⟩
    unfold w_D_isFull
    refine ⟨by omega, fun q4 => ⟨by decide, fun z => absurd z (by decide), fun _ => hf2 (Or.inr (by omega))⟩, fun q4 => ⟨by decide, fun _ => ?_, fun z => absurd rfl z⟩⟩
    refine sdef2 (M := rM1 M) hI1 hd h6 he (by omega) (by omega) hw (fun f C' hr => hQ f C' ?_)
    unfold w_R_defines
    refine hmn _ (fun y1 y2 => ⟨(show M.1 1 < 2147483648 by omega), fun _ => ?_, fun z => absurd (show M.1 1 ≤ 0 by omega) z⟩) (fun z => by omega)
    -- the same, seen from before the name
    have hx : ∀ M', rX2 z0 e (rC1 C M) (rM1 M) C' f M' → rX z0 e C M C' f M' := fun M' x => by
      obtain ⟨x1, x2, x3, x4, x5, x6⟩ := x
      refine ⟨x1, x2, x3, x4, x5, fun q => ?_⟩
      obtain ⟨y1, y2, y3, y4, y5⟩ := x6 q
      have z3 : (rC1 C M).1 3 = rwe (M.2.1 0) (M.1 2) (M.1 3) := rfl
      have z4 : (rM1 M).1 3 = rwe (M.2.1 0) (M.1 2) (M.1 3) := rfl
      have z1 : (rC1 C M).1 1 = C.1 1 + 1 := rfl
      have z0' : (rC1 C M).1 0 = C.1 0 := rfl
      refine ⟨y1, by omega, by omega, by omega, ?_⟩
      rw [if_neg (by omega)]; omega
    -- the condition says what its end says
    have mono : ∀ P P' : xM → Prop, (∀ x, P x → P' x) → rDfn (rwc w) (rkM ((rM1 M).2.1 0) ((rM1 M).1 16) ((rM1 M).1 17)) (rM1 M) P → rDfn (rwc w) (rkM ((rM1 M).2.1 0) ((rM1 M).1 16) ((rM1 M).1 17)) (rM1 M) P' := fun P P' hp k => by
      unfold rDfn at k ⊢
      obtain ⟨k1, k2, k3⟩ := k
      refine ⟨k1, fun q => ?_, fun q => ?_⟩
      · obtain ⟨a1, a2, a3⟩ := k2 q
        exact ⟨a1, a2, hp _ a3⟩
      · obtain ⟨k4, k5, k6⟩ := k3 q
        refine ⟨k4, fun q2 => ?_, fun q2 => ?_⟩
        · obtain ⟨a1, a2, a3⟩ := k5 q2
          refine ⟨a1, fun q3 => ?_, fun q3 => ?_⟩
          · obtain ⟨x, b1, b2⟩ := yd_R_wrong _ _ _ (a2 q3)
            exact b2 _ (hp _ b1)
          · obtain ⟨x, b1, b2⟩ := yd_R_simple _ _ _ _ (a3 q3)
            exact b2 _ (hp _ b1)
        · obtain ⟨a1, a2, a3⟩ := k6 q2
          refine ⟨a1, fun q3 => ?_, fun q3 => ?_⟩
          · obtain ⟨x, b1, b2⟩ := yd_R_wrong _ _ _ (a2 q3)
            exact b2 _ (hp _ b1)
          · obtain ⟨c1, c2, c3⟩ := a3 q3
            obtain ⟨x, b1, b2⟩ := yd_R_simple _ _ _ _ c3
            exact ⟨c1, c2, b2 _ (hp _ b1)⟩
    exact mono _ _ hx hr
end SL
