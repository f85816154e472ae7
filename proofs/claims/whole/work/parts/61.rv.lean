/-! an operation is added -/
/-- the other side's state once an operation is added: numbers held x, moves y -/
def rMa (M : xM) (c : Nat) (v : Int32) (x y : Nat) : xM := dB (dB (dA (dB (dN M 7 x) 2 (60 * M.1 4 + M.2.1 1 (M.1 4)) c) 0 (60 * M.1 4 + M.2.1 1 (M.1 4)) v) 3 (60 * M.1 4 + M.2.1 1 (M.1 4)) y) 1 (M.1 4) (M.2.1 1 (M.1 4) + 1)
section RAD
variable {w : Nat} {v : Int32} {M : xM} {Q : xM → Prop}
theorem radd33 (hw : w < 50) (hw7 : w ≠ 47) (h4 : M.1 4 < 40) (hs : M.2.1 1 (M.1 4) < 60) (h7 : M.1 7 ≤ 3)
    (h : ∀ x y st : Nat, st = (if rcd w = 45 ∨ rcd w = 47 then M.1 7 + (xwT w - M.1 7) - xwT w + xwL w else M.1 7 + (xwT w - M.1 7) - xwT w + xwL w - 3) → x = M.1 7 + (xwT w - M.1 7) - xwT w + xwL w - st → y = 16 * (xwT w - M.1 7) + st → Q (rMa M (rcd w) v x y)) : w_R_add_33 (rcd w) v (M.2.1 1 (M.1 4)) M Q := by
  have aT : xwT w < 5 ∧ xwL w < 5 ∧ rcd w < 50 := (by decide : ∀ w, w < 50 → xwT w < 5 ∧ xwL w < 5 ∧ rcd w < 50) w hw
  have k112 : ∀ l4 : Nat, ∀ hb : Nat, hb = M.1 7 + (xwT w - M.1 7) - xwT w + xwL w → l4 = xwT w - M.1 7 → (rcd w = 45 ∨ rcd w = 47) → w_R_add_112 (rcd w) v (M.2.1 1 (M.1 4)) l4 (dN M 7 hb) Q := fun l4 hb h1 h2 h3 => by
    unfold w_R_add_112
    refine ⟨Nat.le_refl _, (show 60 * M.1 4 + M.2.1 1 (M.1 4) < 2460 by omega), (show 60 * M.1 4 + M.2.1 1 (M.1 4) < 2460 by omega), (show 60 * M.1 4 + M.2.1 1 (M.1 4) < 2460 by omega), (show M.1 4 < 41 by omega), (show M.1 4 < 41 by omega), ?_⟩
    have := h (hb - hb) (16 * l4 + hb) hb (by rw [if_pos h3]; exact h1) (by omega) (by omega)
    unfold rMa at this
    show Q (dB (dB (dA (dB (dN (dN M 7 hb) 7 (hb - hb)) 2 (60 * M.1 4 + M.2.1 1 (M.1 4)) (rcd w)) 0 (60 * M.1 4 + M.2.1 1 (M.1 4)) v) 3 (60 * M.1 4 + M.2.1 1 (M.1 4)) (16 * l4 + hb)) 1 (M.1 4) (M.2.1 1 (M.1 4) + 1))
    rw [dN_dN]
    exact this
  have hk : 60 * M.1 4 + M.2.1 1 (M.1 4) < 2460 := by omega
  unfold w_R_add_33
  refine rtkM w hw hw7 ⟨by omega, by omega, fun c1 => rtkM w hw hw7 (rgvM w hw hw7 ⟨by omega, by omega, fun c2 => ⟨by omega, fun c3 => k112 _ _ (by omega) (by omega) (Or.inl c3), fun c3 => ⟨by omega, fun c4 => k112 _ _ (by omega) (by omega) (Or.inr c4), fun c4 => ⟨Nat.zero_le _, hk, hk, hk, by omega, by omega, ?_⟩⟩⟩, fun c2 => ⟨by omega, fun c3 => k112 _ _ (by omega) (by omega) (Or.inl c3), fun c3 => ⟨by omega, fun c4 => k112 _ _ (by omega) (by omega) (Or.inr c4), fun c4 => ⟨by omega, hk, hk, by omega, hk, by omega, by omega, ?_⟩⟩⟩⟩), fun c1 => rtkM w hw hw7 (rtkM w hw hw7 (rgvM w hw hw7 ⟨by omega, by omega, fun c2 => ⟨by omega, fun c3 => ?_, fun c3 => ⟨by omega, fun c4 => ?_, fun c4 => ?_⟩⟩, fun c2 => ⟨by omega, fun c3 => ?_, fun c3 => ⟨by omega, fun c4 => ?_, fun c4 => ?_⟩⟩⟩))⟩
  · exact h _ _ 0 (by rw [if_neg (by omega)]; omega) (by omega) (by omega)
  · exact h _ _ (M.1 7 + xwL w - xwT w - 3) (by rw [if_neg (by omega)]; omega) (by omega) (by omega)
  · exact ⟨by omega, k112 _ _ (by omega) (by omega) (Or.inl c3)⟩
  · exact ⟨by omega, k112 _ _ (by omega) (by omega) (Or.inr c4)⟩
  · exact ⟨Nat.zero_le _, hk, hk, by omega, hk, by omega, by omega, h _ _ 0 (by rw [if_neg (by omega)]; omega) (by omega) (by omega)⟩
  · exact ⟨by omega, k112 _ _ (by omega) (by omega) (Or.inl c3)⟩
  · exact ⟨by omega, k112 _ _ (by omega) (by omega) (Or.inr c4)⟩
  · exact ⟨by omega, hk, hk, by omega, by omega, hk, by omega, by omega, h _ _ (xwL w - 3) (by rw [if_neg (by omega)]; omega) (by omega) (by omega)⟩
/-- what is held goes to the stack: the other side -/
def rMf (M : xM) : xM := if M.2.1 1 (M.1 4) = 0 then dN M 7 0 else dN (dB M 3 (60 * M.1 4 + M.2.1 1 (M.1 4) - 1) (M.2.1 3 (60 * M.1 4 + M.2.1 1 (M.1 4) - 1) + M.1 7)) 7 0
def rCf (C : xC) : xC := if C.1 6 = 0 then cN C 7 0 else cN (cB C 2 (C.1 6 - 1) (C.2.1 2 (C.1 6 - 1) + C.1 7)) 7 0
theorem rflM (h4 : M.1 4 < 40) (hs : M.2.1 1 (M.1 4) ≤ 60) (h : Q (rMf M)) : w_R_flush M Q := by
  unfold w_R_flush
  unfold rMf at h
  refine ⟨by omega, by omega, fun q => ?_, fun q => ⟨by omega, by omega, by omega, by omega, ?_⟩⟩
  · rw [if_pos (by omega)] at h; exact h
  · rw [if_neg (by omega)] at h; exact h
theorem rflC {C : xC} {Q : xC → Prop} (hs : C.1 6 ≤ 60) (h : Q (rCf C)) : w_C_storeHeld C Q := by
  unfold w_C_storeHeld
  unfold rCf at h
  refine ⟨by omega, fun q => ?_, fun q => ⟨by omega, by omega, by omega, by omega, ?_⟩⟩
  · rw [if_pos (by omega)] at h; exact h
  · rw [if_neg (by omega)] at h; exact h
theorem rfsM {Q : Nat → xM → Prop} (hw : w < 50) (hw7 : w ≠ 47) (h : Q (if xwK w = 7 then 1 else 0) M) : w_R_flushes (rcd w) M Q := by
  have e : rcd w < 50 ∧ (xwK w = 7 ↔ (rcd w = 41 ∨ rcd w = 42 ∨ rcd w = 46 ∨ rcd w = 48)) := (by decide : ∀ w, w < 50 → w ≠ 47 → rcd w < 50 ∧ (xwK w = 7 ↔ (rcd w = 41 ∨ rcd w = 42 ∨ rcd w = 46 ∨ rcd w = 48))) w hw hw7
  unfold w_R_flushes
  by_cases c : xwK w = 7
  · rw [if_pos c] at h
    have c2 := e.2.mp c
    exact ⟨by omega, fun _ => h, fun q1 => ⟨by omega, fun _ => h, fun q2 => ⟨by omega, fun _ => h, fun q3 => ⟨by omega, fun _ => h, fun q4 => by omega⟩⟩⟩⟩
  · rw [if_neg c] at h
    have c2 := fun z => c (e.2.mpr z)
    exact ⟨by omega, fun q => absurd (Or.inl q) c2, fun q1 => ⟨by omega, fun q => absurd (Or.inr (Or.inl q)) c2, fun q2 => ⟨by omega, fun q => absurd (Or.inr (Or.inr (Or.inl q))) c2, fun q3 => ⟨by omega, fun q => absurd (Or.inr (Or.inr (Or.inr q))) c2, fun _ => h⟩⟩⟩⟩
/-- the state in which the operation is laid: flushed first where the word leaves -/
def rM0w (w : Nat) (M : xM) : xM := if xwK w = 7 then rMf M else M
theorem raddM (hw : w < 50) (hw7 : w ≠ 47) (hb : M.1 1 = 0) (h4 : M.1 4 < 40) (hs : M.2.1 1 (M.1 4) ≤ 60) (h7 : M.1 7 ≤ 3) (hn : M.2.1 1 (M.1 4) = 60 → Q (dN M 1 2))
    (h : M.2.1 1 (M.1 4) < 60 → ∀ x y st : Nat, st = (if rcd w = 45 ∨ rcd w = 47 then (rM0w w M).1 7 + (xwT w - (rM0w w M).1 7) - xwT w + xwL w else (rM0w w M).1 7 + (xwT w - (rM0w w M).1 7) - xwT w + xwL w - 3) → x = (rM0w w M).1 7 + (xwT w - (rM0w w M).1 7) - xwT w + xwL w - st → y = 16 * (xwT w - (rM0w w M).1 7) + st → Q (rMa (rM0w w M) (rcd w) v x y)) : w_R_add (rcd w) v M Q := by
  unfold w_R_add
  refine ⟨by omega, by omega, fun q => rwr hb (hn q), fun q => rfsM hw hw7 ?_⟩
  have h := h (by omega)
  unfold rM0w at h
  by_cases c : xwK w = 7
  · rw [if_pos c] at h ⊢
    have e1 : (rMf M).1 7 = 0 ∧ (rMf M).1 4 = M.1 4 ∧ (rMf M).2.1 1 = M.2.1 1 := by unfold rMf; split <;> exact ⟨rfl, rfl, rfl⟩
    refine ⟨by decide, fun q => absurd q (by decide), fun _ => rflM h4 hs ?_⟩
    have := radd33 (M := rMf M) (v := v) (Q := Q) hw hw7 (by rw [e1.2.1]; exact h4) (by rw [e1.2.1, e1.2.2]; omega) (by rw [e1.1]; decide) h
    rw [e1.2.1, e1.2.2] at this
    exact this
  · rw [if_neg c] at h ⊢
    exact ⟨by decide, fun _ => radd33 hw hw7 h4 (by omega) h7 h, fun q => absurd rfl q⟩
end RAD
