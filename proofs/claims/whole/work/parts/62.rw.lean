/-! an operation is added: the class's side -/
def rCa (C : xC) (w : Nat) (n : Int32) (ld st x : Nat) : xC := cN (cN (cB (cB (cA (cR C 1 (C.1 6) (some (1048576 + w))) 0 (C.1 6) n) 1 (C.1 6) ld) 2 (C.1 6) st) 7 x) 6 (C.1 6 + 1)
section RAE
variable {w : Nat} {n : Int32} {C : xC} {Q : Nat → xC → Prop}
theorem radd24 (hw : w < 50) (hs : C.1 6 < 60) (h7 : C.1 7 ≤ 3)
    (h : ∀ ld st x : Nat, ld = xwT w - C.1 7 → st = C.1 7 + (xwT w - C.1 7) - xwT w + xwL w - 3 → x = C.1 7 + (xwT w - C.1 7) - xwT w + xwL w - st → (¬ xwK w = 6 → Q 1 (rCa C w n ld st x)) ∧ (xwK w = 6 → Q 1 (cN (cB (rCa C w n ld st x) 2 (C.1 6) (st + x)) 7 0))) : w_C_add_24 w n C Q := by
  have aT : xwT w < 5 ∧ xwL w < 5 ∧ xwK w < 10 := (by decide : ∀ w, w < 50 → xwT w < 5 ∧ xwL w < 5 ∧ xwK w < 10) w hw
  obtain ⟨a1, a2, a3⟩ := aT
  unfold w_C_add_24
  have rd : (cB (cB (cA (cR C 1 (C.1 6) (some (1048576 + w))) 0 (C.1 6) n) 1 (C.1 6) (xwT w - C.1 7)) 2 (C.1 6) ((C.1 7 + (xwT w - C.1 7)) + xwL w - (xwT w + 3))).2.1 2 (C.1 6) = (C.1 7 + (xwT w - C.1 7)) + xwL w - (xwT w + 3) := by
    show xu (C.2.1 2) (C.1 6) _ (C.1 6) = _
    simp [xu]
  refine ⟨by omega, by omega, by omega, by omega, by omega, by omega, hs, by omega, hs, hs, by omega, by omega, hs, hs, ?_, by omega, by omega, fun q => ?_, fun q => ?_⟩
  · rw [rd]; omega
  · rw [rd]
    refine rflC (show C.1 6 + 1 ≤ 60 by omega) ?_
    have := (h (xwT w - C.1 7) (C.1 7 + (xwT w - C.1 7) + xwL w - (xwT w + 3)) (C.1 7 + (xwT w - C.1 7) + xwL w - (xwT w + (C.1 7 + (xwT w - C.1 7) + xwL w - (xwT w + 3)))) rfl (by omega) (by omega)).2 q
    have key : ∀ (X : xC) (st x : Nat), X.1 6 = C.1 6 + 1 → X.2.1 2 (C.1 6) = st → X.1 7 = x → Q 1 (cN (cB X 2 (C.1 6) (st + x)) 7 0) → Q 1 (rCf X) := fun X st x e1 e2 e3 k => by
      unfold rCf
      rw [if_neg (by omega), e1, Nat.add_sub_cancel, e2, e3]
      exact k
    exact key _ _ _ rfl rd rfl this
  · rw [rd]
    exact (h (xwT w - C.1 7) (C.1 7 + (xwT w - C.1 7) + xwL w - (xwT w + 3)) (C.1 7 + (xwT w - C.1 7) + xwL w - (xwT w + (C.1 7 + (xwT w - C.1 7) + xwL w - (xwT w + 3)))) rfl (by omega) (by omega)).1 q
def rC0w (w : Nat) (C : xC) : xC := if xwK w = 7 then rCf C else C
theorem raddC (hw : w < 50) (hs : C.1 6 ≤ 60) (h7 : C.1 7 ≤ 3) (hn : C.1 6 = 60 → Q 0 C)
    (h : C.1 6 < 60 → ∀ ld st x : Nat, ld = xwT w - (rC0w w C).1 7 → st = (rC0w w C).1 7 + (xwT w - (rC0w w C).1 7) - xwT w + xwL w - 3 → x = (rC0w w C).1 7 + (xwT w - (rC0w w C).1 7) - xwT w + xwL w - st → (¬ xwK w = 6 → Q 1 (rCa (rC0w w C) w n ld st x)) ∧ (xwK w = 6 → Q 1 (cN (cB (rCa (rC0w w C) w n ld st x) 2 (C.1 6) (st + x)) 7 0))) : w_C_add w n C Q := by
  have a3 : xwK w < 10 := (by decide : ∀ w, w < 50 → xwK w < 10) w hw
  unfold w_C_add
  refine ⟨by omega, hn, fun q => ⟨by omega, by omega, fun c => ?_, fun c => ?_⟩⟩
  · have h := h (by omega)
    unfold rC0w at h
    rw [if_pos c] at h
    have e1 : (rCf C).1 7 = 0 ∧ (rCf C).1 6 = C.1 6 := by unfold rCf; split <;> exact ⟨rfl, rfl⟩
    refine rflC hs (radd24 hw (by rw [e1.2]; omega) (by rw [e1.1]; decide) fun ld st x h1 h2 h3 => ?_)
    rw [e1.2]
    exact h ld st x h1 h2 h3
  · have h := h (by omega)
    unfold rC0w at h
    rw [if_neg c] at h
    exact radd24 hw (by omega) h7 h
end RAE
