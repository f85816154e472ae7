/-! definitions, and the frames that run: alike. h: how many numbers an operation finds in registers -/
def rOp (nd : Nat) (M : xM) (d : Nat) (D : xDf) (h : Nat → Nat) (i w : Nat) : Prop :=
  w < 50 ∧ w ≠ 47 ∧ D.2.2.1 i = some (1048576 + w) ∧ M.2.1 2 (60 * d + i) = rcd w ∧ D.2.2.2.2.1 i = M.2.1 3 (60 * d + i) / 16 ∧ D.2.2.2.2.2 i = M.2.1 3 (60 * d + i) % 16 ∧ M.2.1 3 (60 * d + i) < 1000 ∧ D.2.2.2.2.1 i = xwT w - h i ∧
  (w = 37 → D.2.2.2.1 i = M.2.2.1 0 (60 * d + i)) ∧
  (w = 49 → ∃ e, e < nd ∧ D.2.2.2.1 i = nI e ∧ M.2.2.1 0 (60 * d + i) = nI e) ∧
  (38 ≤ w → w ≤ 45 → w ≠ 41 → ∃ t, t < D.2.1 ∧ h t = 0 ∧ D.2.2.2.1 i = nI t ∧ M.2.2.1 0 (60 * d + i) = nI t) ∧
  (w = 48 → i + 1 = D.2.1) ∧ (i + 1 = D.2.1 → w = 48 ∨ (w = 37 ∧ D.2.1 = 1)) ∧
  (i + 1 < D.2.1 → (w < 38 → h (i + 1) + xwT w ≤ h i + D.2.2.2.2.1 i + xwL w) ∧ (38 ≤ w → h (i + 1) = 0))
def rDef (nd : Nat) (M : xM) (d : Nat) (D : xDf) (h : Nat → Nat) : Prop := D.2.1 = M.2.1 1 d ∧ 1 ≤ D.2.1 ∧ D.2.1 ≤ 60 ∧ h 0 = 0 ∧ ∀ i, i < D.2.1 → ∃ w, rOp nd M d D h i w
def rDs (C : xC) (M : xM) (H : Nat → Nat → Nat) : Prop := C.1 4 = M.1 4 ∧ M.1 4 ≤ 40 ∧ ∀ d, d < M.1 4 → ∃ a D, C.2.2.2.2.1 0 d = some a ∧ xD C a D ∧ rDef (M.1 4) M d D (H d)
/-- the frames that run -/
def rFr (C : xC) (M : xM) (H : Nat → Nat → Nat) : Prop := C.1 11 = M.1 15 ∧ M.1 15 ≤ 12 ∧ ∀ j, j < M.1 15 → M.2.1 6 j < M.1 4 ∧ C.2.2.2.2.1 3 j = C.2.2.2.2.1 0 (M.2.1 6 j) ∧ C.2.1 4 j = M.2.1 7 j ∧ M.2.1 7 j < M.2.1 1 (M.2.1 6 j) ∧ (j + 1 < M.1 15 → H (M.2.1 6 j) (M.2.1 7 j) = 0) ∧ H (M.2.1 6 j) (M.2.1 7 j) ≤ M.1 9
def rCt (C : xC) (M : xM) : Prop := C.1 14 = M.1 12 ∧ M.1 12 ≤ 600 ∧ C.1 15 = M.1 13 ∧ C.1 16 = M.1 14 ∧ M.1 11 ≤ M.1 12
/-- what runs leave alone -/
def rgC (C C' : xC) : Prop := (∀ i, i < 9 ∨ i = 12 → C'.1 i = C.1 i) ∧ (∀ k, k ≠ 4 → C'.2.1 k = C.2.1 k) ∧ C'.2.2.1 0 = C.2.2.1 0 ∧ C'.2.2.2.1 = C.2.2.2.1 ∧ (∀ k, k ≠ 3 → C'.2.2.2.2.1 k = C.2.2.2.2.1 k) ∧ C'.2.2.2.2.2 = C.2.2.2.2.2
def rgM (M M' : xM) : Prop := (∀ i, i = 0 ∨ (2 ≤ i ∧ i ≤ 8) ∨ 16 ≤ i → M'.1 i = M.1 i) ∧ (∀ k, k < 6 → M'.2.1 k = M.2.1 k) ∧ M'.2.2.1 0 = M.2.2.1 0 ∧ M'.2.2.2 = M.2.2.2
theorem rgC.rf (C : xC) : rgC C C := ⟨fun _ _ => rfl, fun _ _ => rfl, rfl, rfl, fun _ _ => rfl, rfl⟩
theorem rgM.rf (M : xM) : rgM M M := ⟨fun _ _ => rfl, fun _ _ => rfl, rfl, rfl⟩
theorem rgC.tr {A B C : xC} (h : rgC A B) (k : rgC B C) : rgC A C := ⟨fun i hi => (k.1 i hi).trans (h.1 i hi), fun i hi => (k.2.1 i hi).trans (h.2.1 i hi), k.2.2.1.trans h.2.2.1, k.2.2.2.1.trans h.2.2.2.1, fun i hi => (k.2.2.2.2.1 i hi).trans (h.2.2.2.2.1 i hi), k.2.2.2.2.2.trans h.2.2.2.2.2⟩
theorem rgM.tr {A B C : xM} (h : rgM A B) (k : rgM B C) : rgM A C := ⟨fun i hi => (k.1 i hi).trans (h.1 i hi), fun i hi => (k.2.1 i hi).trans (h.2.1 i hi), k.2.2.1.trans h.2.2.1, k.2.2.2.trans h.2.2.2⟩
theorem rgC.of {C C' : xC} (h : rfC C C') : rgC C C' := ⟨fun i hi => h.1 i (by omega) (by omega) (by omega), fun k _ => by rw [h.2.1], h.2.2.1, by rw [h.2.2.2], fun k _ => by rw [h.2.2.2], by rw [h.2.2.2]⟩
theorem rgM.of {M M' : xM} (h : rfM M M') : rgM M M' := ⟨fun i hi => h.1 i (by omega) (by omega) (by omega) (by omega), fun k _ => by rw [h.2.1], h.2.2.1, h.2.2.2⟩
theorem xD.eq {C C' : xC} {a : Nat} {D : xDf} (e : C'.2.2.2.2.2 = C.2.2.2.2.2) (h : xD C a D) : xD C' a D := by
  have e2 : C'.2.2.2.2.2.2.1 = C.2.2.2.2.2.2.1 := by rw [e]
  unfold xD at h ⊢
  rw [e2]
  exact h
theorem rOp.eq {nd d i w : Nat} {M M' : xM} {D : xDf} {h : Nat → Nat} (e : rgM M M') (k : rOp nd M d D h i w) : rOp nd M' d D h i w := by
  unfold rOp at k ⊢
  rw [e.2.1 2 (by omega), e.2.1 3 (by omega), e.2.2.1]
  exact k
theorem rDef.eq {nd d : Nat} {M M' : xM} {D : xDf} {h : Nat → Nat} (e : rgM M M') (k : rDef nd M d D h) : rDef nd M' d D h := by
  obtain ⟨k1, k2, k3, k4, k5⟩ := k
  refine ⟨by rw [e.2.1 1 (by omega)]; exact k1, k2, k3, k4, fun i hi => ?_⟩
  obtain ⟨w, hw⟩ := k5 i hi
  exact ⟨w, hw.eq e⟩
theorem rDs.eq {C C' : xC} {M M' : xM} {H : Nat → Nat → Nat} (e : rgC C C') (e2 : rgM M M') (k : rDs C M H) : rDs C' M' H := by
  obtain ⟨k1, k2, k3⟩ := k
  have q : M'.1 4 = M.1 4 := e2.1 4 (by omega)
  refine ⟨by rw [e.1 4 (by omega), q]; exact k1, by rw [q]; exact k2, fun d hd => ?_⟩
  rw [q] at hd ⊢
  obtain ⟨a, D, h1, h2, h3⟩ := k3 d hd
  exact ⟨a, D, by rw [e.2.2.2.2.1 0 (by omega)]; exact h1, h2.eq e.2.2.2.2.2, h3.eq e2⟩
section RH
variable {M : xM} {Q : xM → Prop} {d k w : Nat}
/-- the other side's operation, up to its kind -/
theorem rope (hw : w < 50) (hw7 : w ≠ 47) (hb : M.1 1 = 0) (h15 : 1 ≤ M.1 15) (h13 : M.1 15 ≤ 12) (hd9 : M.1 9 ≤ 24) (hst : M.1 12 ≤ 600) (ed : M.2.1 6 (M.1 15 - 1) = d) (ek : 60 * d + M.2.1 7 (M.1 15 - 1) = k) (hk : k < 2460) (hc : M.2.1 2 k = rcd w) (hm : M.2.1 3 k < 1000) (hl : xwT w ≤ M.1 9 + M.2.1 3 k / 16)
    (h1 : M.1 12 = 600 → Q (dN M 1 5)) (h2 : M.1 12 < 600 → w_R_operate_101 d k (rcd w) (dN (dN M 12 (M.1 12 + 1)) 13 (M.1 13 + min (M.2.1 3 k / 16) (M.1 9 + M.2.1 3 k / 16 - xwT w))) Q) : w_R_operate M Q := by
  have aT : xwT w < 5 := (by decide : ∀ w, w < 50 → xwT w < 5) w hw
  have hm2 : M.2.1 3 k / 16 < 1000 := by omega
  unfold w_R_operate
  rw [ed, ek, hc]
  refine ⟨h15, by omega, h15, by omega, hk, ?_⟩
  unfold w_R_step
  refine ⟨by omega, fun q => rwr hb ?_, fun q => ⟨by omega, fun _ => ⟨by decide, fun q => absurd q (by decide), fun _ => ?_⟩, fun q => absurd hb q⟩⟩
  · have e : (dN M 1 5).1 1 = 5 := rfl
    exact ⟨by rw [e]; decide, fun q => absurd q (by rw [e]; decide), fun _ => ⟨by decide, fun _ => h1 q, fun q => absurd rfl q⟩⟩
  · unfold w_R_operate_44
    have h2 := h2 (by omega)
    refine ⟨hk, (show M.2.1 3 k < 2147483648 by omega), rtkM w hw hw7 ⟨(show M.2.1 3 k / 16 < 2147483648 by omega), (show M.1 9 + M.2.1 3 k / 16 < 2147483648 by omega), by omega, fun c1 => ⟨(show M.2.1 3 k / 16 < 2147483648 by omega), fun c2 => ?_, fun c2 => ?_⟩, fun c1 => ?_⟩⟩
    · have c2 : M.2.1 3 k / 16 ≤ 0 := c2
      show w_R_operate_101 d k (rcd w) (dN (dN M 12 (M.1 12 + 1)) 13 (M.1 13)) Q
      rw [show M.1 13 + min (M.2.1 3 k / 16) (M.1 9 + M.2.1 3 k / 16 - xwT w) = M.1 13 by omega] at h2
      exact h2
    · have c1 : M.1 9 + M.2.1 3 k / 16 ≤ M.2.1 3 k / 16 + xwT w := c1
      refine ⟨(show xwT w ≤ M.1 13 + (M.1 9 + M.2.1 3 k / 16) by omega), ?_⟩
      show w_R_operate_101 d k (rcd w) (dN (dN M 12 (M.1 12 + 1)) 13 (M.1 13 + (M.1 9 + M.2.1 3 k / 16) - xwT w)) Q
      rw [show M.1 13 + min (M.2.1 3 k / 16) (M.1 9 + M.2.1 3 k / 16 - xwT w) = M.1 13 + (M.1 9 + M.2.1 3 k / 16) - xwT w by omega] at h2
      exact h2
    · have c1 : ¬ M.1 9 + M.2.1 3 k / 16 ≤ M.2.1 3 k / 16 + xwT w := c1
      show w_R_operate_101 d k (rcd w) (dN (dN M 12 (M.1 12 + 1)) 13 (M.1 13 + M.2.1 3 k / 16)) Q
      rw [show M.1 13 + min (M.2.1 3 k / 16) (M.1 9 + M.2.1 3 k / 16 - xwT w) = M.1 13 + M.2.1 3 k / 16 by omega] at h2
      exact h2
end RH
