/-! the law: the same -/
def w_L_write (x2 : Int64) (x3 : Int32) (C : xC) (Q : Nat → xC → Prop) : Prop := w_F_write x2 x3 C (fun r2 C1 => (0 < 1 ∧ Q 0 (cO C1 0 ((nI r2).toInt64)))) (fun ci C1 => ((ci = 8 → Q 1 C1) ∧ (¬ (ci = 8) → ((ci = 9 → Q 2 C1) ∧ (¬ (ci = 9) → False)))))
set_option maxRecDepth 8000 in
set_option maxHeartbeats 4000000 in
theorem p_L_write (L : Nat) (xs : Nat → Int32) (d : Nat) (x2 : Int64) (x3 : Int32) (C : xC) (Q : Nat → xC → Prop) (h : w_L_write x2 x3 C Q) : xG xec (xgt L xs) (d + 7) xi_L_write (0, [(0, .ref 0), (1, .long x2), (3, .int x3), (4, .ref 37)], []) C (xPN Q) := by
  unfold w_L_write at h
  refine xG.seg 5 (f' := (6, [(0, .ref 0), (1, .long x2), (3, .int x3), (4, .ref 37)], [.int x3, .long x2, .ref 0, .int (nI 0), .ref 37])) (x1 := C) (fun _ => rfl) ?_
  refine xG.callH (d := d + 6) (vs := [.ref 0, .long x2, .int x3]) (g := (6, [(0, .ref 0), (1, .long x2), (3, .int x3), (4, .ref 37)], [.int (nI 0), .ref 37])) (fun _ => rfl) rfl rfl (p_F_write L xs d x2 x3 C _ _ h) ?_
  clear h
  rintro o C1 hq
  rcases hq with ⟨r2, rfl, h⟩ | ⟨ci, rfl, hq1, h⟩
  · refine Or.inl ⟨_, rfl, ?_⟩
    refine xG.eqf (f' := (9, [(0, .ref 0), (1, .long x2), (3, .int x3), (4, .ref 37)], [.int (nI r2), .int (nI 0), .ref 37])) rfl ?_
    refine xG.seg 1 (f' := (10, [(0, .ref 0), (1, .long x2), (3, .int x3), (4, .ref 37)], [.long ((nI r2).toInt64), .int (nI 0), .ref 37])) (x1 := C1) (fun _ => rfl) ?_
    obtain ⟨c3, h⟩ := h
    refine xG.last (x1 := (cO C1 0 ((nI r2).toInt64))) rfl (by decide) (fun _ => rfl) (by decide) c3 (fun _ => rfl) ?_
    refine xG.eqf (f' := (11, [(0, .ref 0), (1, .long x2), (3, .int x3), (4, .ref 37)], [])) rfl ?_
    refine xG.seg 2 (f' := (23, [(0, .ref 0), (1, .long x2), (3, .int x3), (4, .ref 37)], [.int (nI 0)])) (x1 := (cO C1 0 ((nI r2).toInt64))) (fun _ => rfl) ?_
    exact xG.fin (fun _ => rfl) (⟨_, rfl, h⟩)
  · by_cases k4 : ci = 8
    · replace h := h.1 k4
      subst k4
      refine Or.inr ⟨_, 14, rfl, fun y => xcatch hq1 rfl y, ?_⟩
      refine xG.eqf (f' := (14, [(0, .ref 0), (1, .long x2), (3, .int x3), (4, .ref 37)], [.ref (C1.2.2.2.2.2.2.1.length + 37)])) rfl ?_
      refine xG.seg 2 (f' := (17, [(5, .ref (C1.2.2.2.2.2.2.1.length + 37)), (0, .ref 0), (1, .long x2), (3, .int x3), (4, .ref 37)], [.int (nI 1)])) (x1 := C1) (fun _ => rfl) ?_
      exact xG.fin (fun _ => rfl) (⟨_, rfl, h⟩)
    replace h := h.2 k4
    by_cases k5 : ci = 9
    · replace h := h.1 k5
      subst k5
      refine Or.inr ⟨_, 18, rfl, fun y => xcatch hq1 rfl y, ?_⟩
      refine xG.eqf (f' := (18, [(0, .ref 0), (1, .long x2), (3, .int x3), (4, .ref 37)], [.ref (C1.2.2.2.2.2.2.1.length + 37)])) rfl ?_
      refine xG.seg 2 (f' := (21, [(5, .ref (C1.2.2.2.2.2.2.1.length + 37)), (0, .ref 0), (1, .long x2), (3, .int x3), (4, .ref 37)], [.int (nI 2)])) (x1 := C1) (fun _ => rfl) ?_
      exact xG.fin (fun _ => rfl) (⟨_, rfl, h⟩)
    replace h := h.2 k5
    exact h.elim

def w_L_interpret (C : xC) (Q : Nat → xC → Prop) : Prop := w_F_interpret C (fun r2 C1 => (0 < 1 ∧ Q 0 (cO C1 0 ((nI r2).toInt64)))) (fun ci C1 => ((ci = 10 → Q 1 C1) ∧ (¬ (ci = 10) → ((ci = 8 → Q 2 C1) ∧ (¬ (ci = 8) → ((ci = 9 → Q 3 C1) ∧ (¬ (ci = 9) → ((ci = 11 → Q 4 C1) ∧ (¬ (ci = 11) → ((ci = 12 → Q 5 C1) ∧ (¬ (ci = 12) → False)))))))))))
set_option maxRecDepth 8000 in
set_option maxHeartbeats 4000000 in
theorem p_L_interpret (L : Nat) (xs : Nat → Int32) (d : Nat) (C : xC) (Q : Nat → xC → Prop) (h : w_L_interpret C Q) : xG xec (xgt L xs) (d + 12) xi_L_interpret (0, [(0, .ref 0), (1, .ref 37)], []) C (xPN Q) := by
  unfold w_L_interpret at h
  refine xG.seg 3 (f' := (3, [(0, .ref 0), (1, .ref 37)], [.ref 0, .int (nI 0), .ref 37])) (x1 := C) (fun _ => rfl) ?_
  refine xG.callH (d := d + 11) (vs := [.ref 0]) (g := (3, [(0, .ref 0), (1, .ref 37)], [.int (nI 0), .ref 37])) (fun _ => rfl) rfl rfl (p_F_interpret L xs d C _ _ h) ?_
  clear h
  rintro o C1 hq
  rcases hq with ⟨r2, rfl, h⟩ | ⟨ci, rfl, hq1, h⟩
  · refine Or.inl ⟨_, rfl, ?_⟩
    refine xG.eqf (f' := (6, [(0, .ref 0), (1, .ref 37)], [.int (nI r2), .int (nI 0), .ref 37])) rfl ?_
    refine xG.seg 1 (f' := (7, [(0, .ref 0), (1, .ref 37)], [.long ((nI r2).toInt64), .int (nI 0), .ref 37])) (x1 := C1) (fun _ => rfl) ?_
    obtain ⟨c3, h⟩ := h
    refine xG.last (x1 := (cO C1 0 ((nI r2).toInt64))) rfl (by decide) (fun _ => rfl) (by decide) c3 (fun _ => rfl) ?_
    refine xG.eqf (f' := (8, [(0, .ref 0), (1, .ref 37)], [])) rfl ?_
    refine xG.seg 2 (f' := (27, [(0, .ref 0), (1, .ref 37)], [.int (nI 0)])) (x1 := (cO C1 0 ((nI r2).toInt64))) (fun _ => rfl) ?_
    exact xG.fin (fun _ => rfl) (⟨_, rfl, h⟩)
  · by_cases k4 : ci = 10
    · replace h := h.1 k4
      subst k4
      refine Or.inr ⟨_, 11, rfl, fun y => xcatch hq1 rfl y, ?_⟩
      refine xG.eqf (f' := (11, [(0, .ref 0), (1, .ref 37)], [.ref (C1.2.2.2.2.2.2.1.length + 37)])) rfl ?_
      refine xG.seg 2 (f' := (13, [(2, .ref (C1.2.2.2.2.2.2.1.length + 37)), (0, .ref 0), (1, .ref 37)], [.int (nI 1)])) (x1 := C1) (fun _ => rfl) ?_
      exact xG.fin (fun _ => rfl) (⟨_, rfl, h⟩)
    replace h := h.2 k4
    by_cases k5 : ci = 8
    · replace h := h.1 k5
      subst k5
      refine Or.inr ⟨_, 14, rfl, fun y => xcatch hq1 rfl y, ?_⟩
      refine xG.eqf (f' := (14, [(0, .ref 0), (1, .ref 37)], [.ref (C1.2.2.2.2.2.2.1.length + 37)])) rfl ?_
      refine xG.seg 2 (f' := (16, [(2, .ref (C1.2.2.2.2.2.2.1.length + 37)), (0, .ref 0), (1, .ref 37)], [.int (nI 2)])) (x1 := C1) (fun _ => rfl) ?_
      exact xG.fin (fun _ => rfl) (⟨_, rfl, h⟩)
    replace h := h.2 k5
    by_cases k6 : ci = 9
    · replace h := h.1 k6
      subst k6
      refine Or.inr ⟨_, 17, rfl, fun y => xcatch hq1 rfl y, ?_⟩
      refine xG.eqf (f' := (17, [(0, .ref 0), (1, .ref 37)], [.ref (C1.2.2.2.2.2.2.1.length + 37)])) rfl ?_
      refine xG.seg 2 (f' := (19, [(2, .ref (C1.2.2.2.2.2.2.1.length + 37)), (0, .ref 0), (1, .ref 37)], [.int (nI 3)])) (x1 := C1) (fun _ => rfl) ?_
      exact xG.fin (fun _ => rfl) (⟨_, rfl, h⟩)
    replace h := h.2 k6
    by_cases k7 : ci = 11
    · replace h := h.1 k7
      subst k7
      refine Or.inr ⟨_, 20, rfl, fun y => xcatch hq1 rfl y, ?_⟩
      refine xG.eqf (f' := (20, [(0, .ref 0), (1, .ref 37)], [.ref (C1.2.2.2.2.2.2.1.length + 37)])) rfl ?_
      refine xG.seg 2 (f' := (22, [(2, .ref (C1.2.2.2.2.2.2.1.length + 37)), (0, .ref 0), (1, .ref 37)], [.int (nI 4)])) (x1 := C1) (fun _ => rfl) ?_
      exact xG.fin (fun _ => rfl) (⟨_, rfl, h⟩)
    replace h := h.2 k7
    by_cases k8 : ci = 12
    · replace h := h.1 k8
      subst k8
      refine Or.inr ⟨_, 23, rfl, fun y => xcatch hq1 rfl y, ?_⟩
      refine xG.eqf (f' := (23, [(0, .ref 0), (1, .ref 37)], [.ref (C1.2.2.2.2.2.2.1.length + 37)])) rfl ?_
      refine xG.seg 2 (f' := (25, [(2, .ref (C1.2.2.2.2.2.2.1.length + 37)), (0, .ref 0), (1, .ref 37)], [.int (nI 5)])) (x1 := C1) (fun _ => rfl) ?_
      exact xG.fin (fun _ => rfl) (⟨_, rfl, h⟩)
    replace h := h.2 k8
    exact h.elim

def w_L_top (x2 : Int32) (C : xC) (Q : Nat → xC → Prop) : Prop := w_F_top x2 C (fun r2 C1 => (0 < 1 ∧ Q 0 (cO C1 0 r2.toInt64))) (fun ci C1 => ((ci = 13 → Q 1 C1) ∧ (¬ (ci = 13) → False)))
set_option maxRecDepth 8000 in
set_option maxHeartbeats 4000000 in
theorem p_L_top (L : Nat) (xs : Nat → Int32) (d : Nat) (x2 : Int32) (C : xC) (Q : Nat → xC → Prop) (h : w_L_top x2 C Q) : xG xec (xgt L xs) (d + 7) xi_L_top (0, [(0, .ref 0), (1, .int x2), (2, .ref 37)], []) C (xPN Q) := by
  unfold w_L_top at h
  refine xG.seg 4 (f' := (4, [(0, .ref 0), (1, .int x2), (2, .ref 37)], [.int x2, .ref 0, .int (nI 0), .ref 37])) (x1 := C) (fun _ => rfl) ?_
  refine xG.callH (d := d + 6) (vs := [.ref 0, .int x2]) (g := (4, [(0, .ref 0), (1, .int x2), (2, .ref 37)], [.int (nI 0), .ref 37])) (fun _ => rfl) rfl rfl (p_F_top L xs d x2 C _ _ h) ?_
  clear h
  rintro o C1 hq
  rcases hq with ⟨r2, rfl, h⟩ | ⟨ci, rfl, hq1, h⟩
  · refine Or.inl ⟨_, rfl, ?_⟩
    refine xG.eqf (f' := (7, [(0, .ref 0), (1, .int x2), (2, .ref 37)], [.int r2, .int (nI 0), .ref 37])) rfl ?_
    refine xG.seg 1 (f' := (8, [(0, .ref 0), (1, .int x2), (2, .ref 37)], [.long r2.toInt64, .int (nI 0), .ref 37])) (x1 := C1) (fun _ => rfl) ?_
    obtain ⟨c3, h⟩ := h
    refine xG.last (x1 := (cO C1 0 r2.toInt64)) rfl (by decide) (fun _ => rfl) (by decide) c3 (fun _ => rfl) ?_
    refine xG.eqf (f' := (9, [(0, .ref 0), (1, .int x2), (2, .ref 37)], [])) rfl ?_
    refine xG.seg 2 (f' := (16, [(0, .ref 0), (1, .int x2), (2, .ref 37)], [.int (nI 0)])) (x1 := (cO C1 0 r2.toInt64)) (fun _ => rfl) ?_
    exact xG.fin (fun _ => rfl) (⟨_, rfl, h⟩)
  · by_cases k4 : ci = 13
    · replace h := h.1 k4
      subst k4
      refine Or.inr ⟨_, 12, rfl, fun y => xcatch hq1 rfl y, ?_⟩
      refine xG.eqf (f' := (12, [(0, .ref 0), (1, .int x2), (2, .ref 37)], [.ref (C1.2.2.2.2.2.2.1.length + 37)])) rfl ?_
      refine xG.seg 2 (f' := (14, [(3, .ref (C1.2.2.2.2.2.2.1.length + 37)), (0, .ref 0), (1, .int x2), (2, .ref 37)], [.int (nI 1)])) (x1 := C1) (fun _ => rfl) ?_
      exact xG.fin (fun _ => rfl) (⟨_, rfl, h⟩)
    replace h := h.2 k4
    exact h.elim

def w_L_cell (x2 : Int32) (C : xC) (Q : Nat → xC → Prop) : Prop := w_F_cell x2 C (fun r2 C1 => (0 < 1 ∧ Q 0 (cO C1 0 r2.toInt64))) (fun ci C1 => ((ci = 13 → Q 1 C1) ∧ (¬ (ci = 13) → False)))
set_option maxRecDepth 8000 in
set_option maxHeartbeats 4000000 in
theorem p_L_cell (L : Nat) (xs : Nat → Int32) (d : Nat) (x2 : Int32) (C : xC) (Q : Nat → xC → Prop) (h : w_L_cell x2 C Q) : xG xec (xgt L xs) (d + 7) xi_L_cell (0, [(0, .ref 0), (1, .int x2), (2, .ref 37)], []) C (xPN Q) := by
  unfold w_L_cell at h
  refine xG.seg 4 (f' := (4, [(0, .ref 0), (1, .int x2), (2, .ref 37)], [.int x2, .ref 0, .int (nI 0), .ref 37])) (x1 := C) (fun _ => rfl) ?_
  refine xG.callH (d := d + 6) (vs := [.ref 0, .int x2]) (g := (4, [(0, .ref 0), (1, .int x2), (2, .ref 37)], [.int (nI 0), .ref 37])) (fun _ => rfl) rfl rfl (p_F_cell L xs d x2 C _ _ h) ?_
  clear h
  rintro o C1 hq
  rcases hq with ⟨r2, rfl, h⟩ | ⟨ci, rfl, hq1, h⟩
  · refine Or.inl ⟨_, rfl, ?_⟩
    refine xG.eqf (f' := (7, [(0, .ref 0), (1, .int x2), (2, .ref 37)], [.int r2, .int (nI 0), .ref 37])) rfl ?_
    refine xG.seg 1 (f' := (8, [(0, .ref 0), (1, .int x2), (2, .ref 37)], [.long r2.toInt64, .int (nI 0), .ref 37])) (x1 := C1) (fun _ => rfl) ?_
    obtain ⟨c3, h⟩ := h
    refine xG.last (x1 := (cO C1 0 r2.toInt64)) rfl (by decide) (fun _ => rfl) (by decide) c3 (fun _ => rfl) ?_
    refine xG.eqf (f' := (9, [(0, .ref 0), (1, .int x2), (2, .ref 37)], [])) rfl ?_
    refine xG.seg 2 (f' := (16, [(0, .ref 0), (1, .int x2), (2, .ref 37)], [.int (nI 0)])) (x1 := (cO C1 0 r2.toInt64)) (fun _ => rfl) ?_
    exact xG.fin (fun _ => rfl) (⟨_, rfl, h⟩)
  · by_cases k4 : ci = 13
    · replace h := h.1 k4
      subst k4
      refine Or.inr ⟨_, 12, rfl, fun y => xcatch hq1 rfl y, ?_⟩
      refine xG.eqf (f' := (12, [(0, .ref 0), (1, .int x2), (2, .ref 37)], [.ref (C1.2.2.2.2.2.2.1.length + 37)])) rfl ?_
      refine xG.seg 2 (f' := (14, [(3, .ref (C1.2.2.2.2.2.2.1.length + 37)), (0, .ref 0), (1, .int x2), (2, .ref 37)], [.int (nI 1)])) (x1 := C1) (fun _ => rfl) ?_
      exact xG.fin (fun _ => rfl) (⟨_, rfl, h⟩)
    replace h := h.2 k4
    exact h.elim

def w_L_saying (x2 : Int32) (C : xC) (Q : Nat → xC → Prop) : Prop := w_F_saying x2 C (fun r2 C1 => (0 < 1 ∧ Q 0 (cO C1 0 r2.toInt64))) (fun ci C1 => ((ci = 13 → Q 1 C1) ∧ (¬ (ci = 13) → False)))
set_option maxRecDepth 8000 in
set_option maxHeartbeats 4000000 in
theorem p_L_saying (L : Nat) (xs : Nat → Int32) (d : Nat) (x2 : Int32) (C : xC) (Q : Nat → xC → Prop) (h : w_L_saying x2 C Q) : xG xec (xgt L xs) (d + 7) xi_L_saying (0, [(0, .ref 0), (1, .int x2), (2, .ref 37)], []) C (xPN Q) := by
  unfold w_L_saying at h
  refine xG.seg 4 (f' := (4, [(0, .ref 0), (1, .int x2), (2, .ref 37)], [.int x2, .ref 0, .int (nI 0), .ref 37])) (x1 := C) (fun _ => rfl) ?_
  refine xG.callH (d := d + 6) (vs := [.ref 0, .int x2]) (g := (4, [(0, .ref 0), (1, .int x2), (2, .ref 37)], [.int (nI 0), .ref 37])) (fun _ => rfl) rfl rfl (p_F_saying L xs d x2 C _ _ h) ?_
  clear h
  rintro o C1 hq
  rcases hq with ⟨r2, rfl, h⟩ | ⟨ci, rfl, hq1, h⟩
  · refine Or.inl ⟨_, rfl, ?_⟩
    refine xG.eqf (f' := (7, [(0, .ref 0), (1, .int x2), (2, .ref 37)], [.int r2, .int (nI 0), .ref 37])) rfl ?_
    refine xG.seg 1 (f' := (8, [(0, .ref 0), (1, .int x2), (2, .ref 37)], [.long r2.toInt64, .int (nI 0), .ref 37])) (x1 := C1) (fun _ => rfl) ?_
    obtain ⟨c3, h⟩ := h
    refine xG.last (x1 := (cO C1 0 r2.toInt64)) rfl (by decide) (fun _ => rfl) (by decide) c3 (fun _ => rfl) ?_
    refine xG.eqf (f' := (9, [(0, .ref 0), (1, .int x2), (2, .ref 37)], [])) rfl ?_
    refine xG.seg 2 (f' := (16, [(0, .ref 0), (1, .int x2), (2, .ref 37)], [.int (nI 0)])) (x1 := (cO C1 0 r2.toInt64)) (fun _ => rfl) ?_
    exact xG.fin (fun _ => rfl) (⟨_, rfl, h⟩)
  · by_cases k4 : ci = 13
    · replace h := h.1 k4
      subst k4
      refine Or.inr ⟨_, 12, rfl, fun y => xcatch hq1 rfl y, ?_⟩
      refine xG.eqf (f' := (12, [(0, .ref 0), (1, .int x2), (2, .ref 37)], [.ref (C1.2.2.2.2.2.2.1.length + 37)])) rfl ?_
      refine xG.seg 2 (f' := (14, [(3, .ref (C1.2.2.2.2.2.2.1.length + 37)), (0, .ref 0), (1, .int x2), (2, .ref 37)], [.int (nI 1)])) (x1 := C1) (fun _ => rfl) ?_
      exact xG.fin (fun _ => rfl) (⟨_, rfl, h⟩)
    replace h := h.2 k4
    exact h.elim

def w_L_definition (x2 : Int32) (x3 : Int32) (C : xC) (Q : Nat → xC → Prop) : Prop := w_F_definition x2 x3 C (fun r2 C1 => (0 < 1 ∧ Q 0 (cO C1 0 ((nI r2).toInt64)))) (fun ci C1 => ((ci = 13 → Q 1 C1) ∧ (¬ (ci = 13) → False)))
set_option maxRecDepth 8000 in
set_option maxHeartbeats 4000000 in
theorem p_L_definition (L : Nat) (xs : Nat → Int32) (d : Nat) (x2 : Int32) (x3 : Int32) (C : xC) (Q : Nat → xC → Prop) (h : w_L_definition x2 x3 C Q) : xG xec (xgt L xs) (d + 7) xi_L_definition (0, [(0, .ref 0), (1, .int x2), (2, .int x3), (3, .ref 37)], []) C (xPN Q) := by
  unfold w_L_definition at h
  refine xG.seg 5 (f' := (5, [(0, .ref 0), (1, .int x2), (2, .int x3), (3, .ref 37)], [.int x3, .int x2, .ref 0, .int (nI 0), .ref 37])) (x1 := C) (fun _ => rfl) ?_
  refine xG.callH (d := d + 6) (vs := [.ref 0, .int x2, .int x3]) (g := (5, [(0, .ref 0), (1, .int x2), (2, .int x3), (3, .ref 37)], [.int (nI 0), .ref 37])) (fun _ => rfl) rfl rfl (p_F_definition L xs d x2 x3 C _ _ h) ?_
  clear h
  rintro o C1 hq
  rcases hq with ⟨r2, rfl, h⟩ | ⟨ci, rfl, hq1, h⟩
  · refine Or.inl ⟨_, rfl, ?_⟩
    refine xG.eqf (f' := (8, [(0, .ref 0), (1, .int x2), (2, .int x3), (3, .ref 37)], [.int (nI r2), .int (nI 0), .ref 37])) rfl ?_
    refine xG.seg 1 (f' := (9, [(0, .ref 0), (1, .int x2), (2, .int x3), (3, .ref 37)], [.long ((nI r2).toInt64), .int (nI 0), .ref 37])) (x1 := C1) (fun _ => rfl) ?_
    obtain ⟨c3, h⟩ := h
    refine xG.last (x1 := (cO C1 0 ((nI r2).toInt64))) rfl (by decide) (fun _ => rfl) (by decide) c3 (fun _ => rfl) ?_
    refine xG.eqf (f' := (10, [(0, .ref 0), (1, .int x2), (2, .int x3), (3, .ref 37)], [])) rfl ?_
    refine xG.seg 2 (f' := (18, [(0, .ref 0), (1, .int x2), (2, .int x3), (3, .ref 37)], [.int (nI 0)])) (x1 := (cO C1 0 ((nI r2).toInt64))) (fun _ => rfl) ?_
    exact xG.fin (fun _ => rfl) (⟨_, rfl, h⟩)
  · by_cases k4 : ci = 13
    · replace h := h.1 k4
      subst k4
      refine Or.inr ⟨_, 13, rfl, fun y => xcatch hq1 rfl y, ?_⟩
      refine xG.eqf (f' := (13, [(0, .ref 0), (1, .int x2), (2, .int x3), (3, .ref 37)], [.ref (C1.2.2.2.2.2.2.1.length + 37)])) rfl ?_
      refine xG.seg 2 (f' := (16, [(4, .ref (C1.2.2.2.2.2.2.1.length + 37)), (0, .ref 0), (1, .int x2), (2, .int x3), (3, .ref 37)], [.int (nI 1)])) (x1 := C1) (fun _ => rfl) ?_
      exact xG.fin (fun _ => rfl) (⟨_, rfl, h⟩)
    replace h := h.2 k4
    exact h.elim

def w_L_count (x2 : Int32) (C : xC) (Q : Nat → xC → Prop) : Prop := w_F_count x2 C (fun r2 C1 => (0 < 1 ∧ Q 0 (cO C1 0 ((nI r2).toInt64)))) (fun ci C1 => ((ci = 13 → Q 1 C1) ∧ (¬ (ci = 13) → False)))
set_option maxRecDepth 8000 in
set_option maxHeartbeats 4000000 in
theorem p_L_count (L : Nat) (xs : Nat → Int32) (d : Nat) (x2 : Int32) (C : xC) (Q : Nat → xC → Prop) (h : w_L_count x2 C Q) : xG xec (xgt L xs) (d + 7) xi_L_count (0, [(0, .ref 0), (1, .int x2), (2, .ref 37)], []) C (xPN Q) := by
  unfold w_L_count at h
  refine xG.seg 4 (f' := (4, [(0, .ref 0), (1, .int x2), (2, .ref 37)], [.int x2, .ref 0, .int (nI 0), .ref 37])) (x1 := C) (fun _ => rfl) ?_
  refine xG.callH (d := d + 6) (vs := [.ref 0, .int x2]) (g := (4, [(0, .ref 0), (1, .int x2), (2, .ref 37)], [.int (nI 0), .ref 37])) (fun _ => rfl) rfl rfl (p_F_count L xs d x2 C _ _ h) ?_
  clear h
  rintro o C1 hq
  rcases hq with ⟨r2, rfl, h⟩ | ⟨ci, rfl, hq1, h⟩
  · refine Or.inl ⟨_, rfl, ?_⟩
    refine xG.eqf (f' := (7, [(0, .ref 0), (1, .int x2), (2, .ref 37)], [.int (nI r2), .int (nI 0), .ref 37])) rfl ?_
    refine xG.seg 1 (f' := (8, [(0, .ref 0), (1, .int x2), (2, .ref 37)], [.long ((nI r2).toInt64), .int (nI 0), .ref 37])) (x1 := C1) (fun _ => rfl) ?_
    obtain ⟨c3, h⟩ := h
    refine xG.last (x1 := (cO C1 0 ((nI r2).toInt64))) rfl (by decide) (fun _ => rfl) (by decide) c3 (fun _ => rfl) ?_
    refine xG.eqf (f' := (9, [(0, .ref 0), (1, .int x2), (2, .ref 37)], [])) rfl ?_
    refine xG.seg 2 (f' := (16, [(0, .ref 0), (1, .int x2), (2, .ref 37)], [.int (nI 0)])) (x1 := (cO C1 0 ((nI r2).toInt64))) (fun _ => rfl) ?_
    exact xG.fin (fun _ => rfl) (⟨_, rfl, h⟩)
  · by_cases k4 : ci = 13
    · replace h := h.1 k4
      subst k4
      refine Or.inr ⟨_, 12, rfl, fun y => xcatch hq1 rfl y, ?_⟩
      refine xG.eqf (f' := (12, [(0, .ref 0), (1, .int x2), (2, .ref 37)], [.ref (C1.2.2.2.2.2.2.1.length + 37)])) rfl ?_
      refine xG.seg 2 (f' := (14, [(3, .ref (C1.2.2.2.2.2.2.1.length + 37)), (0, .ref 0), (1, .int x2), (2, .ref 37)], [.int (nI 1)])) (x1 := C1) (fun _ => rfl) ?_
      exact xG.fin (fun _ => rfl) (⟨_, rfl, h⟩)
    replace h := h.2 k4
    exact h.elim

def wi_L_law_23 (L : Nat) (xs : Nat → Int32) (K : Nat → (xC × xM) → Prop) (l4 : Nat) (s : xC × xM) (Q : Nat → (xC × xM) → Prop) : Prop := (l4 < 2147483648 ∧ (L < 2147483648 ∧ ((L < l4 + 4 → Q 1 (s.1, s.2)) ∧ (¬ (L < l4 + 4) → (l4 < L ∧ (((xs l4) &&& (nI 15) < 0 → K (l4 + 4) (s.1, s.2)) ∧ (∀ e2005 : Nat, (xs l4) &&& (nI 15) = nI e2005 → e2005 < 2147483648 → (e2005 < 2147483648 ∧ ((e2005 = 0 → (l4 + 1 < L ∧ (l4 + 2 < L ∧ (l4 + 3 < L ∧ w_L_write ((((xs (l4 + 1)).toInt64) <<< ((nI 32).toInt64 &&& 63)) ||| (((xs (l4 + 2)).toInt64) &&& ((4294967295)))) (xs (l4 + 3)) s.1 (fun r2014 C2015 => (l4 + 1 < L ∧ (l4 + 2 < L ∧ (l4 + 3 < L ∧ w_R_write ((((xs (l4 + 1)).toInt64) <<< ((nI 32).toInt64 &&& 63)) ||| (((xs (l4 + 2)).toInt64) &&& ((4294967295)))) (xs (l4 + 3)) s.2 (fun r2022 M2024 => w_R_thrown M2024 (fun r2027 M2029 => (r2027 < 2147483648 ∧ (r2014 < 2147483648 ∧ ((r2027 = r2014 → (r2014 < 2147483648 ∧ ((r2014 = 0 → (0 < 1 ∧ (((C2015.2.2.2.2.2.1 0) = ((nI r2022).toInt64) → K (l4 + 4) (C2015, M2029)) ∧ (¬ ((C2015.2.2.2.2.2.1 0) = ((nI r2022).toInt64)) → Q 0 (C2015, M2029))))) ∧ (¬ (r2014 = 0) → K (l4 + 4) (C2015, M2029))))) ∧ (¬ (r2027 = r2014) → Q 0 (C2015, M2029))))))))))))))) ∧ (¬ e2005 = 0 → ((e2005 = 1 → w_L_interpret s.1 (fun r2040 C2041 => w_R_interpret s.2 (fun r2045 M2047 => w_R_thrown M2047 (fun r2050 M2052 => (r2050 < 2147483648 ∧ (r2040 < 2147483648 ∧ ((r2050 = r2040 → (r2040 < 2147483648 ∧ ((r2040 = 0 → (0 < 1 ∧ (((C2041.2.2.2.2.2.1 0) = ((nI r2045).toInt64) → K (l4 + 4) (C2041, M2052)) ∧ (¬ ((C2041.2.2.2.2.2.1 0) = ((nI r2045).toInt64)) → Q 0 (C2041, M2052))))) ∧ (¬ (r2040 = 0) → K (l4 + 4) (C2041, M2052))))) ∧ (¬ (r2050 = r2040) → Q 0 (C2041, M2052))))))))) ∧ (¬ e2005 = 1 → ((e2005 = 2 → w_F_compiling s.1 (fun r2063 C2064 => w_R_compiling s.2 (fun r2068 M2070 => (r2063 < 2147483648 ∧ (r2068 < 2147483648 ∧ ((r2063 = r2068 → K (l4 + 4) (C2064, M2070)) ∧ (¬ (r2063 = r2068) → Q 0 (C2064, M2070)))))))) ∧ (¬ e2005 = 2 → ((e2005 = 3 → w_F_depth s.1 (fun r2077 C2078 => w_R_depth s.2 (fun r2082 M2084 => (r2077 < 2147483648 ∧ (r2082 < 2147483648 ∧ ((r2077 = r2082 → K (l4 + 4) (C2078, M2084)) ∧ (¬ (r2077 = r2082) → Q 0 (C2078, M2084)))))))) ∧ (¬ e2005 = 3 → ((e2005 = 4 → (l4 + 1 < L ∧ w_L_top (xs (l4 + 1)) s.1 (fun r2092 C2093 => (l4 + 1 < L ∧ w_R_top (xs (l4 + 1)) s.2 (fun r2098 M2100 => w_R_thrown M2100 (fun r2103 M2105 => (r2103 < 2147483648 ∧ (r2092 < 2147483648 ∧ ((r2103 = r2092 → (r2092 < 2147483648 ∧ ((r2092 = 0 → (0 < 1 ∧ (((C2093.2.2.2.2.2.1 0) = r2098.toInt64 → K (l4 + 4) (C2093, M2105)) ∧ (¬ ((C2093.2.2.2.2.2.1 0) = r2098.toInt64) → Q 0 (C2093, M2105))))) ∧ (¬ (r2092 = 0) → K (l4 + 4) (C2093, M2105))))) ∧ (¬ (r2103 = r2092) → Q 0 (C2093, M2105))))))))))) ∧ (¬ e2005 = 4 → ((e2005 = 5 → (l4 + 1 < L ∧ w_L_cell (xs (l4 + 1)) s.1 (fun r2117 C2118 => (l4 + 1 < L ∧ w_R_cell (xs (l4 + 1)) s.2 (fun r2123 M2125 => w_R_thrown M2125 (fun r2128 M2130 => (r2128 < 2147483648 ∧ (r2117 < 2147483648 ∧ ((r2128 = r2117 → (r2117 < 2147483648 ∧ ((r2117 = 0 → (0 < 1 ∧ (((C2118.2.2.2.2.2.1 0) = r2123.toInt64 → K (l4 + 4) (C2118, M2130)) ∧ (¬ ((C2118.2.2.2.2.2.1 0) = r2123.toInt64) → Q 0 (C2118, M2130))))) ∧ (¬ (r2117 = 0) → K (l4 + 4) (C2118, M2130))))) ∧ (¬ (r2128 = r2117) → Q 0 (C2118, M2130))))))))))) ∧ (¬ e2005 = 5 → ((e2005 = 6 → w_F_said s.1 (fun r2141 C2142 => w_R_said s.2 (fun r2146 M2148 => (r2141 < 2147483648 ∧ (r2146 < 2147483648 ∧ ((r2141 = r2146 → K (l4 + 4) (C2142, M2148)) ∧ (¬ (r2141 = r2146) → Q 0 (C2142, M2148)))))))) ∧ (¬ e2005 = 6 → ((e2005 = 7 → (l4 + 1 < L ∧ w_L_saying (xs (l4 + 1)) s.1 (fun r2156 C2157 => (l4 + 1 < L ∧ w_R_saying (xs (l4 + 1)) s.2 (fun r2162 M2164 => w_R_thrown M2164 (fun r2167 M2169 => (r2167 < 2147483648 ∧ (r2156 < 2147483648 ∧ ((r2167 = r2156 → (r2156 < 2147483648 ∧ ((r2156 = 0 → (0 < 1 ∧ (((C2157.2.2.2.2.2.1 0) = r2162.toInt64 → K (l4 + 4) (C2157, M2169)) ∧ (¬ ((C2157.2.2.2.2.2.1 0) = r2162.toInt64) → Q 0 (C2157, M2169))))) ∧ (¬ (r2156 = 0) → K (l4 + 4) (C2157, M2169))))) ∧ (¬ (r2167 = r2156) → Q 0 (C2157, M2169))))))))))) ∧ (¬ e2005 = 7 → ((e2005 = 8 → (l4 + 1 < L ∧ (l4 + 2 < L ∧ w_L_definition (xs (l4 + 1)) (xs (l4 + 2)) s.1 (fun r2182 C2183 => (l4 + 1 < L ∧ (l4 + 2 < L ∧ w_R_definition (xs (l4 + 1)) (xs (l4 + 2)) s.2 (fun r2189 M2191 => w_R_thrown M2191 (fun r2194 M2196 => (r2194 < 2147483648 ∧ (r2182 < 2147483648 ∧ ((r2194 = r2182 → (r2182 < 2147483648 ∧ ((r2182 = 0 → (0 < 1 ∧ (((C2183.2.2.2.2.2.1 0) = ((nI r2189).toInt64) → K (l4 + 4) (C2183, M2196)) ∧ (¬ ((C2183.2.2.2.2.2.1 0) = ((nI r2189).toInt64)) → Q 0 (C2183, M2196))))) ∧ (¬ (r2182 = 0) → K (l4 + 4) (C2183, M2196))))) ∧ (¬ (r2194 = r2182) → Q 0 (C2183, M2196))))))))))))) ∧ (¬ e2005 = 8 → ((e2005 = 9 → (l4 + 1 < L ∧ w_L_count (xs (l4 + 1)) s.1 (fun r2208 C2209 => (l4 + 1 < L ∧ w_R_count (xs (l4 + 1)) s.2 (fun r2214 M2216 => w_R_thrown M2216 (fun r2219 M2221 => (r2219 < 2147483648 ∧ (r2208 < 2147483648 ∧ ((r2219 = r2208 → (r2208 < 2147483648 ∧ ((r2208 = 0 → (0 < 1 ∧ (((C2209.2.2.2.2.2.1 0) = ((nI r2214).toInt64) → K (l4 + 4) (C2209, M2221)) ∧ (¬ ((C2209.2.2.2.2.2.1 0) = ((nI r2214).toInt64)) → Q 0 (C2209, M2221))))) ∧ (¬ (r2208 = 0) → K (l4 + 4) (C2209, M2221))))) ∧ (¬ (r2219 = r2208) → Q 0 (C2209, M2221))))))))))) ∧ (¬ e2005 = 9 → K (l4 + 4) (s.1, s.2)))))))))))))))))))))))))))))
set_option maxRecDepth 8000 in
set_option maxHeartbeats 4000000 in
theorem pi_L_law_23 (L : Nat) (xs : Nat → Int32) (hL : L ≤ 2147483648) (d : Nat) (Q : Nat → (xC × xM) → Prop) (K : Nat → (xC × xM) → Prop) (hK : ∀ (l4 : Nat) (s : xC × xM), K l4 s → xG xel (xgt L xs) (d + 13) xi_L_law (23, [(0, .ref 1048640), (1, .ref 0), (2, .ref 22), (3, .ref 37), (4, .int (nI l4))], []) s (xPN Q)) (l4 : Nat) (s : xC × xM) (h : wi_L_law_23 L xs K l4 s Q) : xG xel (xgt L xs) (d + 13) xi_L_law (23, [(0, .ref 1048640), (1, .ref 0), (2, .ref 22), (3, .ref 37), (4, .int (nI l4))], []) s (xPN Q) := by
  unfold wi_L_law_23 at h
  refine xG.seg 2 (f' := (26, [(0, .ref 1048640), (1, .ref 0), (2, .ref 22), (3, .ref 37), (4, .int (nI l4))], [.ref 1048640, .int (nI l4)])) (x1 := (s.1, s.2)) (fun _ => rfl) ?_
  refine xG.seg 3 (f' := (29, [(0, .ref 1048640), (1, .ref 0), (2, .ref 22), (3, .ref 37), (4, .int (nI l4))], [.int (nI L - nI 4), .int (nI l4)])) (x1 := (s.1, s.2)) (fun _ => rfl) ?_
  obtain ⟨c2001, h⟩ := h
  obtain ⟨c2002, h⟩ := h
  refine xG.icmp (t := 573) (A := L < l4 + 4) rfl rfl (xe_c (xt_N c2001) (xt_Z c2002 (by decide)) (by dsimp only; omega)) (fun k2003 => ?_) (fun k2003 => ?_)
  · replace h := h.1 k2003
    refine xG.seg 1 (f' := (574, [(0, .ref 1048640), (1, .ref 0), (2, .ref 22), (3, .ref 37), (4, .int (nI l4))], [.int (nI 1)])) (x1 := (s.1, s.2)) (fun _ => rfl) ?_
    exact xG.fin (fun _ => rfl) (⟨_, rfl, h⟩)
  · replace h := h.2 k2003
    refine xG.seg 2 (f' := (35, [(0, .ref 1048640), (1, .ref 0), (2, .ref 22), (3, .ref 37), (4, .int (nI l4))], [.int (nI l4), .ref 1048640])) (x1 := (s.1, s.2)) (fun _ => rfl) ?_
    obtain ⟨c2004, h⟩ := h
    refine xG.cald rfl (Or.inl ⟨rfl, rfl⟩) (by decide) rfl hL c2004 ?_
    refine xG.eqf (f' := (36, [(0, .ref 1048640), (1, .ref 0), (2, .ref 22), (3, .ref 37), (4, .int (nI l4))], [.int (xs l4)])) rfl ?_
    refine xG.seg 2 (f' := (39, [(0, .ref 1048640), (1, .ref 0), (2, .ref 22), (3, .ref 37), (4, .int (nI l4))], [.int ((xs l4) &&& (nI 15))])) (x1 := (s.1, s.2)) (fun _ => rfl) ?_
    rcases xe_sgn ((xs l4) &&& (nI 15)) with k2006 | ⟨e2005, k2006, k2006r⟩
    · replace h := h.1 k2006
      refine xG.tswn (t := 567) rfl k2006 rfl (by decide) ?_
      refine xG.iinc (v := (nI l4)) (w := (nI (l4 + 4))) rfl rfl (by decide) (xe_add l4 4) ?_
      refine xG.eqf (f' := (570, [(4, .int (nI (l4 + 4))), (0, .ref 1048640), (1, .ref 0), (2, .ref 22), (3, .ref 37)], [])) rfl ?_
      refine xG.seg 1 (f' := (23, [(4, .int (nI (l4 + 4))), (0, .ref 1048640), (1, .ref 0), (2, .ref 22), (3, .ref 37)], [])) (x1 := (s.1, s.2)) (fun _ => rfl) ?_
      refine xG.lv (lv := [(0, .ref 1048640), (1, .ref 0), (2, .ref 22), (3, .ref 37), (4, .int (nI (l4 + 4)))]) (lv' := [(4, .int (nI (l4 + 4))), (0, .ref 1048640), (1, .ref 0), (2, .ref 22), (3, .ref 37)]) rfl rfl rfl ?_
      exact hK (l4 + 4) (s.1, s.2) h
    · replace h := h.2 e2005 k2006 k2006r
      refine xG.eqf (f' := (39, [(0, .ref 1048640), (1, .ref 0), (2, .ref 22), (3, .ref 37), (4, .int (nI l4))], [.int (nI e2005)])) (by rw [k2006]) ?_
      obtain ⟨c2007, h⟩ := h
      by_cases k2008 : e2005 = 0
      · replace h := h.1 k2008
        refine xG.tsw (t := 92) rfl c2007 (by rw [k2008]; rfl) ?_
        refine xG.seg 5 (f' := (98, [(0, .ref 1048640), (1, .ref 0), (2, .ref 22), (3, .ref 37), (4, .int (nI l4))], [.int ((nI l4) + (nI 1)), .ref 1048640, .ref 0])) (x1 := (s.1, s.2)) (fun _ => rfl) ?_
        refine xG.conv (xe_add l4 1) ?_
        refine xG.eqf (f' := (98, [(0, .ref 1048640), (1, .ref 0), (2, .ref 22), (3, .ref 37), (4, .int (nI l4))], [.int (nI (l4 + 1)), .ref 1048640, .ref 0])) rfl ?_
        obtain ⟨c2009, h⟩ := h
        refine xG.cald rfl (Or.inl ⟨rfl, rfl⟩) (by decide) rfl hL c2009 ?_
        refine xG.eqf (f' := (99, [(0, .ref 1048640), (1, .ref 0), (2, .ref 22), (3, .ref 37), (4, .int (nI l4))], [.int (xs (l4 + 1)), .ref 0])) rfl ?_
        refine xG.seg 7 (f' := (108, [(0, .ref 1048640), (1, .ref 0), (2, .ref 22), (3, .ref 37), (4, .int (nI l4))], [.int ((nI l4) + (nI 2)), .ref 1048640, .long (((xs (l4 + 1)).toInt64) <<< ((nI 32).toInt64 &&& 63)), .ref 0])) (x1 := (s.1, s.2)) (fun _ => rfl) ?_
        refine xG.conv (xe_add l4 2) ?_
        refine xG.eqf (f' := (108, [(0, .ref 1048640), (1, .ref 0), (2, .ref 22), (3, .ref 37), (4, .int (nI l4))], [.int (nI (l4 + 2)), .ref 1048640, .long (((xs (l4 + 1)).toInt64) <<< ((nI 32).toInt64 &&& 63)), .ref 0])) rfl ?_
        obtain ⟨c2010, h⟩ := h
        refine xG.cald rfl (Or.inl ⟨rfl, rfl⟩) (by decide) rfl hL c2010 ?_
        refine xG.eqf (f' := (109, [(0, .ref 1048640), (1, .ref 0), (2, .ref 22), (3, .ref 37), (4, .int (nI l4))], [.int (xs (l4 + 2)), .long (((xs (l4 + 1)).toInt64) <<< ((nI 32).toInt64 &&& 63)), .ref 0])) rfl ?_
        refine xG.seg 8 (f' := (120, [(0, .ref 1048640), (1, .ref 0), (2, .ref 22), (3, .ref 37), (4, .int (nI l4))], [.int ((nI l4) + (nI 3)), .ref 1048640, .long ((((xs (l4 + 1)).toInt64) <<< ((nI 32).toInt64 &&& 63)) ||| (((xs (l4 + 2)).toInt64) &&& ((4294967295)))), .ref 0])) (x1 := (s.1, s.2)) (fun _ => rfl) ?_
        refine xG.conv (xe_add l4 3) ?_
        refine xG.eqf (f' := (120, [(0, .ref 1048640), (1, .ref 0), (2, .ref 22), (3, .ref 37), (4, .int (nI l4))], [.int (nI (l4 + 3)), .ref 1048640, .long ((((xs (l4 + 1)).toInt64) <<< ((nI 32).toInt64 &&& 63)) ||| (((xs (l4 + 2)).toInt64) &&& ((4294967295)))), .ref 0])) rfl ?_
        obtain ⟨c2011, h⟩ := h
        refine xG.cald rfl (Or.inl ⟨rfl, rfl⟩) (by decide) rfl hL c2011 ?_
        refine xG.eqf (f' := (121, [(0, .ref 1048640), (1, .ref 0), (2, .ref 22), (3, .ref 37), (4, .int (nI l4))], [.int (xs (l4 + 3)), .long ((((xs (l4 + 1)).toInt64) <<< ((nI 32).toInt64 &&& 63)) ||| (((xs (l4 + 2)).toInt64) &&& ((4294967295)))), .ref 0])) rfl ?_
        refine xG.seg 1 (f' := (122, [(0, .ref 1048640), (1, .ref 0), (2, .ref 22), (3, .ref 37), (4, .int (nI l4))], [.ref 37, .int (xs (l4 + 3)), .long ((((xs (l4 + 1)).toInt64) <<< ((nI 32).toInt64 &&& 63)) ||| (((xs (l4 + 2)).toInt64) &&& ((4294967295)))), .ref 0])) (x1 := (s.1, s.2)) (fun _ => rfl) ?_
        refine xG.call (d := d + 12) (vs := [.ref 0, .long ((((xs (l4 + 1)).toInt64) <<< ((nI 32).toInt64 &&& 63)) ||| (((xs (l4 + 2)).toInt64) &&& ((4294967295)))), .int (xs (l4 + 3)), .ref 37]) (g := (122, [(0, .ref 1048640), (1, .ref 0), (2, .ref 22), (3, .ref 37), (4, .int (nI l4))], [])) (fun _ => rfl) rfl (xG.liftC s.2 (p_L_write L xs (d + 5) ((((xs (l4 + 1)).toInt64) <<< ((nI 32).toInt64 &&& 63)) ||| (((xs (l4 + 2)).toInt64) &&& ((4294967295)))) (xs (l4 + 3)) s.1 _ h)) ?_
        clear h
        rintro _ ⟨C2015, M2016⟩ ⟨⟨r2014, rfl, h⟩, hz⟩
        have hz : s.2 = M2016 := hz.symm
        subst hz
        refine ⟨_, rfl, ?_⟩
        refine xG.eqf (f' := (125, [(0, .ref 1048640), (1, .ref 0), (2, .ref 22), (3, .ref 37), (4, .int (nI l4))], [.int (nI r2014)])) rfl ?_
        refine xG.seg 6 (f' := (133, [(5, .int (nI r2014)), (0, .ref 1048640), (1, .ref 0), (2, .ref 22), (3, .ref 37), (4, .int (nI l4))], [.int ((nI l4) + (nI 1)), .ref 1048640, .ref 22])) (x1 := (C2015, s.2)) (fun _ => rfl) ?_
        refine xG.conv (xe_add l4 1) ?_
        refine xG.eqf (f' := (133, [(5, .int (nI r2014)), (0, .ref 1048640), (1, .ref 0), (2, .ref 22), (3, .ref 37), (4, .int (nI l4))], [.int (nI (l4 + 1)), .ref 1048640, .ref 22])) rfl ?_
        obtain ⟨c2017, h⟩ := h
        refine xG.cald rfl (Or.inl ⟨rfl, rfl⟩) (by decide) rfl hL c2017 ?_
        refine xG.eqf (f' := (134, [(5, .int (nI r2014)), (0, .ref 1048640), (1, .ref 0), (2, .ref 22), (3, .ref 37), (4, .int (nI l4))], [.int (xs (l4 + 1)), .ref 22])) rfl ?_
        refine xG.seg 7 (f' := (143, [(5, .int (nI r2014)), (0, .ref 1048640), (1, .ref 0), (2, .ref 22), (3, .ref 37), (4, .int (nI l4))], [.int ((nI l4) + (nI 2)), .ref 1048640, .long (((xs (l4 + 1)).toInt64) <<< ((nI 32).toInt64 &&& 63)), .ref 22])) (x1 := (C2015, s.2)) (fun _ => rfl) ?_
        refine xG.conv (xe_add l4 2) ?_
        refine xG.eqf (f' := (143, [(5, .int (nI r2014)), (0, .ref 1048640), (1, .ref 0), (2, .ref 22), (3, .ref 37), (4, .int (nI l4))], [.int (nI (l4 + 2)), .ref 1048640, .long (((xs (l4 + 1)).toInt64) <<< ((nI 32).toInt64 &&& 63)), .ref 22])) rfl ?_
        obtain ⟨c2018, h⟩ := h
        refine xG.cald rfl (Or.inl ⟨rfl, rfl⟩) (by decide) rfl hL c2018 ?_
        refine xG.eqf (f' := (144, [(5, .int (nI r2014)), (0, .ref 1048640), (1, .ref 0), (2, .ref 22), (3, .ref 37), (4, .int (nI l4))], [.int (xs (l4 + 2)), .long (((xs (l4 + 1)).toInt64) <<< ((nI 32).toInt64 &&& 63)), .ref 22])) rfl ?_
        refine xG.seg 8 (f' := (155, [(5, .int (nI r2014)), (0, .ref 1048640), (1, .ref 0), (2, .ref 22), (3, .ref 37), (4, .int (nI l4))], [.int ((nI l4) + (nI 3)), .ref 1048640, .long ((((xs (l4 + 1)).toInt64) <<< ((nI 32).toInt64 &&& 63)) ||| (((xs (l4 + 2)).toInt64) &&& ((4294967295)))), .ref 22])) (x1 := (C2015, s.2)) (fun _ => rfl) ?_
        refine xG.conv (xe_add l4 3) ?_
        refine xG.eqf (f' := (155, [(5, .int (nI r2014)), (0, .ref 1048640), (1, .ref 0), (2, .ref 22), (3, .ref 37), (4, .int (nI l4))], [.int (nI (l4 + 3)), .ref 1048640, .long ((((xs (l4 + 1)).toInt64) <<< ((nI 32).toInt64 &&& 63)) ||| (((xs (l4 + 2)).toInt64) &&& ((4294967295)))), .ref 22])) rfl ?_
        obtain ⟨c2019, h⟩ := h
        refine xG.cald rfl (Or.inl ⟨rfl, rfl⟩) (by decide) rfl hL c2019 ?_
        refine xG.eqf (f' := (156, [(5, .int (nI r2014)), (0, .ref 1048640), (1, .ref 0), (2, .ref 22), (3, .ref 37), (4, .int (nI l4))], [.int (xs (l4 + 3)), .long ((((xs (l4 + 1)).toInt64) <<< ((nI 32).toInt64 &&& 63)) ||| (((xs (l4 + 2)).toInt64) &&& ((4294967295)))), .ref 22])) rfl ?_
        refine xG.call (d := d + 12) (vs := [.ref 22, .long ((((xs (l4 + 1)).toInt64) <<< ((nI 32).toInt64 &&& 63)) ||| (((xs (l4 + 2)).toInt64) &&& ((4294967295)))), .int (xs (l4 + 3))]) (g := (156, [(5, .int (nI r2014)), (0, .ref 1048640), (1, .ref 0), (2, .ref 22), (3, .ref 37), (4, .int (nI l4))], [])) (fun _ => rfl) rfl (xG.liftM C2015 (p_R_write L xs (d + 11) ((((xs (l4 + 1)).toInt64) <<< ((nI 32).toInt64 &&& 63)) ||| (((xs (l4 + 2)).toInt64) &&& ((4294967295)))) (xs (l4 + 3)) s.2 _ h)) ?_
        clear h
        rintro _ ⟨C2023, M2024⟩ ⟨⟨r2022, rfl, h⟩, hz⟩
        have hz : C2015 = C2023 := hz.symm
        subst hz
        refine ⟨_, rfl, ?_⟩
        refine xG.eqf (f' := (159, [(5, .int (nI r2014)), (0, .ref 1048640), (1, .ref 0), (2, .ref 22), (3, .ref 37), (4, .int (nI l4))], [.int (nI r2022)])) rfl ?_
        refine xG.seg 2 (f' := (162, [(6, .int (nI r2022)), (5, .int (nI r2014)), (0, .ref 1048640), (1, .ref 0), (2, .ref 22), (3, .ref 37), (4, .int (nI l4))], [.ref 22])) (x1 := (C2015, M2024)) (fun _ => rfl) ?_
        refine xG.call (d := d + 12) (vs := [.ref 22]) (g := (162, [(6, .int (nI r2022)), (5, .int (nI r2014)), (0, .ref 1048640), (1, .ref 0), (2, .ref 22), (3, .ref 37), (4, .int (nI l4))], [])) (fun _ => rfl) rfl (xG.liftM C2015 (p_R_thrown L xs (d + 12) M2024 _ h)) ?_
        clear h
        rintro _ ⟨C2028, M2029⟩ ⟨⟨r2027, rfl, h⟩, hz⟩
        have hz : C2015 = C2028 := hz.symm
        subst hz
        refine ⟨_, rfl, ?_⟩
        refine xG.eqf (f' := (165, [(6, .int (nI r2022)), (5, .int (nI r2014)), (0, .ref 1048640), (1, .ref 0), (2, .ref 22), (3, .ref 37), (4, .int (nI l4))], [.int (nI r2027)])) rfl ?_
        refine xG.seg 1 (f' := (167, [(6, .int (nI r2022)), (5, .int (nI r2014)), (0, .ref 1048640), (1, .ref 0), (2, .ref 22), (3, .ref 37), (4, .int (nI l4))], [.int (nI r2014), .int (nI r2027)])) (x1 := (C2015, M2029)) (fun _ => rfl) ?_
        obtain ⟨c2030, h⟩ := h
        obtain ⟨c2031, h⟩ := h
        refine xG.icmp (t := 172) (A := r2027 = r2014) rfl rfl (xe_c (xt_N c2030) (xt_N c2031) (by dsimp only; omega)) (fun k2032 => ?_) (fun k2032 => ?_)
        · replace h := h.1 k2032
          refine xG.seg 1 (f' := (174, [(6, .int (nI r2022)), (5, .int (nI r2014)), (0, .ref 1048640), (1, .ref 0), (2, .ref 22), (3, .ref 37), (4, .int (nI l4))], [.int (nI r2014)])) (x1 := (C2015, M2029)) (fun _ => rfl) ?_
          obtain ⟨c2033, h⟩ := h
          refine xG.ifc (t := 189) (A := ¬ (r2014 = 0)) rfl rfl (xe_c (xt_N c2033) (show (0 : Int32).toInt = 0 from by decide) (by dsimp only; omega)) (fun k2034 => ?_) (fun k2034 => ?_)
          · replace h := h.2 k2034
            refine xG.seg 1 (f' := (567, [(6, .int (nI r2022)), (5, .int (nI r2014)), (0, .ref 1048640), (1, .ref 0), (2, .ref 22), (3, .ref 37), (4, .int (nI l4))], [])) (x1 := (C2015, M2029)) (fun _ => rfl) ?_
            refine xG.iinc (v := (nI l4)) (w := (nI (l4 + 4))) rfl rfl (by decide) (xe_add l4 4) ?_
            refine xG.eqf (f' := (570, [(4, .int (nI (l4 + 4))), (6, .int (nI r2022)), (5, .int (nI r2014)), (0, .ref 1048640), (1, .ref 0), (2, .ref 22), (3, .ref 37)], [])) rfl ?_
            refine xG.seg 1 (f' := (23, [(4, .int (nI (l4 + 4))), (6, .int (nI r2022)), (5, .int (nI r2014)), (0, .ref 1048640), (1, .ref 0), (2, .ref 22), (3, .ref 37)], [])) (x1 := (C2015, M2029)) (fun _ => rfl) ?_
            refine xG.lv (lv := [(0, .ref 1048640), (1, .ref 0), (2, .ref 22), (3, .ref 37), (4, .int (nI (l4 + 4)))]) (lv' := [(4, .int (nI (l4 + 4))), (6, .int (nI r2022)), (5, .int (nI r2014)), (0, .ref 1048640), (1, .ref 0), (2, .ref 22), (3, .ref 37)]) rfl rfl rfl ?_
            exact hK (l4 + 4) (C2015, M2029) h
          · replace h := h.1 (Classical.not_not.mp k2034)
            refine xG.seg 2 (f' := (179, [(6, .int (nI r2022)), (5, .int (nI r2014)), (0, .ref 1048640), (1, .ref 0), (2, .ref 22), (3, .ref 37), (4, .int (nI l4))], [.int (nI 0), .ref 37])) (x1 := (C2015, M2029)) (fun _ => rfl) ?_
            obtain ⟨c2035, h⟩ := h
            refine xG.lald rfl (by decide) (fun _ => rfl) (by decide) c2035 ?_
            refine xG.eqf (f' := (180, [(6, .int (nI r2022)), (5, .int (nI r2014)), (0, .ref 1048640), (1, .ref 0), (2, .ref 22), (3, .ref 37), (4, .int (nI l4))], [.long (C2015.2.2.2.2.2.1 0)])) rfl ?_
            refine xG.seg 3 (f' := (184, [(6, .int (nI r2022)), (5, .int (nI r2014)), (0, .ref 1048640), (1, .ref 0), (2, .ref 22), (3, .ref 37), (4, .int (nI l4))], [.int (lg_cmp (C2015.2.2.2.2.2.1 0) ((nI r2022).toInt64))])) (x1 := (C2015, M2029)) (fun _ => rfl) ?_
            refine xG.ifc (t := 189) (A := (C2015.2.2.2.2.2.1 0) = ((nI r2022).toInt64)) rfl rfl (xe_lce _ _) (fun k2036 => ?_) (fun k2036 => ?_)
            · replace h := h.1 k2036
              refine xG.seg 1 (f' := (567, [(6, .int (nI r2022)), (5, .int (nI r2014)), (0, .ref 1048640), (1, .ref 0), (2, .ref 22), (3, .ref 37), (4, .int (nI l4))], [])) (x1 := (C2015, M2029)) (fun _ => rfl) ?_
              refine xG.iinc (v := (nI l4)) (w := (nI (l4 + 4))) rfl rfl (by decide) (xe_add l4 4) ?_
              refine xG.eqf (f' := (570, [(4, .int (nI (l4 + 4))), (6, .int (nI r2022)), (5, .int (nI r2014)), (0, .ref 1048640), (1, .ref 0), (2, .ref 22), (3, .ref 37)], [])) rfl ?_
              refine xG.seg 1 (f' := (23, [(4, .int (nI (l4 + 4))), (6, .int (nI r2022)), (5, .int (nI r2014)), (0, .ref 1048640), (1, .ref 0), (2, .ref 22), (3, .ref 37)], [])) (x1 := (C2015, M2029)) (fun _ => rfl) ?_
              refine xG.lv (lv := [(0, .ref 1048640), (1, .ref 0), (2, .ref 22), (3, .ref 37), (4, .int (nI (l4 + 4)))]) (lv' := [(4, .int (nI (l4 + 4))), (6, .int (nI r2022)), (5, .int (nI r2014)), (0, .ref 1048640), (1, .ref 0), (2, .ref 22), (3, .ref 37)]) rfl rfl rfl ?_
              exact hK (l4 + 4) (C2015, M2029) h
            · replace h := h.2 k2036
              refine xG.seg 1 (f' := (188, [(6, .int (nI r2022)), (5, .int (nI r2014)), (0, .ref 1048640), (1, .ref 0), (2, .ref 22), (3, .ref 37), (4, .int (nI l4))], [.int (nI 0)])) (x1 := (C2015, M2029)) (fun _ => rfl) ?_
              exact xG.fin (fun _ => rfl) (⟨_, rfl, h⟩)
        · replace h := h.2 k2032
          refine xG.seg 1 (f' := (171, [(6, .int (nI r2022)), (5, .int (nI r2014)), (0, .ref 1048640), (1, .ref 0), (2, .ref 22), (3, .ref 37), (4, .int (nI l4))], [.int (nI 0)])) (x1 := (C2015, M2029)) (fun _ => rfl) ?_
          exact xG.fin (fun _ => rfl) (⟨_, rfl, h⟩)
      replace h := h.2 k2008
      by_cases k2037 : e2005 = 1
      · replace h := h.1 k2037
        refine xG.tsw (t := 192) rfl c2007 (by rw [k2037]; rfl) ?_
        refine xG.seg 2 (f' := (194, [(0, .ref 1048640), (1, .ref 0), (2, .ref 22), (3, .ref 37), (4, .int (nI l4))], [.ref 37, .ref 0])) (x1 := (s.1, s.2)) (fun _ => rfl) ?_
        refine xG.call (d := d + 12) (vs := [.ref 0, .ref 37]) (g := (194, [(0, .ref 1048640), (1, .ref 0), (2, .ref 22), (3, .ref 37), (4, .int (nI l4))], [])) (fun _ => rfl) rfl (xG.liftC s.2 (p_L_interpret L xs d s.1 _ h)) ?_
        clear h
        rintro _ ⟨C2041, M2042⟩ ⟨⟨r2040, rfl, h⟩, hz⟩
        have hz : s.2 = M2042 := hz.symm
        subst hz
        refine ⟨_, rfl, ?_⟩
        refine xG.eqf (f' := (197, [(0, .ref 1048640), (1, .ref 0), (2, .ref 22), (3, .ref 37), (4, .int (nI l4))], [.int (nI r2040)])) rfl ?_
        refine xG.seg 2 (f' := (200, [(5, .int (nI r2040)), (0, .ref 1048640), (1, .ref 0), (2, .ref 22), (3, .ref 37), (4, .int (nI l4))], [.ref 22])) (x1 := (C2041, s.2)) (fun _ => rfl) ?_
        refine xG.call (d := d + 12) (vs := [.ref 22]) (g := (200, [(5, .int (nI r2040)), (0, .ref 1048640), (1, .ref 0), (2, .ref 22), (3, .ref 37), (4, .int (nI l4))], [])) (fun _ => rfl) rfl (xG.liftM C2041 (p_R_interpret L xs (d + 5) s.2 _ h)) ?_
        clear h
        rintro _ ⟨C2046, M2047⟩ ⟨⟨r2045, rfl, h⟩, hz⟩
        have hz : C2041 = C2046 := hz.symm
        subst hz
        refine ⟨_, rfl, ?_⟩
        refine xG.eqf (f' := (203, [(5, .int (nI r2040)), (0, .ref 1048640), (1, .ref 0), (2, .ref 22), (3, .ref 37), (4, .int (nI l4))], [.int (nI r2045)])) rfl ?_
        refine xG.seg 2 (f' := (206, [(6, .int (nI r2045)), (5, .int (nI r2040)), (0, .ref 1048640), (1, .ref 0), (2, .ref 22), (3, .ref 37), (4, .int (nI l4))], [.ref 22])) (x1 := (C2041, M2047)) (fun _ => rfl) ?_
        refine xG.call (d := d + 12) (vs := [.ref 22]) (g := (206, [(6, .int (nI r2045)), (5, .int (nI r2040)), (0, .ref 1048640), (1, .ref 0), (2, .ref 22), (3, .ref 37), (4, .int (nI l4))], [])) (fun _ => rfl) rfl (xG.liftM C2041 (p_R_thrown L xs (d + 12) M2047 _ h)) ?_
        clear h
        rintro _ ⟨C2051, M2052⟩ ⟨⟨r2050, rfl, h⟩, hz⟩
        have hz : C2041 = C2051 := hz.symm
        subst hz
        refine ⟨_, rfl, ?_⟩
        refine xG.eqf (f' := (209, [(6, .int (nI r2045)), (5, .int (nI r2040)), (0, .ref 1048640), (1, .ref 0), (2, .ref 22), (3, .ref 37), (4, .int (nI l4))], [.int (nI r2050)])) rfl ?_
        refine xG.seg 1 (f' := (211, [(6, .int (nI r2045)), (5, .int (nI r2040)), (0, .ref 1048640), (1, .ref 0), (2, .ref 22), (3, .ref 37), (4, .int (nI l4))], [.int (nI r2040), .int (nI r2050)])) (x1 := (C2041, M2052)) (fun _ => rfl) ?_
        obtain ⟨c2053, h⟩ := h
        obtain ⟨c2054, h⟩ := h
        refine xG.icmp (t := 216) (A := r2050 = r2040) rfl rfl (xe_c (xt_N c2053) (xt_N c2054) (by dsimp only; omega)) (fun k2055 => ?_) (fun k2055 => ?_)
        · replace h := h.1 k2055
          refine xG.seg 1 (f' := (218, [(6, .int (nI r2045)), (5, .int (nI r2040)), (0, .ref 1048640), (1, .ref 0), (2, .ref 22), (3, .ref 37), (4, .int (nI l4))], [.int (nI r2040)])) (x1 := (C2041, M2052)) (fun _ => rfl) ?_
          obtain ⟨c2056, h⟩ := h
          refine xG.ifc (t := 233) (A := ¬ (r2040 = 0)) rfl rfl (xe_c (xt_N c2056) (show (0 : Int32).toInt = 0 from by decide) (by dsimp only; omega)) (fun k2057 => ?_) (fun k2057 => ?_)
          · replace h := h.2 k2057
            refine xG.seg 1 (f' := (567, [(6, .int (nI r2045)), (5, .int (nI r2040)), (0, .ref 1048640), (1, .ref 0), (2, .ref 22), (3, .ref 37), (4, .int (nI l4))], [])) (x1 := (C2041, M2052)) (fun _ => rfl) ?_
            refine xG.iinc (v := (nI l4)) (w := (nI (l4 + 4))) rfl rfl (by decide) (xe_add l4 4) ?_
            refine xG.eqf (f' := (570, [(4, .int (nI (l4 + 4))), (6, .int (nI r2045)), (5, .int (nI r2040)), (0, .ref 1048640), (1, .ref 0), (2, .ref 22), (3, .ref 37)], [])) rfl ?_
            refine xG.seg 1 (f' := (23, [(4, .int (nI (l4 + 4))), (6, .int (nI r2045)), (5, .int (nI r2040)), (0, .ref 1048640), (1, .ref 0), (2, .ref 22), (3, .ref 37)], [])) (x1 := (C2041, M2052)) (fun _ => rfl) ?_
            refine xG.lv (lv := [(0, .ref 1048640), (1, .ref 0), (2, .ref 22), (3, .ref 37), (4, .int (nI (l4 + 4)))]) (lv' := [(4, .int (nI (l4 + 4))), (6, .int (nI r2045)), (5, .int (nI r2040)), (0, .ref 1048640), (1, .ref 0), (2, .ref 22), (3, .ref 37)]) rfl rfl rfl ?_
            exact hK (l4 + 4) (C2041, M2052) h
          · replace h := h.1 (Classical.not_not.mp k2057)
            refine xG.seg 2 (f' := (223, [(6, .int (nI r2045)), (5, .int (nI r2040)), (0, .ref 1048640), (1, .ref 0), (2, .ref 22), (3, .ref 37), (4, .int (nI l4))], [.int (nI 0), .ref 37])) (x1 := (C2041, M2052)) (fun _ => rfl) ?_
            obtain ⟨c2058, h⟩ := h
            refine xG.lald rfl (by decide) (fun _ => rfl) (by decide) c2058 ?_
            refine xG.eqf (f' := (224, [(6, .int (nI r2045)), (5, .int (nI r2040)), (0, .ref 1048640), (1, .ref 0), (2, .ref 22), (3, .ref 37), (4, .int (nI l4))], [.long (C2041.2.2.2.2.2.1 0)])) rfl ?_
            refine xG.seg 3 (f' := (228, [(6, .int (nI r2045)), (5, .int (nI r2040)), (0, .ref 1048640), (1, .ref 0), (2, .ref 22), (3, .ref 37), (4, .int (nI l4))], [.int (lg_cmp (C2041.2.2.2.2.2.1 0) ((nI r2045).toInt64))])) (x1 := (C2041, M2052)) (fun _ => rfl) ?_
            refine xG.ifc (t := 233) (A := (C2041.2.2.2.2.2.1 0) = ((nI r2045).toInt64)) rfl rfl (xe_lce _ _) (fun k2059 => ?_) (fun k2059 => ?_)
            · replace h := h.1 k2059
              refine xG.seg 1 (f' := (567, [(6, .int (nI r2045)), (5, .int (nI r2040)), (0, .ref 1048640), (1, .ref 0), (2, .ref 22), (3, .ref 37), (4, .int (nI l4))], [])) (x1 := (C2041, M2052)) (fun _ => rfl) ?_
              refine xG.iinc (v := (nI l4)) (w := (nI (l4 + 4))) rfl rfl (by decide) (xe_add l4 4) ?_
              refine xG.eqf (f' := (570, [(4, .int (nI (l4 + 4))), (6, .int (nI r2045)), (5, .int (nI r2040)), (0, .ref 1048640), (1, .ref 0), (2, .ref 22), (3, .ref 37)], [])) rfl ?_
              refine xG.seg 1 (f' := (23, [(4, .int (nI (l4 + 4))), (6, .int (nI r2045)), (5, .int (nI r2040)), (0, .ref 1048640), (1, .ref 0), (2, .ref 22), (3, .ref 37)], [])) (x1 := (C2041, M2052)) (fun _ => rfl) ?_
              refine xG.lv (lv := [(0, .ref 1048640), (1, .ref 0), (2, .ref 22), (3, .ref 37), (4, .int (nI (l4 + 4)))]) (lv' := [(4, .int (nI (l4 + 4))), (6, .int (nI r2045)), (5, .int (nI r2040)), (0, .ref 1048640), (1, .ref 0), (2, .ref 22), (3, .ref 37)]) rfl rfl rfl ?_
              exact hK (l4 + 4) (C2041, M2052) h
            · replace h := h.2 k2059
              refine xG.seg 1 (f' := (232, [(6, .int (nI r2045)), (5, .int (nI r2040)), (0, .ref 1048640), (1, .ref 0), (2, .ref 22), (3, .ref 37), (4, .int (nI l4))], [.int (nI 0)])) (x1 := (C2041, M2052)) (fun _ => rfl) ?_
              exact xG.fin (fun _ => rfl) (⟨_, rfl, h⟩)
        · replace h := h.2 k2055
          refine xG.seg 1 (f' := (215, [(6, .int (nI r2045)), (5, .int (nI r2040)), (0, .ref 1048640), (1, .ref 0), (2, .ref 22), (3, .ref 37), (4, .int (nI l4))], [.int (nI 0)])) (x1 := (C2041, M2052)) (fun _ => rfl) ?_
          exact xG.fin (fun _ => rfl) (⟨_, rfl, h⟩)
      replace h := h.2 k2037
      by_cases k2060 : e2005 = 2
      · replace h := h.1 k2060
        refine xG.tsw (t := 236) rfl c2007 (by rw [k2060]; rfl) ?_
        refine xG.seg 1 (f' := (237, [(0, .ref 1048640), (1, .ref 0), (2, .ref 22), (3, .ref 37), (4, .int (nI l4))], [.ref 0])) (x1 := (s.1, s.2)) (fun _ => rfl) ?_
        refine xG.call (d := d + 12) (vs := [.ref 0]) (g := (237, [(0, .ref 1048640), (1, .ref 0), (2, .ref 22), (3, .ref 37), (4, .int (nI l4))], [])) (fun _ => rfl) rfl (xG.liftC s.2 (p_F_compiling L xs (d + 12) s.1 _ h)) ?_
        clear h
        rintro _ ⟨C2064, M2065⟩ ⟨⟨r2063, rfl, h⟩, hz⟩
        have hz : s.2 = M2065 := hz.symm
        subst hz
        refine ⟨_, rfl, ?_⟩
        refine xG.eqf (f' := (240, [(0, .ref 1048640), (1, .ref 0), (2, .ref 22), (3, .ref 37), (4, .int (nI l4))], [.int (nI r2063)])) rfl ?_
        refine xG.seg 1 (f' := (241, [(0, .ref 1048640), (1, .ref 0), (2, .ref 22), (3, .ref 37), (4, .int (nI l4))], [.ref 22, .int (nI r2063)])) (x1 := (C2064, s.2)) (fun _ => rfl) ?_
        refine xG.call (d := d + 12) (vs := [.ref 22]) (g := (241, [(0, .ref 1048640), (1, .ref 0), (2, .ref 22), (3, .ref 37), (4, .int (nI l4))], [.int (nI r2063)])) (fun _ => rfl) rfl (xG.liftM C2064 (p_R_compiling L xs (d + 12) s.2 _ h)) ?_
        clear h
        rintro _ ⟨C2069, M2070⟩ ⟨⟨r2068, rfl, h⟩, hz⟩
        have hz : C2064 = C2069 := hz.symm
        subst hz
        refine ⟨_, rfl, ?_⟩
        refine xG.eqf (f' := (244, [(0, .ref 1048640), (1, .ref 0), (2, .ref 22), (3, .ref 37), (4, .int (nI l4))], [.int (nI r2068), .int (nI r2063)])) rfl ?_
        obtain ⟨c2071, h⟩ := h
        obtain ⟨c2072, h⟩ := h
        refine xG.icmp (t := 567) (A := r2063 = r2068) rfl rfl (xe_c (xt_N c2071) (xt_N c2072) (by dsimp only; omega)) (fun k2073 => ?_) (fun k2073 => ?_)
        · replace h := h.1 k2073
          refine xG.iinc (v := (nI l4)) (w := (nI (l4 + 4))) rfl rfl (by decide) (xe_add l4 4) ?_
          refine xG.eqf (f' := (570, [(4, .int (nI (l4 + 4))), (0, .ref 1048640), (1, .ref 0), (2, .ref 22), (3, .ref 37)], [])) rfl ?_
          refine xG.seg 1 (f' := (23, [(4, .int (nI (l4 + 4))), (0, .ref 1048640), (1, .ref 0), (2, .ref 22), (3, .ref 37)], [])) (x1 := (C2064, M2070)) (fun _ => rfl) ?_
          refine xG.lv (lv := [(0, .ref 1048640), (1, .ref 0), (2, .ref 22), (3, .ref 37), (4, .int (nI (l4 + 4)))]) (lv' := [(4, .int (nI (l4 + 4))), (0, .ref 1048640), (1, .ref 0), (2, .ref 22), (3, .ref 37)]) rfl rfl rfl ?_
          exact hK (l4 + 4) (C2064, M2070) h
        · replace h := h.2 k2073
          refine xG.seg 1 (f' := (248, [(0, .ref 1048640), (1, .ref 0), (2, .ref 22), (3, .ref 37), (4, .int (nI l4))], [.int (nI 0)])) (x1 := (C2064, M2070)) (fun _ => rfl) ?_
          exact xG.fin (fun _ => rfl) (⟨_, rfl, h⟩)
      replace h := h.2 k2060
      by_cases k2074 : e2005 = 3
      · replace h := h.1 k2074
        refine xG.tsw (t := 249) rfl c2007 (by rw [k2074]; rfl) ?_
        refine xG.seg 1 (f' := (250, [(0, .ref 1048640), (1, .ref 0), (2, .ref 22), (3, .ref 37), (4, .int (nI l4))], [.ref 0])) (x1 := (s.1, s.2)) (fun _ => rfl) ?_
        refine xG.call (d := d + 12) (vs := [.ref 0]) (g := (250, [(0, .ref 1048640), (1, .ref 0), (2, .ref 22), (3, .ref 37), (4, .int (nI l4))], [])) (fun _ => rfl) rfl (xG.liftC s.2 (p_F_depth L xs (d + 12) s.1 _ h)) ?_
        clear h
        rintro _ ⟨C2078, M2079⟩ ⟨⟨r2077, rfl, h⟩, hz⟩
        have hz : s.2 = M2079 := hz.symm
        subst hz
        refine ⟨_, rfl, ?_⟩
        refine xG.eqf (f' := (253, [(0, .ref 1048640), (1, .ref 0), (2, .ref 22), (3, .ref 37), (4, .int (nI l4))], [.int (nI r2077)])) rfl ?_
        refine xG.seg 1 (f' := (254, [(0, .ref 1048640), (1, .ref 0), (2, .ref 22), (3, .ref 37), (4, .int (nI l4))], [.ref 22, .int (nI r2077)])) (x1 := (C2078, s.2)) (fun _ => rfl) ?_
        refine xG.call (d := d + 12) (vs := [.ref 22]) (g := (254, [(0, .ref 1048640), (1, .ref 0), (2, .ref 22), (3, .ref 37), (4, .int (nI l4))], [.int (nI r2077)])) (fun _ => rfl) rfl (xG.liftM C2078 (p_R_depth L xs (d + 12) s.2 _ h)) ?_
        clear h
        rintro _ ⟨C2083, M2084⟩ ⟨⟨r2082, rfl, h⟩, hz⟩
        have hz : C2078 = C2083 := hz.symm
        subst hz
        refine ⟨_, rfl, ?_⟩
        refine xG.eqf (f' := (257, [(0, .ref 1048640), (1, .ref 0), (2, .ref 22), (3, .ref 37), (4, .int (nI l4))], [.int (nI r2082), .int (nI r2077)])) rfl ?_
        obtain ⟨c2085, h⟩ := h
        obtain ⟨c2086, h⟩ := h
        refine xG.icmp (t := 567) (A := r2077 = r2082) rfl rfl (xe_c (xt_N c2085) (xt_N c2086) (by dsimp only; omega)) (fun k2087 => ?_) (fun k2087 => ?_)
        · replace h := h.1 k2087
          refine xG.iinc (v := (nI l4)) (w := (nI (l4 + 4))) rfl rfl (by decide) (xe_add l4 4) ?_
          refine xG.eqf (f' := (570, [(4, .int (nI (l4 + 4))), (0, .ref 1048640), (1, .ref 0), (2, .ref 22), (3, .ref 37)], [])) rfl ?_
          refine xG.seg 1 (f' := (23, [(4, .int (nI (l4 + 4))), (0, .ref 1048640), (1, .ref 0), (2, .ref 22), (3, .ref 37)], [])) (x1 := (C2078, M2084)) (fun _ => rfl) ?_
          refine xG.lv (lv := [(0, .ref 1048640), (1, .ref 0), (2, .ref 22), (3, .ref 37), (4, .int (nI (l4 + 4)))]) (lv' := [(4, .int (nI (l4 + 4))), (0, .ref 1048640), (1, .ref 0), (2, .ref 22), (3, .ref 37)]) rfl rfl rfl ?_
          exact hK (l4 + 4) (C2078, M2084) h
        · replace h := h.2 k2087
          refine xG.seg 1 (f' := (261, [(0, .ref 1048640), (1, .ref 0), (2, .ref 22), (3, .ref 37), (4, .int (nI l4))], [.int (nI 0)])) (x1 := (C2078, M2084)) (fun _ => rfl) ?_
          exact xG.fin (fun _ => rfl) (⟨_, rfl, h⟩)
      replace h := h.2 k2074
      by_cases k2088 : e2005 = 4
      · replace h := h.1 k2088
        refine xG.tsw (t := 262) rfl c2007 (by rw [k2088]; rfl) ?_
        refine xG.seg 5 (f' := (268, [(0, .ref 1048640), (1, .ref 0), (2, .ref 22), (3, .ref 37), (4, .int (nI l4))], [.int ((nI l4) + (nI 1)), .ref 1048640, .ref 0])) (x1 := (s.1, s.2)) (fun _ => rfl) ?_
        refine xG.conv (xe_add l4 1) ?_
        refine xG.eqf (f' := (268, [(0, .ref 1048640), (1, .ref 0), (2, .ref 22), (3, .ref 37), (4, .int (nI l4))], [.int (nI (l4 + 1)), .ref 1048640, .ref 0])) rfl ?_
        obtain ⟨c2089, h⟩ := h
        refine xG.cald rfl (Or.inl ⟨rfl, rfl⟩) (by decide) rfl hL c2089 ?_
        refine xG.eqf (f' := (269, [(0, .ref 1048640), (1, .ref 0), (2, .ref 22), (3, .ref 37), (4, .int (nI l4))], [.int (xs (l4 + 1)), .ref 0])) rfl ?_
        refine xG.seg 1 (f' := (270, [(0, .ref 1048640), (1, .ref 0), (2, .ref 22), (3, .ref 37), (4, .int (nI l4))], [.ref 37, .int (xs (l4 + 1)), .ref 0])) (x1 := (s.1, s.2)) (fun _ => rfl) ?_
        refine xG.call (d := d + 12) (vs := [.ref 0, .int (xs (l4 + 1)), .ref 37]) (g := (270, [(0, .ref 1048640), (1, .ref 0), (2, .ref 22), (3, .ref 37), (4, .int (nI l4))], [])) (fun _ => rfl) rfl (xG.liftC s.2 (p_L_top L xs (d + 5) (xs (l4 + 1)) s.1 _ h)) ?_
        clear h
        rintro _ ⟨C2093, M2094⟩ ⟨⟨r2092, rfl, h⟩, hz⟩
        have hz : s.2 = M2094 := hz.symm
        subst hz
        refine ⟨_, rfl, ?_⟩
        refine xG.eqf (f' := (273, [(0, .ref 1048640), (1, .ref 0), (2, .ref 22), (3, .ref 37), (4, .int (nI l4))], [.int (nI r2092)])) rfl ?_
        refine xG.seg 6 (f' := (281, [(5, .int (nI r2092)), (0, .ref 1048640), (1, .ref 0), (2, .ref 22), (3, .ref 37), (4, .int (nI l4))], [.int ((nI l4) + (nI 1)), .ref 1048640, .ref 22])) (x1 := (C2093, s.2)) (fun _ => rfl) ?_
        refine xG.conv (xe_add l4 1) ?_
        refine xG.eqf (f' := (281, [(5, .int (nI r2092)), (0, .ref 1048640), (1, .ref 0), (2, .ref 22), (3, .ref 37), (4, .int (nI l4))], [.int (nI (l4 + 1)), .ref 1048640, .ref 22])) rfl ?_
        obtain ⟨c2095, h⟩ := h
        refine xG.cald rfl (Or.inl ⟨rfl, rfl⟩) (by decide) rfl hL c2095 ?_
        refine xG.eqf (f' := (282, [(5, .int (nI r2092)), (0, .ref 1048640), (1, .ref 0), (2, .ref 22), (3, .ref 37), (4, .int (nI l4))], [.int (xs (l4 + 1)), .ref 22])) rfl ?_
        refine xG.call (d := d + 12) (vs := [.ref 22, .int (xs (l4 + 1))]) (g := (282, [(5, .int (nI r2092)), (0, .ref 1048640), (1, .ref 0), (2, .ref 22), (3, .ref 37), (4, .int (nI l4))], [])) (fun _ => rfl) rfl (xG.liftM C2093 (p_R_top L xs (d + 11) (xs (l4 + 1)) s.2 _ h)) ?_
        clear h
        rintro _ ⟨C2099, M2100⟩ ⟨⟨r2098, rfl, h⟩, hz⟩
        have hz : C2093 = C2099 := hz.symm
        subst hz
        refine ⟨_, rfl, ?_⟩
        refine xG.eqf (f' := (285, [(5, .int (nI r2092)), (0, .ref 1048640), (1, .ref 0), (2, .ref 22), (3, .ref 37), (4, .int (nI l4))], [.int r2098])) rfl ?_
        refine xG.seg 2 (f' := (288, [(6, .int r2098), (5, .int (nI r2092)), (0, .ref 1048640), (1, .ref 0), (2, .ref 22), (3, .ref 37), (4, .int (nI l4))], [.ref 22])) (x1 := (C2093, M2100)) (fun _ => rfl) ?_
        refine xG.call (d := d + 12) (vs := [.ref 22]) (g := (288, [(6, .int r2098), (5, .int (nI r2092)), (0, .ref 1048640), (1, .ref 0), (2, .ref 22), (3, .ref 37), (4, .int (nI l4))], [])) (fun _ => rfl) rfl (xG.liftM C2093 (p_R_thrown L xs (d + 12) M2100 _ h)) ?_
        clear h
        rintro _ ⟨C2104, M2105⟩ ⟨⟨r2103, rfl, h⟩, hz⟩
        have hz : C2093 = C2104 := hz.symm
        subst hz
        refine ⟨_, rfl, ?_⟩
        refine xG.eqf (f' := (291, [(6, .int r2098), (5, .int (nI r2092)), (0, .ref 1048640), (1, .ref 0), (2, .ref 22), (3, .ref 37), (4, .int (nI l4))], [.int (nI r2103)])) rfl ?_
        refine xG.seg 1 (f' := (293, [(6, .int r2098), (5, .int (nI r2092)), (0, .ref 1048640), (1, .ref 0), (2, .ref 22), (3, .ref 37), (4, .int (nI l4))], [.int (nI r2092), .int (nI r2103)])) (x1 := (C2093, M2105)) (fun _ => rfl) ?_
        obtain ⟨c2106, h⟩ := h
        obtain ⟨c2107, h⟩ := h
        refine xG.icmp (t := 298) (A := r2103 = r2092) rfl rfl (xe_c (xt_N c2106) (xt_N c2107) (by dsimp only; omega)) (fun k2108 => ?_) (fun k2108 => ?_)
        · replace h := h.1 k2108
          refine xG.seg 1 (f' := (300, [(6, .int r2098), (5, .int (nI r2092)), (0, .ref 1048640), (1, .ref 0), (2, .ref 22), (3, .ref 37), (4, .int (nI l4))], [.int (nI r2092)])) (x1 := (C2093, M2105)) (fun _ => rfl) ?_
          obtain ⟨c2109, h⟩ := h
          refine xG.ifc (t := 315) (A := ¬ (r2092 = 0)) rfl rfl (xe_c (xt_N c2109) (show (0 : Int32).toInt = 0 from by decide) (by dsimp only; omega)) (fun k2110 => ?_) (fun k2110 => ?_)
          · replace h := h.2 k2110
            refine xG.seg 1 (f' := (567, [(6, .int r2098), (5, .int (nI r2092)), (0, .ref 1048640), (1, .ref 0), (2, .ref 22), (3, .ref 37), (4, .int (nI l4))], [])) (x1 := (C2093, M2105)) (fun _ => rfl) ?_
            refine xG.iinc (v := (nI l4)) (w := (nI (l4 + 4))) rfl rfl (by decide) (xe_add l4 4) ?_
            refine xG.eqf (f' := (570, [(4, .int (nI (l4 + 4))), (6, .int r2098), (5, .int (nI r2092)), (0, .ref 1048640), (1, .ref 0), (2, .ref 22), (3, .ref 37)], [])) rfl ?_
            refine xG.seg 1 (f' := (23, [(4, .int (nI (l4 + 4))), (6, .int r2098), (5, .int (nI r2092)), (0, .ref 1048640), (1, .ref 0), (2, .ref 22), (3, .ref 37)], [])) (x1 := (C2093, M2105)) (fun _ => rfl) ?_
            refine xG.lv (lv := [(0, .ref 1048640), (1, .ref 0), (2, .ref 22), (3, .ref 37), (4, .int (nI (l4 + 4)))]) (lv' := [(4, .int (nI (l4 + 4))), (6, .int r2098), (5, .int (nI r2092)), (0, .ref 1048640), (1, .ref 0), (2, .ref 22), (3, .ref 37)]) rfl rfl rfl ?_
            exact hK (l4 + 4) (C2093, M2105) h
          · replace h := h.1 (Classical.not_not.mp k2110)
            refine xG.seg 2 (f' := (305, [(6, .int r2098), (5, .int (nI r2092)), (0, .ref 1048640), (1, .ref 0), (2, .ref 22), (3, .ref 37), (4, .int (nI l4))], [.int (nI 0), .ref 37])) (x1 := (C2093, M2105)) (fun _ => rfl) ?_
            obtain ⟨c2111, h⟩ := h
            refine xG.lald rfl (by decide) (fun _ => rfl) (by decide) c2111 ?_
            refine xG.eqf (f' := (306, [(6, .int r2098), (5, .int (nI r2092)), (0, .ref 1048640), (1, .ref 0), (2, .ref 22), (3, .ref 37), (4, .int (nI l4))], [.long (C2093.2.2.2.2.2.1 0)])) rfl ?_
            refine xG.seg 3 (f' := (310, [(6, .int r2098), (5, .int (nI r2092)), (0, .ref 1048640), (1, .ref 0), (2, .ref 22), (3, .ref 37), (4, .int (nI l4))], [.int (lg_cmp (C2093.2.2.2.2.2.1 0) r2098.toInt64)])) (x1 := (C2093, M2105)) (fun _ => rfl) ?_
            refine xG.ifc (t := 315) (A := (C2093.2.2.2.2.2.1 0) = r2098.toInt64) rfl rfl (xe_lce _ _) (fun k2112 => ?_) (fun k2112 => ?_)
            · replace h := h.1 k2112
              refine xG.seg 1 (f' := (567, [(6, .int r2098), (5, .int (nI r2092)), (0, .ref 1048640), (1, .ref 0), (2, .ref 22), (3, .ref 37), (4, .int (nI l4))], [])) (x1 := (C2093, M2105)) (fun _ => rfl) ?_
              refine xG.iinc (v := (nI l4)) (w := (nI (l4 + 4))) rfl rfl (by decide) (xe_add l4 4) ?_
              refine xG.eqf (f' := (570, [(4, .int (nI (l4 + 4))), (6, .int r2098), (5, .int (nI r2092)), (0, .ref 1048640), (1, .ref 0), (2, .ref 22), (3, .ref 37)], [])) rfl ?_
              refine xG.seg 1 (f' := (23, [(4, .int (nI (l4 + 4))), (6, .int r2098), (5, .int (nI r2092)), (0, .ref 1048640), (1, .ref 0), (2, .ref 22), (3, .ref 37)], [])) (x1 := (C2093, M2105)) (fun _ => rfl) ?_
              refine xG.lv (lv := [(0, .ref 1048640), (1, .ref 0), (2, .ref 22), (3, .ref 37), (4, .int (nI (l4 + 4)))]) (lv' := [(4, .int (nI (l4 + 4))), (6, .int r2098), (5, .int (nI r2092)), (0, .ref 1048640), (1, .ref 0), (2, .ref 22), (3, .ref 37)]) rfl rfl rfl ?_
              exact hK (l4 + 4) (C2093, M2105) h
            · replace h := h.2 k2112
              refine xG.seg 1 (f' := (314, [(6, .int r2098), (5, .int (nI r2092)), (0, .ref 1048640), (1, .ref 0), (2, .ref 22), (3, .ref 37), (4, .int (nI l4))], [.int (nI 0)])) (x1 := (C2093, M2105)) (fun _ => rfl) ?_
              exact xG.fin (fun _ => rfl) (⟨_, rfl, h⟩)
        · replace h := h.2 k2108
          refine xG.seg 1 (f' := (297, [(6, .int r2098), (5, .int (nI r2092)), (0, .ref 1048640), (1, .ref 0), (2, .ref 22), (3, .ref 37), (4, .int (nI l4))], [.int (nI 0)])) (x1 := (C2093, M2105)) (fun _ => rfl) ?_
          exact xG.fin (fun _ => rfl) (⟨_, rfl, h⟩)
      replace h := h.2 k2088
      by_cases k2113 : e2005 = 5
      · replace h := h.1 k2113
        refine xG.tsw (t := 318) rfl c2007 (by rw [k2113]; rfl) ?_
        refine xG.seg 5 (f' := (324, [(0, .ref 1048640), (1, .ref 0), (2, .ref 22), (3, .ref 37), (4, .int (nI l4))], [.int ((nI l4) + (nI 1)), .ref 1048640, .ref 0])) (x1 := (s.1, s.2)) (fun _ => rfl) ?_
        refine xG.conv (xe_add l4 1) ?_
        refine xG.eqf (f' := (324, [(0, .ref 1048640), (1, .ref 0), (2, .ref 22), (3, .ref 37), (4, .int (nI l4))], [.int (nI (l4 + 1)), .ref 1048640, .ref 0])) rfl ?_
        obtain ⟨c2114, h⟩ := h
        refine xG.cald rfl (Or.inl ⟨rfl, rfl⟩) (by decide) rfl hL c2114 ?_
        refine xG.eqf (f' := (325, [(0, .ref 1048640), (1, .ref 0), (2, .ref 22), (3, .ref 37), (4, .int (nI l4))], [.int (xs (l4 + 1)), .ref 0])) rfl ?_
        refine xG.seg 1 (f' := (326, [(0, .ref 1048640), (1, .ref 0), (2, .ref 22), (3, .ref 37), (4, .int (nI l4))], [.ref 37, .int (xs (l4 + 1)), .ref 0])) (x1 := (s.1, s.2)) (fun _ => rfl) ?_
        refine xG.call (d := d + 12) (vs := [.ref 0, .int (xs (l4 + 1)), .ref 37]) (g := (326, [(0, .ref 1048640), (1, .ref 0), (2, .ref 22), (3, .ref 37), (4, .int (nI l4))], [])) (fun _ => rfl) rfl (xG.liftC s.2 (p_L_cell L xs (d + 5) (xs (l4 + 1)) s.1 _ h)) ?_
        clear h
        rintro _ ⟨C2118, M2119⟩ ⟨⟨r2117, rfl, h⟩, hz⟩
        have hz : s.2 = M2119 := hz.symm
        subst hz
        refine ⟨_, rfl, ?_⟩
        refine xG.eqf (f' := (329, [(0, .ref 1048640), (1, .ref 0), (2, .ref 22), (3, .ref 37), (4, .int (nI l4))], [.int (nI r2117)])) rfl ?_
        refine xG.seg 6 (f' := (337, [(5, .int (nI r2117)), (0, .ref 1048640), (1, .ref 0), (2, .ref 22), (3, .ref 37), (4, .int (nI l4))], [.int ((nI l4) + (nI 1)), .ref 1048640, .ref 22])) (x1 := (C2118, s.2)) (fun _ => rfl) ?_
        refine xG.conv (xe_add l4 1) ?_
        refine xG.eqf (f' := (337, [(5, .int (nI r2117)), (0, .ref 1048640), (1, .ref 0), (2, .ref 22), (3, .ref 37), (4, .int (nI l4))], [.int (nI (l4 + 1)), .ref 1048640, .ref 22])) rfl ?_
        obtain ⟨c2120, h⟩ := h
        refine xG.cald rfl (Or.inl ⟨rfl, rfl⟩) (by decide) rfl hL c2120 ?_
        refine xG.eqf (f' := (338, [(5, .int (nI r2117)), (0, .ref 1048640), (1, .ref 0), (2, .ref 22), (3, .ref 37), (4, .int (nI l4))], [.int (xs (l4 + 1)), .ref 22])) rfl ?_
        refine xG.call (d := d + 12) (vs := [.ref 22, .int (xs (l4 + 1))]) (g := (338, [(5, .int (nI r2117)), (0, .ref 1048640), (1, .ref 0), (2, .ref 22), (3, .ref 37), (4, .int (nI l4))], [])) (fun _ => rfl) rfl (xG.liftM C2118 (p_R_cell L xs (d + 11) (xs (l4 + 1)) s.2 _ h)) ?_
        clear h
        rintro _ ⟨C2124, M2125⟩ ⟨⟨r2123, rfl, h⟩, hz⟩
        have hz : C2118 = C2124 := hz.symm
        subst hz
        refine ⟨_, rfl, ?_⟩
        refine xG.eqf (f' := (341, [(5, .int (nI r2117)), (0, .ref 1048640), (1, .ref 0), (2, .ref 22), (3, .ref 37), (4, .int (nI l4))], [.int r2123])) rfl ?_
        refine xG.seg 2 (f' := (344, [(6, .int r2123), (5, .int (nI r2117)), (0, .ref 1048640), (1, .ref 0), (2, .ref 22), (3, .ref 37), (4, .int (nI l4))], [.ref 22])) (x1 := (C2118, M2125)) (fun _ => rfl) ?_
        refine xG.call (d := d + 12) (vs := [.ref 22]) (g := (344, [(6, .int r2123), (5, .int (nI r2117)), (0, .ref 1048640), (1, .ref 0), (2, .ref 22), (3, .ref 37), (4, .int (nI l4))], [])) (fun _ => rfl) rfl (xG.liftM C2118 (p_R_thrown L xs (d + 12) M2125 _ h)) ?_
        clear h
        rintro _ ⟨C2129, M2130⟩ ⟨⟨r2128, rfl, h⟩, hz⟩
        have hz : C2118 = C2129 := hz.symm
        subst hz
        refine ⟨_, rfl, ?_⟩
        refine xG.eqf (f' := (347, [(6, .int r2123), (5, .int (nI r2117)), (0, .ref 1048640), (1, .ref 0), (2, .ref 22), (3, .ref 37), (4, .int (nI l4))], [.int (nI r2128)])) rfl ?_
        refine xG.seg 1 (f' := (349, [(6, .int r2123), (5, .int (nI r2117)), (0, .ref 1048640), (1, .ref 0), (2, .ref 22), (3, .ref 37), (4, .int (nI l4))], [.int (nI r2117), .int (nI r2128)])) (x1 := (C2118, M2130)) (fun _ => rfl) ?_
        obtain ⟨c2131, h⟩ := h
        obtain ⟨c2132, h⟩ := h
        refine xG.icmp (t := 354) (A := r2128 = r2117) rfl rfl (xe_c (xt_N c2131) (xt_N c2132) (by dsimp only; omega)) (fun k2133 => ?_) (fun k2133 => ?_)
        · replace h := h.1 k2133
          refine xG.seg 1 (f' := (356, [(6, .int r2123), (5, .int (nI r2117)), (0, .ref 1048640), (1, .ref 0), (2, .ref 22), (3, .ref 37), (4, .int (nI l4))], [.int (nI r2117)])) (x1 := (C2118, M2130)) (fun _ => rfl) ?_
          obtain ⟨c2134, h⟩ := h
          refine xG.ifc (t := 371) (A := ¬ (r2117 = 0)) rfl rfl (xe_c (xt_N c2134) (show (0 : Int32).toInt = 0 from by decide) (by dsimp only; omega)) (fun k2135 => ?_) (fun k2135 => ?_)
          · replace h := h.2 k2135
            refine xG.seg 1 (f' := (567, [(6, .int r2123), (5, .int (nI r2117)), (0, .ref 1048640), (1, .ref 0), (2, .ref 22), (3, .ref 37), (4, .int (nI l4))], [])) (x1 := (C2118, M2130)) (fun _ => rfl) ?_
            refine xG.iinc (v := (nI l4)) (w := (nI (l4 + 4))) rfl rfl (by decide) (xe_add l4 4) ?_
            refine xG.eqf (f' := (570, [(4, .int (nI (l4 + 4))), (6, .int r2123), (5, .int (nI r2117)), (0, .ref 1048640), (1, .ref 0), (2, .ref 22), (3, .ref 37)], [])) rfl ?_
            refine xG.seg 1 (f' := (23, [(4, .int (nI (l4 + 4))), (6, .int r2123), (5, .int (nI r2117)), (0, .ref 1048640), (1, .ref 0), (2, .ref 22), (3, .ref 37)], [])) (x1 := (C2118, M2130)) (fun _ => rfl) ?_
            refine xG.lv (lv := [(0, .ref 1048640), (1, .ref 0), (2, .ref 22), (3, .ref 37), (4, .int (nI (l4 + 4)))]) (lv' := [(4, .int (nI (l4 + 4))), (6, .int r2123), (5, .int (nI r2117)), (0, .ref 1048640), (1, .ref 0), (2, .ref 22), (3, .ref 37)]) rfl rfl rfl ?_
            exact hK (l4 + 4) (C2118, M2130) h
          · replace h := h.1 (Classical.not_not.mp k2135)
            refine xG.seg 2 (f' := (361, [(6, .int r2123), (5, .int (nI r2117)), (0, .ref 1048640), (1, .ref 0), (2, .ref 22), (3, .ref 37), (4, .int (nI l4))], [.int (nI 0), .ref 37])) (x1 := (C2118, M2130)) (fun _ => rfl) ?_
            obtain ⟨c2136, h⟩ := h
            refine xG.lald rfl (by decide) (fun _ => rfl) (by decide) c2136 ?_
            refine xG.eqf (f' := (362, [(6, .int r2123), (5, .int (nI r2117)), (0, .ref 1048640), (1, .ref 0), (2, .ref 22), (3, .ref 37), (4, .int (nI l4))], [.long (C2118.2.2.2.2.2.1 0)])) rfl ?_
            refine xG.seg 3 (f' := (366, [(6, .int r2123), (5, .int (nI r2117)), (0, .ref 1048640), (1, .ref 0), (2, .ref 22), (3, .ref 37), (4, .int (nI l4))], [.int (lg_cmp (C2118.2.2.2.2.2.1 0) r2123.toInt64)])) (x1 := (C2118, M2130)) (fun _ => rfl) ?_
            refine xG.ifc (t := 371) (A := (C2118.2.2.2.2.2.1 0) = r2123.toInt64) rfl rfl (xe_lce _ _) (fun k2137 => ?_) (fun k2137 => ?_)
            · replace h := h.1 k2137
              refine xG.seg 1 (f' := (567, [(6, .int r2123), (5, .int (nI r2117)), (0, .ref 1048640), (1, .ref 0), (2, .ref 22), (3, .ref 37), (4, .int (nI l4))], [])) (x1 := (C2118, M2130)) (fun _ => rfl) ?_
              refine xG.iinc (v := (nI l4)) (w := (nI (l4 + 4))) rfl rfl (by decide) (xe_add l4 4) ?_
              refine xG.eqf (f' := (570, [(4, .int (nI (l4 + 4))), (6, .int r2123), (5, .int (nI r2117)), (0, .ref 1048640), (1, .ref 0), (2, .ref 22), (3, .ref 37)], [])) rfl ?_
              refine xG.seg 1 (f' := (23, [(4, .int (nI (l4 + 4))), (6, .int r2123), (5, .int (nI r2117)), (0, .ref 1048640), (1, .ref 0), (2, .ref 22), (3, .ref 37)], [])) (x1 := (C2118, M2130)) (fun _ => rfl) ?_
              refine xG.lv (lv := [(0, .ref 1048640), (1, .ref 0), (2, .ref 22), (3, .ref 37), (4, .int (nI (l4 + 4)))]) (lv' := [(4, .int (nI (l4 + 4))), (6, .int r2123), (5, .int (nI r2117)), (0, .ref 1048640), (1, .ref 0), (2, .ref 22), (3, .ref 37)]) rfl rfl rfl ?_
              exact hK (l4 + 4) (C2118, M2130) h
            · replace h := h.2 k2137
              refine xG.seg 1 (f' := (370, [(6, .int r2123), (5, .int (nI r2117)), (0, .ref 1048640), (1, .ref 0), (2, .ref 22), (3, .ref 37), (4, .int (nI l4))], [.int (nI 0)])) (x1 := (C2118, M2130)) (fun _ => rfl) ?_
              exact xG.fin (fun _ => rfl) (⟨_, rfl, h⟩)
        · replace h := h.2 k2133
          refine xG.seg 1 (f' := (353, [(6, .int r2123), (5, .int (nI r2117)), (0, .ref 1048640), (1, .ref 0), (2, .ref 22), (3, .ref 37), (4, .int (nI l4))], [.int (nI 0)])) (x1 := (C2118, M2130)) (fun _ => rfl) ?_
          exact xG.fin (fun _ => rfl) (⟨_, rfl, h⟩)
      replace h := h.2 k2113
      by_cases k2138 : e2005 = 6
      · replace h := h.1 k2138
        refine xG.tsw (t := 374) rfl c2007 (by rw [k2138]; rfl) ?_
        refine xG.seg 1 (f' := (375, [(0, .ref 1048640), (1, .ref 0), (2, .ref 22), (3, .ref 37), (4, .int (nI l4))], [.ref 0])) (x1 := (s.1, s.2)) (fun _ => rfl) ?_
        refine xG.call (d := d + 12) (vs := [.ref 0]) (g := (375, [(0, .ref 1048640), (1, .ref 0), (2, .ref 22), (3, .ref 37), (4, .int (nI l4))], [])) (fun _ => rfl) rfl (xG.liftC s.2 (p_F_said L xs (d + 12) s.1 _ h)) ?_
        clear h
        rintro _ ⟨C2142, M2143⟩ ⟨⟨r2141, rfl, h⟩, hz⟩
        have hz : s.2 = M2143 := hz.symm
        subst hz
        refine ⟨_, rfl, ?_⟩
        refine xG.eqf (f' := (378, [(0, .ref 1048640), (1, .ref 0), (2, .ref 22), (3, .ref 37), (4, .int (nI l4))], [.int (nI r2141)])) rfl ?_
        refine xG.seg 1 (f' := (379, [(0, .ref 1048640), (1, .ref 0), (2, .ref 22), (3, .ref 37), (4, .int (nI l4))], [.ref 22, .int (nI r2141)])) (x1 := (C2142, s.2)) (fun _ => rfl) ?_
        refine xG.call (d := d + 12) (vs := [.ref 22]) (g := (379, [(0, .ref 1048640), (1, .ref 0), (2, .ref 22), (3, .ref 37), (4, .int (nI l4))], [.int (nI r2141)])) (fun _ => rfl) rfl (xG.liftM C2142 (p_R_said L xs (d + 12) s.2 _ h)) ?_
        clear h
        rintro _ ⟨C2147, M2148⟩ ⟨⟨r2146, rfl, h⟩, hz⟩
        have hz : C2142 = C2147 := hz.symm
        subst hz
        refine ⟨_, rfl, ?_⟩
        refine xG.eqf (f' := (382, [(0, .ref 1048640), (1, .ref 0), (2, .ref 22), (3, .ref 37), (4, .int (nI l4))], [.int (nI r2146), .int (nI r2141)])) rfl ?_
        obtain ⟨c2149, h⟩ := h
        obtain ⟨c2150, h⟩ := h
        refine xG.icmp (t := 567) (A := r2141 = r2146) rfl rfl (xe_c (xt_N c2149) (xt_N c2150) (by dsimp only; omega)) (fun k2151 => ?_) (fun k2151 => ?_)
        · replace h := h.1 k2151
          refine xG.iinc (v := (nI l4)) (w := (nI (l4 + 4))) rfl rfl (by decide) (xe_add l4 4) ?_
          refine xG.eqf (f' := (570, [(4, .int (nI (l4 + 4))), (0, .ref 1048640), (1, .ref 0), (2, .ref 22), (3, .ref 37)], [])) rfl ?_
          refine xG.seg 1 (f' := (23, [(4, .int (nI (l4 + 4))), (0, .ref 1048640), (1, .ref 0), (2, .ref 22), (3, .ref 37)], [])) (x1 := (C2142, M2148)) (fun _ => rfl) ?_
          refine xG.lv (lv := [(0, .ref 1048640), (1, .ref 0), (2, .ref 22), (3, .ref 37), (4, .int (nI (l4 + 4)))]) (lv' := [(4, .int (nI (l4 + 4))), (0, .ref 1048640), (1, .ref 0), (2, .ref 22), (3, .ref 37)]) rfl rfl rfl ?_
          exact hK (l4 + 4) (C2142, M2148) h
        · replace h := h.2 k2151
          refine xG.seg 1 (f' := (386, [(0, .ref 1048640), (1, .ref 0), (2, .ref 22), (3, .ref 37), (4, .int (nI l4))], [.int (nI 0)])) (x1 := (C2142, M2148)) (fun _ => rfl) ?_
          exact xG.fin (fun _ => rfl) (⟨_, rfl, h⟩)
      replace h := h.2 k2138
      by_cases k2152 : e2005 = 7
      · replace h := h.1 k2152
        refine xG.tsw (t := 387) rfl c2007 (by rw [k2152]; rfl) ?_
        refine xG.seg 5 (f' := (393, [(0, .ref 1048640), (1, .ref 0), (2, .ref 22), (3, .ref 37), (4, .int (nI l4))], [.int ((nI l4) + (nI 1)), .ref 1048640, .ref 0])) (x1 := (s.1, s.2)) (fun _ => rfl) ?_
        refine xG.conv (xe_add l4 1) ?_
        refine xG.eqf (f' := (393, [(0, .ref 1048640), (1, .ref 0), (2, .ref 22), (3, .ref 37), (4, .int (nI l4))], [.int (nI (l4 + 1)), .ref 1048640, .ref 0])) rfl ?_
        obtain ⟨c2153, h⟩ := h
        refine xG.cald rfl (Or.inl ⟨rfl, rfl⟩) (by decide) rfl hL c2153 ?_
        refine xG.eqf (f' := (394, [(0, .ref 1048640), (1, .ref 0), (2, .ref 22), (3, .ref 37), (4, .int (nI l4))], [.int (xs (l4 + 1)), .ref 0])) rfl ?_
        refine xG.seg 1 (f' := (395, [(0, .ref 1048640), (1, .ref 0), (2, .ref 22), (3, .ref 37), (4, .int (nI l4))], [.ref 37, .int (xs (l4 + 1)), .ref 0])) (x1 := (s.1, s.2)) (fun _ => rfl) ?_
        refine xG.call (d := d + 12) (vs := [.ref 0, .int (xs (l4 + 1)), .ref 37]) (g := (395, [(0, .ref 1048640), (1, .ref 0), (2, .ref 22), (3, .ref 37), (4, .int (nI l4))], [])) (fun _ => rfl) rfl (xG.liftC s.2 (p_L_saying L xs (d + 5) (xs (l4 + 1)) s.1 _ h)) ?_
        clear h
        rintro _ ⟨C2157, M2158⟩ ⟨⟨r2156, rfl, h⟩, hz⟩
        have hz : s.2 = M2158 := hz.symm
        subst hz
        refine ⟨_, rfl, ?_⟩
        refine xG.eqf (f' := (398, [(0, .ref 1048640), (1, .ref 0), (2, .ref 22), (3, .ref 37), (4, .int (nI l4))], [.int (nI r2156)])) rfl ?_
        refine xG.seg 6 (f' := (406, [(5, .int (nI r2156)), (0, .ref 1048640), (1, .ref 0), (2, .ref 22), (3, .ref 37), (4, .int (nI l4))], [.int ((nI l4) + (nI 1)), .ref 1048640, .ref 22])) (x1 := (C2157, s.2)) (fun _ => rfl) ?_
        refine xG.conv (xe_add l4 1) ?_
        refine xG.eqf (f' := (406, [(5, .int (nI r2156)), (0, .ref 1048640), (1, .ref 0), (2, .ref 22), (3, .ref 37), (4, .int (nI l4))], [.int (nI (l4 + 1)), .ref 1048640, .ref 22])) rfl ?_
        obtain ⟨c2159, h⟩ := h
        refine xG.cald rfl (Or.inl ⟨rfl, rfl⟩) (by decide) rfl hL c2159 ?_
        refine xG.eqf (f' := (407, [(5, .int (nI r2156)), (0, .ref 1048640), (1, .ref 0), (2, .ref 22), (3, .ref 37), (4, .int (nI l4))], [.int (xs (l4 + 1)), .ref 22])) rfl ?_
        refine xG.call (d := d + 12) (vs := [.ref 22, .int (xs (l4 + 1))]) (g := (407, [(5, .int (nI r2156)), (0, .ref 1048640), (1, .ref 0), (2, .ref 22), (3, .ref 37), (4, .int (nI l4))], [])) (fun _ => rfl) rfl (xG.liftM C2157 (p_R_saying L xs (d + 11) (xs (l4 + 1)) s.2 _ h)) ?_
        clear h
        rintro _ ⟨C2163, M2164⟩ ⟨⟨r2162, rfl, h⟩, hz⟩
        have hz : C2157 = C2163 := hz.symm
        subst hz
        refine ⟨_, rfl, ?_⟩
        refine xG.eqf (f' := (410, [(5, .int (nI r2156)), (0, .ref 1048640), (1, .ref 0), (2, .ref 22), (3, .ref 37), (4, .int (nI l4))], [.int r2162])) rfl ?_
        refine xG.seg 2 (f' := (413, [(6, .int r2162), (5, .int (nI r2156)), (0, .ref 1048640), (1, .ref 0), (2, .ref 22), (3, .ref 37), (4, .int (nI l4))], [.ref 22])) (x1 := (C2157, M2164)) (fun _ => rfl) ?_
        refine xG.call (d := d + 12) (vs := [.ref 22]) (g := (413, [(6, .int r2162), (5, .int (nI r2156)), (0, .ref 1048640), (1, .ref 0), (2, .ref 22), (3, .ref 37), (4, .int (nI l4))], [])) (fun _ => rfl) rfl (xG.liftM C2157 (p_R_thrown L xs (d + 12) M2164 _ h)) ?_
        clear h
        rintro _ ⟨C2168, M2169⟩ ⟨⟨r2167, rfl, h⟩, hz⟩
        have hz : C2157 = C2168 := hz.symm
        subst hz
        refine ⟨_, rfl, ?_⟩
        refine xG.eqf (f' := (416, [(6, .int r2162), (5, .int (nI r2156)), (0, .ref 1048640), (1, .ref 0), (2, .ref 22), (3, .ref 37), (4, .int (nI l4))], [.int (nI r2167)])) rfl ?_
        refine xG.seg 1 (f' := (418, [(6, .int r2162), (5, .int (nI r2156)), (0, .ref 1048640), (1, .ref 0), (2, .ref 22), (3, .ref 37), (4, .int (nI l4))], [.int (nI r2156), .int (nI r2167)])) (x1 := (C2157, M2169)) (fun _ => rfl) ?_
        obtain ⟨c2170, h⟩ := h
        obtain ⟨c2171, h⟩ := h
        refine xG.icmp (t := 423) (A := r2167 = r2156) rfl rfl (xe_c (xt_N c2170) (xt_N c2171) (by dsimp only; omega)) (fun k2172 => ?_) (fun k2172 => ?_)
        · replace h := h.1 k2172
          refine xG.seg 1 (f' := (425, [(6, .int r2162), (5, .int (nI r2156)), (0, .ref 1048640), (1, .ref 0), (2, .ref 22), (3, .ref 37), (4, .int (nI l4))], [.int (nI r2156)])) (x1 := (C2157, M2169)) (fun _ => rfl) ?_
          obtain ⟨c2173, h⟩ := h
          refine xG.ifc (t := 440) (A := ¬ (r2156 = 0)) rfl rfl (xe_c (xt_N c2173) (show (0 : Int32).toInt = 0 from by decide) (by dsimp only; omega)) (fun k2174 => ?_) (fun k2174 => ?_)
          · replace h := h.2 k2174
            refine xG.seg 1 (f' := (567, [(6, .int r2162), (5, .int (nI r2156)), (0, .ref 1048640), (1, .ref 0), (2, .ref 22), (3, .ref 37), (4, .int (nI l4))], [])) (x1 := (C2157, M2169)) (fun _ => rfl) ?_
            refine xG.iinc (v := (nI l4)) (w := (nI (l4 + 4))) rfl rfl (by decide) (xe_add l4 4) ?_
            refine xG.eqf (f' := (570, [(4, .int (nI (l4 + 4))), (6, .int r2162), (5, .int (nI r2156)), (0, .ref 1048640), (1, .ref 0), (2, .ref 22), (3, .ref 37)], [])) rfl ?_
            refine xG.seg 1 (f' := (23, [(4, .int (nI (l4 + 4))), (6, .int r2162), (5, .int (nI r2156)), (0, .ref 1048640), (1, .ref 0), (2, .ref 22), (3, .ref 37)], [])) (x1 := (C2157, M2169)) (fun _ => rfl) ?_
            refine xG.lv (lv := [(0, .ref 1048640), (1, .ref 0), (2, .ref 22), (3, .ref 37), (4, .int (nI (l4 + 4)))]) (lv' := [(4, .int (nI (l4 + 4))), (6, .int r2162), (5, .int (nI r2156)), (0, .ref 1048640), (1, .ref 0), (2, .ref 22), (3, .ref 37)]) rfl rfl rfl ?_
            exact hK (l4 + 4) (C2157, M2169) h
          · replace h := h.1 (Classical.not_not.mp k2174)
            refine xG.seg 2 (f' := (430, [(6, .int r2162), (5, .int (nI r2156)), (0, .ref 1048640), (1, .ref 0), (2, .ref 22), (3, .ref 37), (4, .int (nI l4))], [.int (nI 0), .ref 37])) (x1 := (C2157, M2169)) (fun _ => rfl) ?_
            obtain ⟨c2175, h⟩ := h
            refine xG.lald rfl (by decide) (fun _ => rfl) (by decide) c2175 ?_
            refine xG.eqf (f' := (431, [(6, .int r2162), (5, .int (nI r2156)), (0, .ref 1048640), (1, .ref 0), (2, .ref 22), (3, .ref 37), (4, .int (nI l4))], [.long (C2157.2.2.2.2.2.1 0)])) rfl ?_
            refine xG.seg 3 (f' := (435, [(6, .int r2162), (5, .int (nI r2156)), (0, .ref 1048640), (1, .ref 0), (2, .ref 22), (3, .ref 37), (4, .int (nI l4))], [.int (lg_cmp (C2157.2.2.2.2.2.1 0) r2162.toInt64)])) (x1 := (C2157, M2169)) (fun _ => rfl) ?_
            refine xG.ifc (t := 440) (A := (C2157.2.2.2.2.2.1 0) = r2162.toInt64) rfl rfl (xe_lce _ _) (fun k2176 => ?_) (fun k2176 => ?_)
            · replace h := h.1 k2176
              refine xG.seg 1 (f' := (567, [(6, .int r2162), (5, .int (nI r2156)), (0, .ref 1048640), (1, .ref 0), (2, .ref 22), (3, .ref 37), (4, .int (nI l4))], [])) (x1 := (C2157, M2169)) (fun _ => rfl) ?_
              refine xG.iinc (v := (nI l4)) (w := (nI (l4 + 4))) rfl rfl (by decide) (xe_add l4 4) ?_
              refine xG.eqf (f' := (570, [(4, .int (nI (l4 + 4))), (6, .int r2162), (5, .int (nI r2156)), (0, .ref 1048640), (1, .ref 0), (2, .ref 22), (3, .ref 37)], [])) rfl ?_
              refine xG.seg 1 (f' := (23, [(4, .int (nI (l4 + 4))), (6, .int r2162), (5, .int (nI r2156)), (0, .ref 1048640), (1, .ref 0), (2, .ref 22), (3, .ref 37)], [])) (x1 := (C2157, M2169)) (fun _ => rfl) ?_
              refine xG.lv (lv := [(0, .ref 1048640), (1, .ref 0), (2, .ref 22), (3, .ref 37), (4, .int (nI (l4 + 4)))]) (lv' := [(4, .int (nI (l4 + 4))), (6, .int r2162), (5, .int (nI r2156)), (0, .ref 1048640), (1, .ref 0), (2, .ref 22), (3, .ref 37)]) rfl rfl rfl ?_
              exact hK (l4 + 4) (C2157, M2169) h
            · replace h := h.2 k2176
              refine xG.seg 1 (f' := (439, [(6, .int r2162), (5, .int (nI r2156)), (0, .ref 1048640), (1, .ref 0), (2, .ref 22), (3, .ref 37), (4, .int (nI l4))], [.int (nI 0)])) (x1 := (C2157, M2169)) (fun _ => rfl) ?_
              exact xG.fin (fun _ => rfl) (⟨_, rfl, h⟩)
        · replace h := h.2 k2172
          refine xG.seg 1 (f' := (422, [(6, .int r2162), (5, .int (nI r2156)), (0, .ref 1048640), (1, .ref 0), (2, .ref 22), (3, .ref 37), (4, .int (nI l4))], [.int (nI 0)])) (x1 := (C2157, M2169)) (fun _ => rfl) ?_
          exact xG.fin (fun _ => rfl) (⟨_, rfl, h⟩)
      replace h := h.2 k2152
      by_cases k2177 : e2005 = 8
      · replace h := h.1 k2177
        refine xG.tsw (t := 443) rfl c2007 (by rw [k2177]; rfl) ?_
        refine xG.seg 5 (f' := (449, [(0, .ref 1048640), (1, .ref 0), (2, .ref 22), (3, .ref 37), (4, .int (nI l4))], [.int ((nI l4) + (nI 1)), .ref 1048640, .ref 0])) (x1 := (s.1, s.2)) (fun _ => rfl) ?_
        refine xG.conv (xe_add l4 1) ?_
        refine xG.eqf (f' := (449, [(0, .ref 1048640), (1, .ref 0), (2, .ref 22), (3, .ref 37), (4, .int (nI l4))], [.int (nI (l4 + 1)), .ref 1048640, .ref 0])) rfl ?_
        obtain ⟨c2178, h⟩ := h
        refine xG.cald rfl (Or.inl ⟨rfl, rfl⟩) (by decide) rfl hL c2178 ?_
        refine xG.eqf (f' := (450, [(0, .ref 1048640), (1, .ref 0), (2, .ref 22), (3, .ref 37), (4, .int (nI l4))], [.int (xs (l4 + 1)), .ref 0])) rfl ?_
        refine xG.seg 4 (f' := (455, [(0, .ref 1048640), (1, .ref 0), (2, .ref 22), (3, .ref 37), (4, .int (nI l4))], [.int ((nI l4) + (nI 2)), .ref 1048640, .int (xs (l4 + 1)), .ref 0])) (x1 := (s.1, s.2)) (fun _ => rfl) ?_
        refine xG.conv (xe_add l4 2) ?_
        refine xG.eqf (f' := (455, [(0, .ref 1048640), (1, .ref 0), (2, .ref 22), (3, .ref 37), (4, .int (nI l4))], [.int (nI (l4 + 2)), .ref 1048640, .int (xs (l4 + 1)), .ref 0])) rfl ?_
        obtain ⟨c2179, h⟩ := h
        refine xG.cald rfl (Or.inl ⟨rfl, rfl⟩) (by decide) rfl hL c2179 ?_
        refine xG.eqf (f' := (456, [(0, .ref 1048640), (1, .ref 0), (2, .ref 22), (3, .ref 37), (4, .int (nI l4))], [.int (xs (l4 + 2)), .int (xs (l4 + 1)), .ref 0])) rfl ?_
        refine xG.seg 1 (f' := (457, [(0, .ref 1048640), (1, .ref 0), (2, .ref 22), (3, .ref 37), (4, .int (nI l4))], [.ref 37, .int (xs (l4 + 2)), .int (xs (l4 + 1)), .ref 0])) (x1 := (s.1, s.2)) (fun _ => rfl) ?_
        refine xG.call (d := d + 12) (vs := [.ref 0, .int (xs (l4 + 1)), .int (xs (l4 + 2)), .ref 37]) (g := (457, [(0, .ref 1048640), (1, .ref 0), (2, .ref 22), (3, .ref 37), (4, .int (nI l4))], [])) (fun _ => rfl) rfl (xG.liftC s.2 (p_L_definition L xs (d + 5) (xs (l4 + 1)) (xs (l4 + 2)) s.1 _ h)) ?_
        clear h
        rintro _ ⟨C2183, M2184⟩ ⟨⟨r2182, rfl, h⟩, hz⟩
        have hz : s.2 = M2184 := hz.symm
        subst hz
        refine ⟨_, rfl, ?_⟩
        refine xG.eqf (f' := (460, [(0, .ref 1048640), (1, .ref 0), (2, .ref 22), (3, .ref 37), (4, .int (nI l4))], [.int (nI r2182)])) rfl ?_
        refine xG.seg 6 (f' := (468, [(5, .int (nI r2182)), (0, .ref 1048640), (1, .ref 0), (2, .ref 22), (3, .ref 37), (4, .int (nI l4))], [.int ((nI l4) + (nI 1)), .ref 1048640, .ref 22])) (x1 := (C2183, s.2)) (fun _ => rfl) ?_
        refine xG.conv (xe_add l4 1) ?_
        refine xG.eqf (f' := (468, [(5, .int (nI r2182)), (0, .ref 1048640), (1, .ref 0), (2, .ref 22), (3, .ref 37), (4, .int (nI l4))], [.int (nI (l4 + 1)), .ref 1048640, .ref 22])) rfl ?_
        obtain ⟨c2185, h⟩ := h
        refine xG.cald rfl (Or.inl ⟨rfl, rfl⟩) (by decide) rfl hL c2185 ?_
        refine xG.eqf (f' := (469, [(5, .int (nI r2182)), (0, .ref 1048640), (1, .ref 0), (2, .ref 22), (3, .ref 37), (4, .int (nI l4))], [.int (xs (l4 + 1)), .ref 22])) rfl ?_
        refine xG.seg 4 (f' := (474, [(5, .int (nI r2182)), (0, .ref 1048640), (1, .ref 0), (2, .ref 22), (3, .ref 37), (4, .int (nI l4))], [.int ((nI l4) + (nI 2)), .ref 1048640, .int (xs (l4 + 1)), .ref 22])) (x1 := (C2183, s.2)) (fun _ => rfl) ?_
        refine xG.conv (xe_add l4 2) ?_
        refine xG.eqf (f' := (474, [(5, .int (nI r2182)), (0, .ref 1048640), (1, .ref 0), (2, .ref 22), (3, .ref 37), (4, .int (nI l4))], [.int (nI (l4 + 2)), .ref 1048640, .int (xs (l4 + 1)), .ref 22])) rfl ?_
        obtain ⟨c2186, h⟩ := h
        refine xG.cald rfl (Or.inl ⟨rfl, rfl⟩) (by decide) rfl hL c2186 ?_
        refine xG.eqf (f' := (475, [(5, .int (nI r2182)), (0, .ref 1048640), (1, .ref 0), (2, .ref 22), (3, .ref 37), (4, .int (nI l4))], [.int (xs (l4 + 2)), .int (xs (l4 + 1)), .ref 22])) rfl ?_
        refine xG.call (d := d + 12) (vs := [.ref 22, .int (xs (l4 + 1)), .int (xs (l4 + 2))]) (g := (475, [(5, .int (nI r2182)), (0, .ref 1048640), (1, .ref 0), (2, .ref 22), (3, .ref 37), (4, .int (nI l4))], [])) (fun _ => rfl) rfl (xG.liftM C2183 (p_R_definition L xs (d + 11) (xs (l4 + 1)) (xs (l4 + 2)) s.2 _ h)) ?_
        clear h
        rintro _ ⟨C2190, M2191⟩ ⟨⟨r2189, rfl, h⟩, hz⟩
        have hz : C2183 = C2190 := hz.symm
        subst hz
        refine ⟨_, rfl, ?_⟩
        refine xG.eqf (f' := (478, [(5, .int (nI r2182)), (0, .ref 1048640), (1, .ref 0), (2, .ref 22), (3, .ref 37), (4, .int (nI l4))], [.int (nI r2189)])) rfl ?_
        refine xG.seg 2 (f' := (481, [(6, .int (nI r2189)), (5, .int (nI r2182)), (0, .ref 1048640), (1, .ref 0), (2, .ref 22), (3, .ref 37), (4, .int (nI l4))], [.ref 22])) (x1 := (C2183, M2191)) (fun _ => rfl) ?_
        refine xG.call (d := d + 12) (vs := [.ref 22]) (g := (481, [(6, .int (nI r2189)), (5, .int (nI r2182)), (0, .ref 1048640), (1, .ref 0), (2, .ref 22), (3, .ref 37), (4, .int (nI l4))], [])) (fun _ => rfl) rfl (xG.liftM C2183 (p_R_thrown L xs (d + 12) M2191 _ h)) ?_
        clear h
        rintro _ ⟨C2195, M2196⟩ ⟨⟨r2194, rfl, h⟩, hz⟩
        have hz : C2183 = C2195 := hz.symm
        subst hz
        refine ⟨_, rfl, ?_⟩
        refine xG.eqf (f' := (484, [(6, .int (nI r2189)), (5, .int (nI r2182)), (0, .ref 1048640), (1, .ref 0), (2, .ref 22), (3, .ref 37), (4, .int (nI l4))], [.int (nI r2194)])) rfl ?_
        refine xG.seg 1 (f' := (486, [(6, .int (nI r2189)), (5, .int (nI r2182)), (0, .ref 1048640), (1, .ref 0), (2, .ref 22), (3, .ref 37), (4, .int (nI l4))], [.int (nI r2182), .int (nI r2194)])) (x1 := (C2183, M2196)) (fun _ => rfl) ?_
        obtain ⟨c2197, h⟩ := h
        obtain ⟨c2198, h⟩ := h
        refine xG.icmp (t := 491) (A := r2194 = r2182) rfl rfl (xe_c (xt_N c2197) (xt_N c2198) (by dsimp only; omega)) (fun k2199 => ?_) (fun k2199 => ?_)
        · replace h := h.1 k2199
          refine xG.seg 1 (f' := (493, [(6, .int (nI r2189)), (5, .int (nI r2182)), (0, .ref 1048640), (1, .ref 0), (2, .ref 22), (3, .ref 37), (4, .int (nI l4))], [.int (nI r2182)])) (x1 := (C2183, M2196)) (fun _ => rfl) ?_
          obtain ⟨c2200, h⟩ := h
          refine xG.ifc (t := 508) (A := ¬ (r2182 = 0)) rfl rfl (xe_c (xt_N c2200) (show (0 : Int32).toInt = 0 from by decide) (by dsimp only; omega)) (fun k2201 => ?_) (fun k2201 => ?_)
          · replace h := h.2 k2201
            refine xG.seg 1 (f' := (567, [(6, .int (nI r2189)), (5, .int (nI r2182)), (0, .ref 1048640), (1, .ref 0), (2, .ref 22), (3, .ref 37), (4, .int (nI l4))], [])) (x1 := (C2183, M2196)) (fun _ => rfl) ?_
            refine xG.iinc (v := (nI l4)) (w := (nI (l4 + 4))) rfl rfl (by decide) (xe_add l4 4) ?_
            refine xG.eqf (f' := (570, [(4, .int (nI (l4 + 4))), (6, .int (nI r2189)), (5, .int (nI r2182)), (0, .ref 1048640), (1, .ref 0), (2, .ref 22), (3, .ref 37)], [])) rfl ?_
            refine xG.seg 1 (f' := (23, [(4, .int (nI (l4 + 4))), (6, .int (nI r2189)), (5, .int (nI r2182)), (0, .ref 1048640), (1, .ref 0), (2, .ref 22), (3, .ref 37)], [])) (x1 := (C2183, M2196)) (fun _ => rfl) ?_
            refine xG.lv (lv := [(0, .ref 1048640), (1, .ref 0), (2, .ref 22), (3, .ref 37), (4, .int (nI (l4 + 4)))]) (lv' := [(4, .int (nI (l4 + 4))), (6, .int (nI r2189)), (5, .int (nI r2182)), (0, .ref 1048640), (1, .ref 0), (2, .ref 22), (3, .ref 37)]) rfl rfl rfl ?_
            exact hK (l4 + 4) (C2183, M2196) h
          · replace h := h.1 (Classical.not_not.mp k2201)
            refine xG.seg 2 (f' := (498, [(6, .int (nI r2189)), (5, .int (nI r2182)), (0, .ref 1048640), (1, .ref 0), (2, .ref 22), (3, .ref 37), (4, .int (nI l4))], [.int (nI 0), .ref 37])) (x1 := (C2183, M2196)) (fun _ => rfl) ?_
            obtain ⟨c2202, h⟩ := h
            refine xG.lald rfl (by decide) (fun _ => rfl) (by decide) c2202 ?_
            refine xG.eqf (f' := (499, [(6, .int (nI r2189)), (5, .int (nI r2182)), (0, .ref 1048640), (1, .ref 0), (2, .ref 22), (3, .ref 37), (4, .int (nI l4))], [.long (C2183.2.2.2.2.2.1 0)])) rfl ?_
            refine xG.seg 3 (f' := (503, [(6, .int (nI r2189)), (5, .int (nI r2182)), (0, .ref 1048640), (1, .ref 0), (2, .ref 22), (3, .ref 37), (4, .int (nI l4))], [.int (lg_cmp (C2183.2.2.2.2.2.1 0) ((nI r2189).toInt64))])) (x1 := (C2183, M2196)) (fun _ => rfl) ?_
            refine xG.ifc (t := 508) (A := (C2183.2.2.2.2.2.1 0) = ((nI r2189).toInt64)) rfl rfl (xe_lce _ _) (fun k2203 => ?_) (fun k2203 => ?_)
            · replace h := h.1 k2203
              refine xG.seg 1 (f' := (567, [(6, .int (nI r2189)), (5, .int (nI r2182)), (0, .ref 1048640), (1, .ref 0), (2, .ref 22), (3, .ref 37), (4, .int (nI l4))], [])) (x1 := (C2183, M2196)) (fun _ => rfl) ?_
              refine xG.iinc (v := (nI l4)) (w := (nI (l4 + 4))) rfl rfl (by decide) (xe_add l4 4) ?_
              refine xG.eqf (f' := (570, [(4, .int (nI (l4 + 4))), (6, .int (nI r2189)), (5, .int (nI r2182)), (0, .ref 1048640), (1, .ref 0), (2, .ref 22), (3, .ref 37)], [])) rfl ?_
              refine xG.seg 1 (f' := (23, [(4, .int (nI (l4 + 4))), (6, .int (nI r2189)), (5, .int (nI r2182)), (0, .ref 1048640), (1, .ref 0), (2, .ref 22), (3, .ref 37)], [])) (x1 := (C2183, M2196)) (fun _ => rfl) ?_
              refine xG.lv (lv := [(0, .ref 1048640), (1, .ref 0), (2, .ref 22), (3, .ref 37), (4, .int (nI (l4 + 4)))]) (lv' := [(4, .int (nI (l4 + 4))), (6, .int (nI r2189)), (5, .int (nI r2182)), (0, .ref 1048640), (1, .ref 0), (2, .ref 22), (3, .ref 37)]) rfl rfl rfl ?_
              exact hK (l4 + 4) (C2183, M2196) h
            · replace h := h.2 k2203
              refine xG.seg 1 (f' := (507, [(6, .int (nI r2189)), (5, .int (nI r2182)), (0, .ref 1048640), (1, .ref 0), (2, .ref 22), (3, .ref 37), (4, .int (nI l4))], [.int (nI 0)])) (x1 := (C2183, M2196)) (fun _ => rfl) ?_
              exact xG.fin (fun _ => rfl) (⟨_, rfl, h⟩)
        · replace h := h.2 k2199
          refine xG.seg 1 (f' := (490, [(6, .int (nI r2189)), (5, .int (nI r2182)), (0, .ref 1048640), (1, .ref 0), (2, .ref 22), (3, .ref 37), (4, .int (nI l4))], [.int (nI 0)])) (x1 := (C2183, M2196)) (fun _ => rfl) ?_
          exact xG.fin (fun _ => rfl) (⟨_, rfl, h⟩)
      replace h := h.2 k2177
      by_cases k2204 : e2005 = 9
      · replace h := h.1 k2204
        refine xG.tsw (t := 511) rfl c2007 (by rw [k2204]; rfl) ?_
        refine xG.seg 5 (f' := (517, [(0, .ref 1048640), (1, .ref 0), (2, .ref 22), (3, .ref 37), (4, .int (nI l4))], [.int ((nI l4) + (nI 1)), .ref 1048640, .ref 0])) (x1 := (s.1, s.2)) (fun _ => rfl) ?_
        refine xG.conv (xe_add l4 1) ?_
        refine xG.eqf (f' := (517, [(0, .ref 1048640), (1, .ref 0), (2, .ref 22), (3, .ref 37), (4, .int (nI l4))], [.int (nI (l4 + 1)), .ref 1048640, .ref 0])) rfl ?_
        obtain ⟨c2205, h⟩ := h
        refine xG.cald rfl (Or.inl ⟨rfl, rfl⟩) (by decide) rfl hL c2205 ?_
        refine xG.eqf (f' := (518, [(0, .ref 1048640), (1, .ref 0), (2, .ref 22), (3, .ref 37), (4, .int (nI l4))], [.int (xs (l4 + 1)), .ref 0])) rfl ?_
        refine xG.seg 1 (f' := (519, [(0, .ref 1048640), (1, .ref 0), (2, .ref 22), (3, .ref 37), (4, .int (nI l4))], [.ref 37, .int (xs (l4 + 1)), .ref 0])) (x1 := (s.1, s.2)) (fun _ => rfl) ?_
        refine xG.call (d := d + 12) (vs := [.ref 0, .int (xs (l4 + 1)), .ref 37]) (g := (519, [(0, .ref 1048640), (1, .ref 0), (2, .ref 22), (3, .ref 37), (4, .int (nI l4))], [])) (fun _ => rfl) rfl (xG.liftC s.2 (p_L_count L xs (d + 5) (xs (l4 + 1)) s.1 _ h)) ?_
        clear h
        rintro _ ⟨C2209, M2210⟩ ⟨⟨r2208, rfl, h⟩, hz⟩
        have hz : s.2 = M2210 := hz.symm
        subst hz
        refine ⟨_, rfl, ?_⟩
        refine xG.eqf (f' := (522, [(0, .ref 1048640), (1, .ref 0), (2, .ref 22), (3, .ref 37), (4, .int (nI l4))], [.int (nI r2208)])) rfl ?_
        refine xG.seg 6 (f' := (530, [(5, .int (nI r2208)), (0, .ref 1048640), (1, .ref 0), (2, .ref 22), (3, .ref 37), (4, .int (nI l4))], [.int ((nI l4) + (nI 1)), .ref 1048640, .ref 22])) (x1 := (C2209, s.2)) (fun _ => rfl) ?_
        refine xG.conv (xe_add l4 1) ?_
        refine xG.eqf (f' := (530, [(5, .int (nI r2208)), (0, .ref 1048640), (1, .ref 0), (2, .ref 22), (3, .ref 37), (4, .int (nI l4))], [.int (nI (l4 + 1)), .ref 1048640, .ref 22])) rfl ?_
        obtain ⟨c2211, h⟩ := h
        refine xG.cald rfl (Or.inl ⟨rfl, rfl⟩) (by decide) rfl hL c2211 ?_
        refine xG.eqf (f' := (531, [(5, .int (nI r2208)), (0, .ref 1048640), (1, .ref 0), (2, .ref 22), (3, .ref 37), (4, .int (nI l4))], [.int (xs (l4 + 1)), .ref 22])) rfl ?_
        refine xG.call (d := d + 12) (vs := [.ref 22, .int (xs (l4 + 1))]) (g := (531, [(5, .int (nI r2208)), (0, .ref 1048640), (1, .ref 0), (2, .ref 22), (3, .ref 37), (4, .int (nI l4))], [])) (fun _ => rfl) rfl (xG.liftM C2209 (p_R_count L xs (d + 11) (xs (l4 + 1)) s.2 _ h)) ?_
        clear h
        rintro _ ⟨C2215, M2216⟩ ⟨⟨r2214, rfl, h⟩, hz⟩
        have hz : C2209 = C2215 := hz.symm
        subst hz
        refine ⟨_, rfl, ?_⟩
        refine xG.eqf (f' := (534, [(5, .int (nI r2208)), (0, .ref 1048640), (1, .ref 0), (2, .ref 22), (3, .ref 37), (4, .int (nI l4))], [.int (nI r2214)])) rfl ?_
        refine xG.seg 2 (f' := (537, [(6, .int (nI r2214)), (5, .int (nI r2208)), (0, .ref 1048640), (1, .ref 0), (2, .ref 22), (3, .ref 37), (4, .int (nI l4))], [.ref 22])) (x1 := (C2209, M2216)) (fun _ => rfl) ?_
        refine xG.call (d := d + 12) (vs := [.ref 22]) (g := (537, [(6, .int (nI r2214)), (5, .int (nI r2208)), (0, .ref 1048640), (1, .ref 0), (2, .ref 22), (3, .ref 37), (4, .int (nI l4))], [])) (fun _ => rfl) rfl (xG.liftM C2209 (p_R_thrown L xs (d + 12) M2216 _ h)) ?_
        clear h
        rintro _ ⟨C2220, M2221⟩ ⟨⟨r2219, rfl, h⟩, hz⟩
        have hz : C2209 = C2220 := hz.symm
        subst hz
        refine ⟨_, rfl, ?_⟩
        refine xG.eqf (f' := (540, [(6, .int (nI r2214)), (5, .int (nI r2208)), (0, .ref 1048640), (1, .ref 0), (2, .ref 22), (3, .ref 37), (4, .int (nI l4))], [.int (nI r2219)])) rfl ?_
        refine xG.seg 1 (f' := (542, [(6, .int (nI r2214)), (5, .int (nI r2208)), (0, .ref 1048640), (1, .ref 0), (2, .ref 22), (3, .ref 37), (4, .int (nI l4))], [.int (nI r2208), .int (nI r2219)])) (x1 := (C2209, M2221)) (fun _ => rfl) ?_
        obtain ⟨c2222, h⟩ := h
        obtain ⟨c2223, h⟩ := h
        refine xG.icmp (t := 547) (A := r2219 = r2208) rfl rfl (xe_c (xt_N c2222) (xt_N c2223) (by dsimp only; omega)) (fun k2224 => ?_) (fun k2224 => ?_)
        · replace h := h.1 k2224
          refine xG.seg 1 (f' := (549, [(6, .int (nI r2214)), (5, .int (nI r2208)), (0, .ref 1048640), (1, .ref 0), (2, .ref 22), (3, .ref 37), (4, .int (nI l4))], [.int (nI r2208)])) (x1 := (C2209, M2221)) (fun _ => rfl) ?_
          obtain ⟨c2225, h⟩ := h
          refine xG.ifc (t := 564) (A := ¬ (r2208 = 0)) rfl rfl (xe_c (xt_N c2225) (show (0 : Int32).toInt = 0 from by decide) (by dsimp only; omega)) (fun k2226 => ?_) (fun k2226 => ?_)
          · replace h := h.2 k2226
            refine xG.seg 1 (f' := (567, [(6, .int (nI r2214)), (5, .int (nI r2208)), (0, .ref 1048640), (1, .ref 0), (2, .ref 22), (3, .ref 37), (4, .int (nI l4))], [])) (x1 := (C2209, M2221)) (fun _ => rfl) ?_
            refine xG.iinc (v := (nI l4)) (w := (nI (l4 + 4))) rfl rfl (by decide) (xe_add l4 4) ?_
            refine xG.eqf (f' := (570, [(4, .int (nI (l4 + 4))), (6, .int (nI r2214)), (5, .int (nI r2208)), (0, .ref 1048640), (1, .ref 0), (2, .ref 22), (3, .ref 37)], [])) rfl ?_
            refine xG.seg 1 (f' := (23, [(4, .int (nI (l4 + 4))), (6, .int (nI r2214)), (5, .int (nI r2208)), (0, .ref 1048640), (1, .ref 0), (2, .ref 22), (3, .ref 37)], [])) (x1 := (C2209, M2221)) (fun _ => rfl) ?_
            refine xG.lv (lv := [(0, .ref 1048640), (1, .ref 0), (2, .ref 22), (3, .ref 37), (4, .int (nI (l4 + 4)))]) (lv' := [(4, .int (nI (l4 + 4))), (6, .int (nI r2214)), (5, .int (nI r2208)), (0, .ref 1048640), (1, .ref 0), (2, .ref 22), (3, .ref 37)]) rfl rfl rfl ?_
            exact hK (l4 + 4) (C2209, M2221) h
          · replace h := h.1 (Classical.not_not.mp k2226)
            refine xG.seg 2 (f' := (554, [(6, .int (nI r2214)), (5, .int (nI r2208)), (0, .ref 1048640), (1, .ref 0), (2, .ref 22), (3, .ref 37), (4, .int (nI l4))], [.int (nI 0), .ref 37])) (x1 := (C2209, M2221)) (fun _ => rfl) ?_
            obtain ⟨c2227, h⟩ := h
            refine xG.lald rfl (by decide) (fun _ => rfl) (by decide) c2227 ?_
            refine xG.eqf (f' := (555, [(6, .int (nI r2214)), (5, .int (nI r2208)), (0, .ref 1048640), (1, .ref 0), (2, .ref 22), (3, .ref 37), (4, .int (nI l4))], [.long (C2209.2.2.2.2.2.1 0)])) rfl ?_
            refine xG.seg 3 (f' := (559, [(6, .int (nI r2214)), (5, .int (nI r2208)), (0, .ref 1048640), (1, .ref 0), (2, .ref 22), (3, .ref 37), (4, .int (nI l4))], [.int (lg_cmp (C2209.2.2.2.2.2.1 0) ((nI r2214).toInt64))])) (x1 := (C2209, M2221)) (fun _ => rfl) ?_
            refine xG.ifc (t := 564) (A := (C2209.2.2.2.2.2.1 0) = ((nI r2214).toInt64)) rfl rfl (xe_lce _ _) (fun k2228 => ?_) (fun k2228 => ?_)
            · replace h := h.1 k2228
              refine xG.seg 1 (f' := (567, [(6, .int (nI r2214)), (5, .int (nI r2208)), (0, .ref 1048640), (1, .ref 0), (2, .ref 22), (3, .ref 37), (4, .int (nI l4))], [])) (x1 := (C2209, M2221)) (fun _ => rfl) ?_
              refine xG.iinc (v := (nI l4)) (w := (nI (l4 + 4))) rfl rfl (by decide) (xe_add l4 4) ?_
              refine xG.eqf (f' := (570, [(4, .int (nI (l4 + 4))), (6, .int (nI r2214)), (5, .int (nI r2208)), (0, .ref 1048640), (1, .ref 0), (2, .ref 22), (3, .ref 37)], [])) rfl ?_
              refine xG.seg 1 (f' := (23, [(4, .int (nI (l4 + 4))), (6, .int (nI r2214)), (5, .int (nI r2208)), (0, .ref 1048640), (1, .ref 0), (2, .ref 22), (3, .ref 37)], [])) (x1 := (C2209, M2221)) (fun _ => rfl) ?_
              refine xG.lv (lv := [(0, .ref 1048640), (1, .ref 0), (2, .ref 22), (3, .ref 37), (4, .int (nI (l4 + 4)))]) (lv' := [(4, .int (nI (l4 + 4))), (6, .int (nI r2214)), (5, .int (nI r2208)), (0, .ref 1048640), (1, .ref 0), (2, .ref 22), (3, .ref 37)]) rfl rfl rfl ?_
              exact hK (l4 + 4) (C2209, M2221) h
            · replace h := h.2 k2228
              refine xG.seg 1 (f' := (563, [(6, .int (nI r2214)), (5, .int (nI r2208)), (0, .ref 1048640), (1, .ref 0), (2, .ref 22), (3, .ref 37), (4, .int (nI l4))], [.int (nI 0)])) (x1 := (C2209, M2221)) (fun _ => rfl) ?_
              exact xG.fin (fun _ => rfl) (⟨_, rfl, h⟩)
        · replace h := h.2 k2224
          refine xG.seg 1 (f' := (546, [(6, .int (nI r2214)), (5, .int (nI r2208)), (0, .ref 1048640), (1, .ref 0), (2, .ref 22), (3, .ref 37), (4, .int (nI l4))], [.int (nI 0)])) (x1 := (C2209, M2221)) (fun _ => rfl) ?_
          exact xG.fin (fun _ => rfl) (⟨_, rfl, h⟩)
      replace h := h.2 k2204
      refine xG.tsw (t := 567) rfl c2007 (xtsw_d [0, 1, 2, 3, 4, 5, 6, 7, 8, 9] rfl (by decide) rfl (by decide) (by simp only [List.mem_cons, List.not_mem_nil, or_false]; omega)) ?_
      refine xG.iinc (v := (nI l4)) (w := (nI (l4 + 4))) rfl rfl (by decide) (xe_add l4 4) ?_
      refine xG.eqf (f' := (570, [(4, .int (nI (l4 + 4))), (0, .ref 1048640), (1, .ref 0), (2, .ref 22), (3, .ref 37)], [])) rfl ?_
      refine xG.seg 1 (f' := (23, [(4, .int (nI (l4 + 4))), (0, .ref 1048640), (1, .ref 0), (2, .ref 22), (3, .ref 37)], [])) (x1 := (s.1, s.2)) (fun _ => rfl) ?_
      refine xG.lv (lv := [(0, .ref 1048640), (1, .ref 0), (2, .ref 22), (3, .ref 37), (4, .int (nI (l4 + 4)))]) (lv' := [(4, .int (nI (l4 + 4))), (0, .ref 1048640), (1, .ref 0), (2, .ref 22), (3, .ref 37)]) rfl rfl rfl ?_
      exact hK (l4 + 4) (s.1, s.2) h

def w_L_law_23 (L : Nat) (xs : Nat → Int32) : Nat → Nat → (xC × xM) → (Nat → (xC × xM) → Prop) → Prop
  | 0, _, _, _ => False
  | n + 1, l4, C, Q => wi_L_law_23 L xs (fun l4 C => w_L_law_23 L xs n l4 C Q) l4 C Q
theorem p_L_law_23 (L : Nat) (xs : Nat → Int32) (hL : L ≤ 2147483648) (d : Nat) (Q : Nat → (xC × xM) → Prop) : ∀ (n : Nat) (l4 : Nat) (s : xC × xM), w_L_law_23 L xs n l4 s Q → xG xel (xgt L xs) (d + 13) xi_L_law (23, [(0, .ref 1048640), (1, .ref 0), (2, .ref 22), (3, .ref 37), (4, .int (nI l4))], []) s (xPN Q)
  | 0, _, _, h => by cases h
  | n + 1, l4, C, h => pi_L_law_23 L xs hL d Q (fun l4 C => w_L_law_23 L xs n l4 C Q) (fun l4 C h => p_L_law_23 L xs hL d Q n l4 C h) l4 C h

