/-! the other object: what must hold for a method to end well (w_), and that it then does (p_); written by a program from the instructions -/
def w_R_thrown (M : xM) (Q : Nat → xM → Prop) : Prop := Q (M.1 0) M
set_option maxRecDepth 8000 in
set_option maxHeartbeats 4000000 in
theorem p_R_thrown (L : Nat) (xs : Nat → Int32) (d : Nat) (M : xM) (Q : Nat → xM → Prop) (h : w_R_thrown M Q) : xG xem (xgt L xs) (d) xi_R_thrown (0, [(0, .ref 22)], []) M (xPN Q) := by
  unfold w_R_thrown at h
  refine xG.seg 2 (f' := (4, [(0, .ref 22)], [.int (nI (M.1 0))])) (x1 := M) (fun _ => rfl) ?_
  exact xG.fin (fun _ => rfl) (⟨_, rfl, h⟩)

def w_R_within_GNN (x1 : Int32) (x2 : Nat) (x3 : Nat) (M : xM) (Q : Nat → xM → Prop) : Prop := (x1 < 0 ∧ (x2 < 2147483648 ∧ Q 0 M))
set_option maxRecDepth 8000 in
set_option maxHeartbeats 4000000 in
theorem p_R_within_GNN (L : Nat) (xs : Nat → Int32) (d : Nat) (x1 : Int32) (x2 : Nat) (x3 : Nat) (M : xM) (Q : Nat → xM → Prop) (h : w_R_within_GNN x1 x2 x3 M Q) : xG xem (xgt L xs) (d) xi_R_within (0, [(0, .int x1), (1, .int (nI x2)), (2, .int (nI x3))], []) M (xPN Q) := by
  unfold w_R_within_GNN at h
  obtain ⟨g1, h⟩ := h
  refine xG.seg 2 (f' := (2, [(0, .int x1), (1, .int (nI x2)), (2, .int (nI x3))], [.int (nI x2), .int x1])) (x1 := M) (fun _ => rfl) ?_
  obtain ⟨c1, h⟩ := h
  refine xG.icmp (t := 14) rfl rfl (xe_ng g1 c1) (fun _ => ?_) (fun q => absurd (by decide) q)
  refine xG.eqf (f' := (14, [(0, .int x1), (1, .int (nI x2)), (2, .int (nI x3))], [])) rfl ?_
  refine xG.seg 1 (f' := (15, [(0, .int x1), (1, .int (nI x2)), (2, .int (nI x3))], [.int (nI 0)])) (x1 := M) (fun _ => rfl) ?_
  exact xG.fin (fun _ => rfl) (⟨_, rfl, h⟩)

def w_R_fail (x1 : Nat) (M : xM) (Q : Nat → xM → Prop) : Prop := Q 0 (dN M 0 x1)
set_option maxRecDepth 8000 in
set_option maxHeartbeats 4000000 in
theorem p_R_fail (L : Nat) (xs : Nat → Int32) (d : Nat) (x1 : Nat) (M : xM) (Q : Nat → xM → Prop) (h : w_R_fail x1 M Q) : xG xem (xgt L xs) (d) xi_R_fail (0, [(0, .ref 22), (1, .int (nI x1))], []) M (xPN Q) := by
  unfold w_R_fail at h
  refine xG.seg 4 (f' := (6, [(0, .ref 22), (1, .int (nI x1))], [.int (nI 0)])) (x1 := (dN M 0 x1)) (fun _ => rfl) ?_
  exact xG.fin (fun _ => rfl) (⟨_, rfl, h⟩)

def w_R_within_NNN (x1 : Nat) (x2 : Nat) (x3 : Nat) (M : xM) (Q : Nat → xM → Prop) : Prop := (x1 < 2147483648 ∧ (x2 < 2147483648 ∧ ((x1 < x2 → Q 0 M) ∧ (¬ (x1 < x2) → (x1 < 2147483648 ∧ (x3 < 2147483648 ∧ ((x3 < x1 → Q 0 M) ∧ (¬ (x3 < x1) → Q 1 M))))))))
set_option maxRecDepth 8000 in
set_option maxHeartbeats 4000000 in
theorem p_R_within_NNN (L : Nat) (xs : Nat → Int32) (d : Nat) (x1 : Nat) (x2 : Nat) (x3 : Nat) (M : xM) (Q : Nat → xM → Prop) (h : w_R_within_NNN x1 x2 x3 M Q) : xG xem (xgt L xs) (d) xi_R_within (0, [(0, .int (nI x1)), (1, .int (nI x2)), (2, .int (nI x3))], []) M (xPN Q) := by
  unfold w_R_within_NNN at h
  refine xG.seg 2 (f' := (2, [(0, .int (nI x1)), (1, .int (nI x2)), (2, .int (nI x3))], [.int (nI x2), .int (nI x1)])) (x1 := M) (fun _ => rfl) ?_
  obtain ⟨c1, h⟩ := h
  obtain ⟨c2, h⟩ := h
  refine xG.icmp (t := 14) (A := x1 < x2) rfl rfl (xe_c (xt_N c1) (xt_N c2) (by dsimp only; omega)) (fun k3 => ?_) (fun k3 => ?_)
  · replace h := h.1 k3
    refine xG.seg 1 (f' := (15, [(0, .int (nI x1)), (1, .int (nI x2)), (2, .int (nI x3))], [.int (nI 0)])) (x1 := M) (fun _ => rfl) ?_
    exact xG.fin (fun _ => rfl) (⟨_, rfl, h⟩)
  · replace h := h.2 k3
    refine xG.seg 2 (f' := (7, [(0, .int (nI x1)), (1, .int (nI x2)), (2, .int (nI x3))], [.int (nI x3), .int (nI x1)])) (x1 := M) (fun _ => rfl) ?_
    obtain ⟨c4, h⟩ := h
    obtain ⟨c5, h⟩ := h
    refine xG.icmp (t := 14) (A := x3 < x1) rfl rfl (xe_c (xt_N c4) (xt_N c5) (by dsimp only; omega)) (fun k6 => ?_) (fun k6 => ?_)
    · replace h := h.1 k6
      refine xG.seg 1 (f' := (15, [(0, .int (nI x1)), (1, .int (nI x2)), (2, .int (nI x3))], [.int (nI 0)])) (x1 := M) (fun _ => rfl) ?_
      exact xG.fin (fun _ => rfl) (⟨_, rfl, h⟩)
    · replace h := h.2 k6
      refine xG.seg 2 (f' := (15, [(0, .int (nI x1)), (1, .int (nI x2)), (2, .int (nI x3))], [.int (nI 1)])) (x1 := M) (fun _ => rfl) ?_
      exact xG.fin (fun _ => rfl) (⟨_, rfl, h⟩)

def w_R_within_INN (x1 : Int32) (x2 : Nat) (x3 : Nat) (M : xM) (Q : Nat → xM → Prop) : Prop := (x2 < 2147483648 ∧ ((x1 < 0 → Q 0 M) ∧ (∀ e1 : Nat, x1 = nI e1 → e1 < 2147483648 → (e1 < 2147483648 ∧ (x2 < 2147483648 ∧ ((e1 < x2 → Q 0 M) ∧ (¬ (e1 < x2) → (e1 < 2147483648 ∧ (x3 < 2147483648 ∧ ((x3 < e1 → Q 0 M) ∧ (¬ (x3 < e1) → Q 1 M)))))))))))
set_option maxRecDepth 8000 in
set_option maxHeartbeats 4000000 in
theorem p_R_within_INN (L : Nat) (xs : Nat → Int32) (d : Nat) (x1 : Int32) (x2 : Nat) (x3 : Nat) (M : xM) (Q : Nat → xM → Prop) (h : w_R_within_INN x1 x2 x3 M Q) : xG xem (xgt L xs) (d) xi_R_within (0, [(0, .int x1), (1, .int (nI x2)), (2, .int (nI x3))], []) M (xPN Q) := by
  unfold w_R_within_INN at h
  refine xG.seg 2 (f' := (2, [(0, .int x1), (1, .int (nI x2)), (2, .int (nI x3))], [.int (nI x2), .int x1])) (x1 := M) (fun _ => rfl) ?_
  obtain ⟨c3, h⟩ := h
  rcases xe_sgn x1 with k2 | ⟨e1, k2, k2r⟩
  · replace h := h.1 k2
    refine xG.icmp (t := 14) rfl rfl (xe_ng k2 c3) (fun _ => ?_) (fun q => absurd (by decide) q)
    refine xG.seg 1 (f' := (15, [(0, .int x1), (1, .int (nI x2)), (2, .int (nI x3))], [.int (nI 0)])) (x1 := M) (fun _ => rfl) ?_
    exact xG.fin (fun _ => rfl) (⟨_, rfl, h⟩)
  · replace h := h.2 e1 k2 k2r
    subst k2
    obtain ⟨c4, h⟩ := h
    obtain ⟨c5, h⟩ := h
    refine xG.icmp (t := 14) (A := e1 < x2) rfl rfl (xe_c (xt_N c4) (xt_N c5) (by dsimp only; omega)) (fun k6 => ?_) (fun k6 => ?_)
    · replace h := h.1 k6
      refine xG.seg 1 (f' := (15, [(0, .int (nI e1)), (1, .int (nI x2)), (2, .int (nI x3))], [.int (nI 0)])) (x1 := M) (fun _ => rfl) ?_
      exact xG.fin (fun _ => rfl) (⟨_, rfl, h⟩)
    · replace h := h.2 k6
      refine xG.seg 2 (f' := (7, [(0, .int (nI e1)), (1, .int (nI x2)), (2, .int (nI x3))], [.int (nI x3), .int (nI e1)])) (x1 := M) (fun _ => rfl) ?_
      obtain ⟨c7, h⟩ := h
      obtain ⟨c8, h⟩ := h
      refine xG.icmp (t := 14) (A := x3 < e1) rfl rfl (xe_c (xt_N c7) (xt_N c8) (by dsimp only; omega)) (fun k9 => ?_) (fun k9 => ?_)
      · replace h := h.1 k9
        refine xG.seg 1 (f' := (15, [(0, .int (nI e1)), (1, .int (nI x2)), (2, .int (nI x3))], [.int (nI 0)])) (x1 := M) (fun _ => rfl) ?_
        exact xG.fin (fun _ => rfl) (⟨_, rfl, h⟩)
      · replace h := h.2 k9
        refine xG.seg 2 (f' := (15, [(0, .int (nI e1)), (1, .int (nI x2)), (2, .int (nI x3))], [.int (nI 1)])) (x1 := M) (fun _ => rfl) ?_
        exact xG.fin (fun _ => rfl) (⟨_, rfl, h⟩)

def wi_R_write_105 (K : Int64 → Nat → Nat → xM → Prop) (l1 : Int64) (l3 : Nat) (l5 : Nat) (M : xM) (Q : Nat → xM → Prop) : Prop := (l5 < 2147483648 ∧ (l3 < 2147483648 ∧ ((l3 ≤ l5 → Q (M.1 2 + l3) (dN M 2 (M.1 2 + l3))) ∧ (¬ (l3 ≤ l5) → (∃ e3004 : Nat, ((l1 >>> ((nI (8 * l5)).toInt64 &&& 63)) &&& ((255))).toInt32 = nI e3004 ∧ (M.1 2 + l5 < 160 ∧ K l1 l3 (l5 + 1) (dB M 0 (M.1 2 + l5) e3004)))))))
set_option maxRecDepth 8000 in
set_option maxHeartbeats 4000000 in
theorem pi_R_write_105 (L : Nat) (xs : Nat → Int32) (d : Nat) (Q : Nat → xM → Prop) (K : Int64 → Nat → Nat → xM → Prop) (hK : ∀ (l1 : Int64) (l3 : Nat) (l5 : Nat) (M : xM), K l1 l3 l5 M → xG xem (xgt L xs) (d + 1) xi_R_write (105, [(0, .ref 22), (1, .long l1), (3, .int (nI l3)), (5, .int (nI l5))], []) M (xPN Q)) (l1 : Int64) (l3 : Nat) (l5 : Nat) (M : xM) (h : wi_R_write_105 K l1 l3 l5 M Q) : xG xem (xgt L xs) (d + 1) xi_R_write (105, [(0, .ref 22), (1, .long l1), (3, .int (nI l3)), (5, .int (nI l5))], []) M (xPN Q) := by
  unfold wi_R_write_105 at h
  refine xG.seg 2 (f' := (108, [(0, .ref 22), (1, .long l1), (3, .int (nI l3)), (5, .int (nI l5))], [.int (nI l3), .int (nI l5)])) (x1 := M) (fun _ => rfl) ?_
  obtain ⟨c3001, h⟩ := h
  obtain ⟨c3002, h⟩ := h
  refine xG.icmp (t := 141) (A := l3 ≤ l5) rfl rfl (xe_c (xt_N c3001) (xt_N c3002) (by dsimp only; omega)) (fun k3003 => ?_) (fun k3003 => ?_)
  · replace h := h.1 k3003
    refine xG.seg 5 (f' := (148, [(0, .ref 22), (1, .long l1), (3, .int (nI l3)), (5, .int (nI l5))], [.int ((nI (M.1 2)) + (nI l3)), .ref 22])) (x1 := M) (fun _ => rfl) ?_
    refine xG.conv (xe_add (M.1 2) l3) ?_
    refine xG.eqf (f' := (148, [(0, .ref 22), (1, .long l1), (3, .int (nI l3)), (5, .int (nI l5))], [.int (nI (M.1 2 + l3)), .ref 22])) rfl ?_
    refine xG.seg 3 (f' := (155, [(0, .ref 22), (1, .long l1), (3, .int (nI l3)), (5, .int (nI l5))], [.int (nI (M.1 2 + l3))])) (x1 := (dN M 2 (M.1 2 + l3))) (fun _ => rfl) ?_
    exact xG.fin (fun _ => rfl) (⟨_, rfl, h⟩)
  · replace h := h.2 k3003
    refine xG.seg 6 (f' := (122, [(0, .ref 22), (1, .long l1), (3, .int (nI l3)), (5, .int (nI l5))], [.int ((nI (M.1 2)) + (nI l5)), .ref 23])) (x1 := M) (fun _ => rfl) ?_
    refine xG.conv (xe_add (M.1 2) l5) ?_
    refine xG.eqf (f' := (122, [(0, .ref 22), (1, .long l1), (3, .int (nI l3)), (5, .int (nI l5))], [.int (nI (M.1 2 + l5)), .ref 23])) rfl ?_
    refine xG.seg 4 (f' := (128, [(0, .ref 22), (1, .long l1), (3, .int (nI l3)), (5, .int (nI l5))], [.int ((nI 8) * (nI l5)), .long l1, .int (nI (M.1 2 + l5)), .ref 23])) (x1 := M) (fun _ => rfl) ?_
    refine xG.conv (xe_mul _ _) ?_
    refine xG.seg 4 (f' := (134, [(0, .ref 22), (1, .long l1), (3, .int (nI l3)), (5, .int (nI l5))], [.int (((l1 >>> ((nI (8 * l5)).toInt64 &&& 63)) &&& ((255))).toInt32), .int (nI (M.1 2 + l5)), .ref 23])) (x1 := M) (fun _ => rfl) ?_
    obtain ⟨e3004, c3005, h⟩ := h
    refine xG.conv (c3005) ?_
    obtain ⟨c3006, h⟩ := h
    refine xG.iast (x1 := (dB M 0 (M.1 2 + l5) e3004)) rfl (by decide) (fun _ => rfl) (by decide) c3006 (fun _ => by rw [xu_nI]; rfl) ?_
    refine xG.eqf (f' := (135, [(0, .ref 22), (1, .long l1), (3, .int (nI l3)), (5, .int (nI l5))], [])) rfl ?_
    refine xG.iinc (v := (nI l5)) (w := (nI (l5 + 1))) rfl rfl (by decide) (xe_add l5 1) ?_
    refine xG.eqf (f' := (138, [(5, .int (nI (l5 + 1))), (0, .ref 22), (1, .long l1), (3, .int (nI l3))], [])) rfl ?_
    refine xG.seg 1 (f' := (105, [(5, .int (nI (l5 + 1))), (0, .ref 22), (1, .long l1), (3, .int (nI l3))], [])) (x1 := (dB M 0 (M.1 2 + l5) e3004)) (fun _ => rfl) ?_
    refine xG.lv (lv := [(0, .ref 22), (1, .long l1), (3, .int (nI l3)), (5, .int (nI (l5 + 1)))]) (lv' := [(5, .int (nI (l5 + 1))), (0, .ref 22), (1, .long l1), (3, .int (nI l3))]) rfl rfl rfl ?_
    exact hK l1 l3 (l5 + 1) (dB M 0 (M.1 2 + l5) e3004) h

def w_R_write_105 : Nat → Int64 → Nat → Nat → (xM) → (Nat → xM → Prop) → Prop
  | 0, _, _, _, _, _ => False
  | n + 1, l1, l3, l5, C, Q => wi_R_write_105 (fun l1 l3 l5 C => w_R_write_105 n l1 l3 l5 C Q) l1 l3 l5 C Q
theorem p_R_write_105 (L : Nat) (xs : Nat → Int32) (d : Nat) (Q : Nat → xM → Prop) : ∀ (n : Nat) (l1 : Int64) (l3 : Nat) (l5 : Nat) (M : xM), w_R_write_105 n l1 l3 l5 M Q → xG xem (xgt L xs) (d + 1) xi_R_write (105, [(0, .ref 22), (1, .long l1), (3, .int (nI l3)), (5, .int (nI l5))], []) M (xPN Q)
  | 0, _, _, _, _, h => by cases h
  | n + 1, l1, l3, l5, C, h => pi_R_write_105 L xs d Q (fun l1 l3 l5 C => w_R_write_105 n l1 l3 l5 C Q) (fun l1 l3 l5 C h => p_R_write_105 L xs d Q n l1 l3 l5 C h) l1 l3 l5 C h

def wi_R_write_27 (K : Int64 → Nat → Nat → Nat → xM → Prop) (l1 : Int64) (l3 : Nat) (l4 : Nat) (l5 : Nat) (M : xM) (Q : Nat → xM → Prop) : Prop := (l5 < 2147483648 ∧ (l3 < 2147483648 ∧ ((l3 ≤ l5 → (l4 < 2147483648 ∧ ((l4 = 0 → w_R_fail 1 M (fun r2012 M2011 => Q r2012 M2011)) ∧ (¬ (l4 = 0) → (M.1 2 + l3 < 2147483648 ∧ ((M.1 2 + l3 ≤ 160 → ∃ fu2008 : Nat, w_R_write_105 fu2008 l1 l3 0 M Q) ∧ (¬ (M.1 2 + l3 ≤ 160) → w_R_fail 2 M (fun r2010 M2009 => Q r2010 M2009)))))))) ∧ (¬ (l3 ≤ l5) → (l4 < 2147483648 ∧ ((l4 = 0 → K l1 l3 0 (l5 + 1) M) ∧ (¬ (l4 = 0) → w_R_within_INN (((l1 >>> ((nI (8 * l5)).toInt64 &&& 63)) &&& ((255))).toInt32) 32 126 M (fun r2016 M2015 => (r2016 < 2147483648 ∧ ((r2016 = 0 → K l1 l3 0 (l5 + 1) M2015) ∧ (¬ (r2016 = 0) → K l1 l3 1 (l5 + 1) M2015)))))))))))
set_option maxRecDepth 8000 in
set_option maxHeartbeats 4000000 in
theorem pi_R_write_27 (L : Nat) (xs : Nat → Int32) (d : Nat) (Q : Nat → xM → Prop) (K : Int64 → Nat → Nat → Nat → xM → Prop) (hK : ∀ (l1 : Int64) (l3 : Nat) (l4 : Nat) (l5 : Nat) (M : xM), K l1 l3 l4 l5 M → xG xem (xgt L xs) (d + 1) xi_R_write (27, [(0, .ref 22), (1, .long l1), (3, .int (nI l3)), (4, .int (nI l4)), (5, .int (nI l5))], []) M (xPN Q)) (l1 : Int64) (l3 : Nat) (l4 : Nat) (l5 : Nat) (M : xM) (h : wi_R_write_27 K l1 l3 l4 l5 M Q) : xG xem (xgt L xs) (d + 1) xi_R_write (27, [(0, .ref 22), (1, .long l1), (3, .int (nI l3)), (4, .int (nI l4)), (5, .int (nI l5))], []) M (xPN Q) := by
  unfold wi_R_write_27 at h
  refine xG.seg 2 (f' := (30, [(0, .ref 22), (1, .long l1), (3, .int (nI l3)), (4, .int (nI l4)), (5, .int (nI l5))], [.int (nI l3), .int (nI l5)])) (x1 := M) (fun _ => rfl) ?_
  obtain ⟨c2001, h⟩ := h
  obtain ⟨c2002, h⟩ := h
  refine xG.icmp (t := 73) (A := l3 ≤ l5) rfl rfl (xe_c (xt_N c2001) (xt_N c2002) (by dsimp only; omega)) (fun k2003 => ?_) (fun k2003 => ?_)
  · replace h := h.1 k2003
    refine xG.seg 1 (f' := (75, [(0, .ref 22), (1, .long l1), (3, .int (nI l3)), (4, .int (nI l4)), (5, .int (nI l5))], [.int (nI l4)])) (x1 := M) (fun _ => rfl) ?_
    obtain ⟨c2004, h⟩ := h
    refine xG.ifc (t := 84) (A := ¬ (l4 = 0)) rfl rfl (xe_c (xt_N c2004) (show (0 : Int32).toInt = 0 from by decide) (by dsimp only; omega)) (fun k2005 => ?_) (fun k2005 => ?_)
    · replace h := h.2 k2005
      refine xG.seg 4 (f' := (90, [(0, .ref 22), (1, .long l1), (3, .int (nI l3)), (4, .int (nI l4)), (5, .int (nI l5))], [.int ((nI (M.1 2)) + (nI l3))])) (x1 := M) (fun _ => rfl) ?_
      refine xG.conv (xe_add (M.1 2) l3) ?_
      refine xG.eqf (f' := (90, [(0, .ref 22), (1, .long l1), (3, .int (nI l3)), (4, .int (nI l4)), (5, .int (nI l5))], [.int (nI (M.1 2 + l3))])) rfl ?_
      refine xG.seg 1 (f' := (93, [(0, .ref 22), (1, .long l1), (3, .int (nI l3)), (4, .int (nI l4)), (5, .int (nI l5))], [.int (nI 160), .int (nI (M.1 2 + l3))])) (x1 := M) (fun _ => rfl) ?_
      obtain ⟨c2006, h⟩ := h
      refine xG.icmp (t := 102) (A := M.1 2 + l3 ≤ 160) rfl rfl (xe_c (xt_N c2006) (show ((nI 160) : Int32).toInt = 160 from by decide) (by dsimp only; omega)) (fun k2007 => ?_) (fun k2007 => ?_)
      · replace h := h.1 k2007
        refine xG.seg 2 (f' := (105, [(5, .int (nI 0)), (0, .ref 22), (1, .long l1), (3, .int (nI l3)), (4, .int (nI l4))], [])) (x1 := M) (fun _ => rfl) ?_
        refine xG.lv (lv := [(0, .ref 22), (1, .long l1), (3, .int (nI l3)), (5, .int (nI 0))]) (lv' := [(5, .int (nI 0)), (0, .ref 22), (1, .long l1), (3, .int (nI l3)), (4, .int (nI l4))]) rfl rfl rfl ?_
        obtain ⟨fu2008, h⟩ := h
        exact p_R_write_105 L xs d Q fu2008 l1 l3 0 M h
      · replace h := h.2 k2007
        refine xG.seg 2 (f' := (98, [(0, .ref 22), (1, .long l1), (3, .int (nI l3)), (4, .int (nI l4)), (5, .int (nI l5))], [.int (nI 2), .ref 22])) (x1 := M) (fun _ => rfl) ?_
        refine xG.call (d := d) (vs := [.ref 22, .int (nI 2)]) (g := (98, [(0, .ref 22), (1, .long l1), (3, .int (nI l3)), (4, .int (nI l4)), (5, .int (nI l5))], [])) (fun _ => rfl) rfl (p_R_fail L xs d 2 M _ h) ?_
        clear h
        rintro _ M2009 ⟨r2010, rfl, h⟩
        refine ⟨_, rfl, ?_⟩
        refine xG.eqf (f' := (101, [(0, .ref 22), (1, .long l1), (3, .int (nI l3)), (4, .int (nI l4)), (5, .int (nI l5))], [.int (nI r2010)])) rfl ?_
        exact xG.fin (fun _ => rfl) (⟨_, rfl, h⟩)
    · replace h := h.1 (Classical.not_not.mp k2005)
      refine xG.seg 2 (f' := (80, [(0, .ref 22), (1, .long l1), (3, .int (nI l3)), (4, .int (nI l4)), (5, .int (nI l5))], [.int (nI 1), .ref 22])) (x1 := M) (fun _ => rfl) ?_
      refine xG.call (d := d) (vs := [.ref 22, .int (nI 1)]) (g := (80, [(0, .ref 22), (1, .long l1), (3, .int (nI l3)), (4, .int (nI l4)), (5, .int (nI l5))], [])) (fun _ => rfl) rfl (p_R_fail L xs d 1 M _ h) ?_
      clear h
      rintro _ M2011 ⟨r2012, rfl, h⟩
      refine ⟨_, rfl, ?_⟩
      refine xG.eqf (f' := (83, [(0, .ref 22), (1, .long l1), (3, .int (nI l3)), (4, .int (nI l4)), (5, .int (nI l5))], [.int (nI r2012)])) rfl ?_
      exact xG.fin (fun _ => rfl) (⟨_, rfl, h⟩)
  · replace h := h.2 k2003
    refine xG.seg 1 (f' := (35, [(0, .ref 22), (1, .long l1), (3, .int (nI l3)), (4, .int (nI l4)), (5, .int (nI l5))], [.int (nI l4)])) (x1 := M) (fun _ => rfl) ?_
    obtain ⟨c2013, h⟩ := h
    refine xG.ifc (t := 64) (A := l4 = 0) rfl rfl (xe_c (xt_N c2013) (show (0 : Int32).toInt = 0 from by decide) (by dsimp only; omega)) (fun k2014 => ?_) (fun k2014 => ?_)
    · replace h := h.1 k2014
      refine xG.seg 2 (f' := (67, [(4, .int (nI 0)), (0, .ref 22), (1, .long l1), (3, .int (nI l3)), (5, .int (nI l5))], [])) (x1 := M) (fun _ => rfl) ?_
      refine xG.iinc (v := (nI l5)) (w := (nI (l5 + 1))) rfl rfl (by decide) (xe_add l5 1) ?_
      refine xG.eqf (f' := (70, [(5, .int (nI (l5 + 1))), (4, .int (nI 0)), (0, .ref 22), (1, .long l1), (3, .int (nI l3))], [])) rfl ?_
      refine xG.seg 1 (f' := (27, [(5, .int (nI (l5 + 1))), (4, .int (nI 0)), (0, .ref 22), (1, .long l1), (3, .int (nI l3))], [])) (x1 := M) (fun _ => rfl) ?_
      refine xG.lv (lv := [(0, .ref 22), (1, .long l1), (3, .int (nI l3)), (4, .int (nI 0)), (5, .int (nI (l5 + 1)))]) (lv' := [(5, .int (nI (l5 + 1))), (4, .int (nI 0)), (0, .ref 22), (1, .long l1), (3, .int (nI l3))]) rfl rfl rfl ?_
      exact hK l1 l3 0 (l5 + 1) M h
    · replace h := h.2 k2014
      refine xG.seg 4 (f' := (44, [(0, .ref 22), (1, .long l1), (3, .int (nI l3)), (4, .int (nI l4)), (5, .int (nI l5))], [.int ((nI 8) * (nI l5)), .long l1])) (x1 := M) (fun _ => rfl) ?_
      refine xG.conv (xe_mul _ _) ?_
      refine xG.seg 6 (f' := (54, [(0, .ref 22), (1, .long l1), (3, .int (nI l3)), (4, .int (nI l4)), (5, .int (nI l5))], [.int (nI 126), .int (nI 32), .int (((l1 >>> ((nI (8 * l5)).toInt64 &&& 63)) &&& ((255))).toInt32)])) (x1 := M) (fun _ => rfl) ?_
      refine xG.call (d := d) (vs := [.int (((l1 >>> ((nI (8 * l5)).toInt64 &&& 63)) &&& ((255))).toInt32), .int (nI 32), .int (nI 126)]) (g := (54, [(0, .ref 22), (1, .long l1), (3, .int (nI l3)), (4, .int (nI l4)), (5, .int (nI l5))], [])) (fun _ => rfl) rfl (p_R_within_INN L xs d (((l1 >>> ((nI (8 * l5)).toInt64 &&& 63)) &&& ((255))).toInt32) 32 126 M _ h) ?_
      clear h
      rintro _ M2015 ⟨r2016, rfl, h⟩
      refine ⟨_, rfl, ?_⟩
      refine xG.eqf (f' := (57, [(0, .ref 22), (1, .long l1), (3, .int (nI l3)), (4, .int (nI l4)), (5, .int (nI l5))], [.int (nI r2016)])) rfl ?_
      obtain ⟨c2017, h⟩ := h
      refine xG.ifc (t := 64) (A := r2016 = 0) rfl rfl (xe_c (xt_N c2017) (show (0 : Int32).toInt = 0 from by decide) (by dsimp only; omega)) (fun k2018 => ?_) (fun k2018 => ?_)
      · replace h := h.1 k2018
        refine xG.seg 2 (f' := (67, [(4, .int (nI 0)), (0, .ref 22), (1, .long l1), (3, .int (nI l3)), (5, .int (nI l5))], [])) (x1 := M2015) (fun _ => rfl) ?_
        refine xG.iinc (v := (nI l5)) (w := (nI (l5 + 1))) rfl rfl (by decide) (xe_add l5 1) ?_
        refine xG.eqf (f' := (70, [(5, .int (nI (l5 + 1))), (4, .int (nI 0)), (0, .ref 22), (1, .long l1), (3, .int (nI l3))], [])) rfl ?_
        refine xG.seg 1 (f' := (27, [(5, .int (nI (l5 + 1))), (4, .int (nI 0)), (0, .ref 22), (1, .long l1), (3, .int (nI l3))], [])) (x1 := M2015) (fun _ => rfl) ?_
        refine xG.lv (lv := [(0, .ref 22), (1, .long l1), (3, .int (nI l3)), (4, .int (nI 0)), (5, .int (nI (l5 + 1)))]) (lv' := [(5, .int (nI (l5 + 1))), (4, .int (nI 0)), (0, .ref 22), (1, .long l1), (3, .int (nI l3))]) rfl rfl rfl ?_
        exact hK l1 l3 0 (l5 + 1) M2015 h
      · replace h := h.2 k2018
        refine xG.seg 3 (f' := (67, [(4, .int (nI 1)), (0, .ref 22), (1, .long l1), (3, .int (nI l3)), (5, .int (nI l5))], [])) (x1 := M2015) (fun _ => rfl) ?_
        refine xG.iinc (v := (nI l5)) (w := (nI (l5 + 1))) rfl rfl (by decide) (xe_add l5 1) ?_
        refine xG.eqf (f' := (70, [(5, .int (nI (l5 + 1))), (4, .int (nI 1)), (0, .ref 22), (1, .long l1), (3, .int (nI l3))], [])) rfl ?_
        refine xG.seg 1 (f' := (27, [(5, .int (nI (l5 + 1))), (4, .int (nI 1)), (0, .ref 22), (1, .long l1), (3, .int (nI l3))], [])) (x1 := M2015) (fun _ => rfl) ?_
        refine xG.lv (lv := [(0, .ref 22), (1, .long l1), (3, .int (nI l3)), (4, .int (nI 1)), (5, .int (nI (l5 + 1)))]) (lv' := [(5, .int (nI (l5 + 1))), (4, .int (nI 1)), (0, .ref 22), (1, .long l1), (3, .int (nI l3))]) rfl rfl rfl ?_
        exact hK l1 l3 1 (l5 + 1) M2015 h

def w_R_write_27 : Nat → Int64 → Nat → Nat → Nat → (xM) → (Nat → xM → Prop) → Prop
  | 0, _, _, _, _, _, _ => False
  | n + 1, l1, l3, l4, l5, C, Q => wi_R_write_27 (fun l1 l3 l4 l5 C => w_R_write_27 n l1 l3 l4 l5 C Q) l1 l3 l4 l5 C Q
theorem p_R_write_27 (L : Nat) (xs : Nat → Int32) (d : Nat) (Q : Nat → xM → Prop) : ∀ (n : Nat) (l1 : Int64) (l3 : Nat) (l4 : Nat) (l5 : Nat) (M : xM), w_R_write_27 n l1 l3 l4 l5 M Q → xG xem (xgt L xs) (d + 1) xi_R_write (27, [(0, .ref 22), (1, .long l1), (3, .int (nI l3)), (4, .int (nI l4)), (5, .int (nI l5))], []) M (xPN Q)
  | 0, _, _, _, _, _, h => by cases h
  | n + 1, l1, l3, l4, l5, C, h => pi_R_write_27 L xs d Q (fun l1 l3 l4 l5 C => w_R_write_27 n l1 l3 l4 l5 C Q) (fun l1 l3 l4 l5 C h => p_R_write_27 L xs d Q n l1 l3 l4 l5 C h) l1 l3 l4 l5 C h

def w_R_write (x1 : Int64) (x2 : Int32) (M : xM) (Q : Nat → xM → Prop) : Prop := ((x2 < 0 → w_R_within_GNN x2 1 8 (dN M 0 0) (fun r4 M3 => (r4 < 2147483648 ∧ ((r4 = 0 → w_R_fail 1 M3 (fun r8 M7 => Q r8 M7)) ∧ (¬ (r4 = 0) → False))))) ∧ (∀ e1 : Nat, x2 = nI e1 → e1 < 2147483648 → w_R_within_NNN e1 1 8 (dN M 0 0) (fun r10 M9 => (r10 < 2147483648 ∧ ((r10 = 0 → w_R_fail 1 M9 (fun r15 M14 => Q r15 M14)) ∧ (¬ (r10 = 0) → ∃ fu13 : Nat, w_R_write_27 fu13 x1 e1 1 0 M9 Q))))))
set_option maxRecDepth 8000 in
set_option maxHeartbeats 4000000 in
theorem p_R_write (L : Nat) (xs : Nat → Int32) (d : Nat) (x1 : Int64) (x2 : Int32) (M : xM) (Q : Nat → xM → Prop) (h : w_R_write x1 x2 M Q) : xG xem (xgt L xs) (d + 1) xi_R_write (0, [(0, .ref 22), (1, .long x1), (3, .int x2)], []) M (xPN Q) := by
  unfold w_R_write at h
  rcases xe_sgn x2 with k2 | ⟨e1, k2, k2r⟩
  · replace h := h.1 k2
    refine xG.seg 6 (f' := (9, [(0, .ref 22), (1, .long x1), (3, .int x2)], [.int (nI 8), .int (nI 1), .int x2])) (x1 := (dN M 0 0)) (fun _ => rfl) ?_
    refine xG.call (d := d) (vs := [.int x2, .int (nI 1), .int (nI 8)]) (g := (9, [(0, .ref 22), (1, .long x1), (3, .int x2)], [])) (fun _ => rfl) rfl (p_R_within_GNN L xs d x2 1 8 (dN M 0 0) _ h) ?_
    clear h
    rintro _ M3 ⟨r4, rfl, h⟩
    refine ⟨_, rfl, ?_⟩
    refine xG.eqf (f' := (12, [(0, .ref 22), (1, .long x1), (3, .int x2)], [.int (nI r4)])) rfl ?_
    obtain ⟨c5, h⟩ := h
    refine xG.ifc (t := 21) (A := ¬ (r4 = 0)) rfl rfl (xe_c (xt_N c5) (show (0 : Int32).toInt = 0 from by decide) (by dsimp only; omega)) (fun k6 => ?_) (fun k6 => ?_)
    · replace h := h.2 k6
      refine xG.seg 4 (f' := (27, [(5, .int (nI 0)), (4, .int (nI 1)), (0, .ref 22), (1, .long x1), (3, .int x2)], [])) (x1 := M3) (fun _ => rfl) ?_
      exact h.elim
    · replace h := h.1 (Classical.not_not.mp k6)
      refine xG.seg 2 (f' := (17, [(0, .ref 22), (1, .long x1), (3, .int x2)], [.int (nI 1), .ref 22])) (x1 := M3) (fun _ => rfl) ?_
      refine xG.call (d := d) (vs := [.ref 22, .int (nI 1)]) (g := (17, [(0, .ref 22), (1, .long x1), (3, .int x2)], [])) (fun _ => rfl) rfl (p_R_fail L xs d 1 M3 _ h) ?_
      clear h
      rintro _ M7 ⟨r8, rfl, h⟩
      refine ⟨_, rfl, ?_⟩
      refine xG.eqf (f' := (20, [(0, .ref 22), (1, .long x1), (3, .int x2)], [.int (nI r8)])) rfl ?_
      exact xG.fin (fun _ => rfl) (⟨_, rfl, h⟩)
  · replace h := h.2 e1 k2 k2r
    subst k2
    refine xG.seg 6 (f' := (9, [(0, .ref 22), (1, .long x1), (3, .int (nI e1))], [.int (nI 8), .int (nI 1), .int (nI e1)])) (x1 := (dN M 0 0)) (fun _ => rfl) ?_
    refine xG.call (d := d) (vs := [.int (nI e1), .int (nI 1), .int (nI 8)]) (g := (9, [(0, .ref 22), (1, .long x1), (3, .int (nI e1))], [])) (fun _ => rfl) rfl (p_R_within_NNN L xs d e1 1 8 (dN M 0 0) _ h) ?_
    clear h
    rintro _ M9 ⟨r10, rfl, h⟩
    refine ⟨_, rfl, ?_⟩
    refine xG.eqf (f' := (12, [(0, .ref 22), (1, .long x1), (3, .int (nI e1))], [.int (nI r10)])) rfl ?_
    obtain ⟨c11, h⟩ := h
    refine xG.ifc (t := 21) (A := ¬ (r10 = 0)) rfl rfl (xe_c (xt_N c11) (show (0 : Int32).toInt = 0 from by decide) (by dsimp only; omega)) (fun k12 => ?_) (fun k12 => ?_)
    · replace h := h.2 k12
      refine xG.seg 4 (f' := (27, [(5, .int (nI 0)), (4, .int (nI 1)), (0, .ref 22), (1, .long x1), (3, .int (nI e1))], [])) (x1 := M9) (fun _ => rfl) ?_
      refine xG.lv (lv := [(0, .ref 22), (1, .long x1), (3, .int (nI e1)), (4, .int (nI 1)), (5, .int (nI 0))]) (lv' := [(5, .int (nI 0)), (4, .int (nI 1)), (0, .ref 22), (1, .long x1), (3, .int (nI e1))]) rfl rfl rfl ?_
      obtain ⟨fu13, h⟩ := h
      exact p_R_write_27 L xs d Q fu13 x1 e1 1 0 M9 h
    · replace h := h.1 (Classical.not_not.mp k12)
      refine xG.seg 2 (f' := (17, [(0, .ref 22), (1, .long x1), (3, .int (nI e1))], [.int (nI 1), .ref 22])) (x1 := M9) (fun _ => rfl) ?_
      refine xG.call (d := d) (vs := [.ref 22, .int (nI 1)]) (g := (17, [(0, .ref 22), (1, .long x1), (3, .int (nI e1))], [])) (fun _ => rfl) rfl (p_R_fail L xs d 1 M9 _ h) ?_
      clear h
      rintro _ M14 ⟨r15, rfl, h⟩
      refine ⟨_, rfl, ?_⟩
      refine xG.eqf (f' := (20, [(0, .ref 22), (1, .long x1), (3, .int (nI e1))], [.int (nI r15)])) rfl ?_
      exact xG.fin (fun _ => rfl) (⟨_, rfl, h⟩)

def w_R_word_84 (K : xM → Prop) (M : xM) (Q : Nat → xM → Prop) : Prop := (M.1 16 ≤ M.1 3 ∧ (M.1 3 - (M.1 16) < 2147483648 ∧ ((M.1 3 - (M.1 16) ≤ 0 → Q 0 (dN M 17 (M.1 3 - (M.1 16)))) ∧ (¬ (M.1 3 - (M.1 16) ≤ 0) → Q 1 (dN M 17 (M.1 3 - (M.1 16)))))))
set_option maxRecDepth 8000 in
set_option maxHeartbeats 4000000 in
theorem p_R_word_84 (L : Nat) (xs : Nat → Int32) (d : Nat) (Q : Nat → xM → Prop) (K : xM → Prop) (hK : ∀ (M : xM), K M → xG xem (xgt L xs) (d) xi_R_word (46, [(0, .ref 22)], []) M (xPN Q)) (M : xM) (h : w_R_word_84 K M Q) : xG xem (xgt L xs) (d) xi_R_word (84, [(0, .ref 22)], []) M (xPN Q) := by
  unfold w_R_word_84 at h
  refine xG.seg 6 (f' := (94, [(0, .ref 22)], [.int (nI (M.1 3) - nI (M.1 16)), .ref 22])) (x1 := M) (fun _ => rfl) ?_
  obtain ⟨c4001, h⟩ := h
  refine xG.conv (xe_cut c4001) ?_
  refine xG.seg 3 (f' := (101, [(0, .ref 22)], [.int (nI (M.1 3 - (M.1 16)))])) (x1 := (dN M 17 (M.1 3 - (M.1 16)))) (fun _ => rfl) ?_
  obtain ⟨c4002, h⟩ := h
  refine xG.ifc (t := 108) (A := M.1 3 - (M.1 16) ≤ 0) rfl rfl (xe_c (xt_N c4002) (show (0 : Int32).toInt = 0 from by decide) (by dsimp only; omega)) (fun k4003 => ?_) (fun k4003 => ?_)
  · replace h := h.1 k4003
    refine xG.seg 1 (f' := (109, [(0, .ref 22)], [.int (nI 0)])) (x1 := (dN M 17 (M.1 3 - (M.1 16)))) (fun _ => rfl) ?_
    exact xG.fin (fun _ => rfl) (⟨_, rfl, h⟩)
  · replace h := h.2 k4003
    refine xG.seg 2 (f' := (109, [(0, .ref 22)], [.int (nI 1)])) (x1 := (dN M 17 (M.1 3 - (M.1 16)))) (fun _ => rfl) ?_
    exact xG.fin (fun _ => rfl) (⟨_, rfl, h⟩)

def wi_R_word_46 (K : xM → Prop) (M : xM) (Q : Nat → xM → Prop) : Prop := (M.1 3 < 2147483648 ∧ (M.1 2 < 2147483648 ∧ ((M.1 2 ≤ M.1 3 → w_R_word_84 K M Q) ∧ (¬ (M.1 2 ≤ M.1 3) → (M.1 3 < 160 ∧ (M.2.1 0 (M.1 3) < 2147483648 ∧ ((M.2.1 0 (M.1 3) = 32 → w_R_word_84 K M Q) ∧ (¬ (M.2.1 0 (M.1 3) = 32) → K (dN M 3 (M.1 3 + 1))))))))))
set_option maxRecDepth 8000 in
set_option maxHeartbeats 4000000 in
theorem pi_R_word_46 (L : Nat) (xs : Nat → Int32) (d : Nat) (Q : Nat → xM → Prop) (K : xM → Prop) (hK : ∀ (M : xM), K M → xG xem (xgt L xs) (d) xi_R_word (46, [(0, .ref 22)], []) M (xPN Q)) (M : xM) (h : wi_R_word_46 K M Q) : xG xem (xgt L xs) (d) xi_R_word (46, [(0, .ref 22)], []) M (xPN Q) := by
  unfold wi_R_word_46 at h
  refine xG.seg 4 (f' := (54, [(0, .ref 22)], [.int (nI (M.1 2)), .int (nI (M.1 3))])) (x1 := M) (fun _ => rfl) ?_
  obtain ⟨c3001, h⟩ := h
  obtain ⟨c3002, h⟩ := h
  refine xG.icmp (t := 84) (A := M.1 2 ≤ M.1 3) rfl rfl (xe_c (xt_N c3001) (xt_N c3002) (by dsimp only; omega)) (fun k3003 => ?_) (fun k3003 => ?_)
  · replace h := h.1 k3003
    refine xG.lv (lv := [(0, .ref 22)]) (lv' := [(0, .ref 22)]) rfl rfl rfl ?_
    exact p_R_word_84 L xs d Q K hK M h
  · replace h := h.2 k3003
    refine xG.seg 4 (f' := (65, [(0, .ref 22)], [.int (nI (M.1 3)), .ref 23])) (x1 := M) (fun _ => rfl) ?_
    obtain ⟨c3004, h⟩ := h
    refine xG.iald rfl (Or.inl ⟨rfl, rfl⟩) (by decide) (fun _ => rfl) (by decide) c3004 ?_
    refine xG.eqf (f' := (66, [(0, .ref 22)], [.int (nI (M.2.1 0 (M.1 3)))])) rfl ?_
    refine xG.seg 1 (f' := (68, [(0, .ref 22)], [.int (nI 32), .int (nI (M.2.1 0 (M.1 3)))])) (x1 := M) (fun _ => rfl) ?_
    obtain ⟨c3005, h⟩ := h
    refine xG.icmp (t := 84) (A := M.2.1 0 (M.1 3) = 32) rfl rfl (xe_c (xt_N c3005) (show ((nI 32) : Int32).toInt = 32 from by decide) (by dsimp only; omega)) (fun k3006 => ?_) (fun k3006 => ?_)
    · replace h := h.1 k3006
      refine xG.lv (lv := [(0, .ref 22)]) (lv' := [(0, .ref 22)]) rfl rfl rfl ?_
      exact p_R_word_84 L xs d Q K hK M h
    · replace h := h.2 k3006
      refine xG.seg 5 (f' := (78, [(0, .ref 22)], [.int ((nI (M.1 3)) + (nI 1)), .ref 22])) (x1 := M) (fun _ => rfl) ?_
      refine xG.conv (xe_add (M.1 3) 1) ?_
      refine xG.eqf (f' := (78, [(0, .ref 22)], [.int (nI (M.1 3 + 1)), .ref 22])) rfl ?_
      refine xG.seg 2 (f' := (46, [(0, .ref 22)], [])) (x1 := (dN M 3 (M.1 3 + 1))) (fun _ => rfl) ?_
      refine xG.lv (lv := [(0, .ref 22)]) (lv' := [(0, .ref 22)]) rfl rfl rfl ?_
      exact hK (dN M 3 (M.1 3 + 1)) h

def w_R_word_46 : Nat → (xM) → (Nat → xM → Prop) → Prop
  | 0, _, _ => False
  | n + 1, C, Q => wi_R_word_46 (fun C => w_R_word_46 n C Q) C Q
theorem p_R_word_46 (L : Nat) (xs : Nat → Int32) (d : Nat) (Q : Nat → xM → Prop) : ∀ (n : Nat) (M : xM), w_R_word_46 n M Q → xG xem (xgt L xs) (d) xi_R_word (46, [(0, .ref 22)], []) M (xPN Q)
  | 0, _, h => by cases h
  | n + 1, C, h => pi_R_word_46 L xs d Q (fun C => w_R_word_46 n C Q) (fun C h => p_R_word_46 L xs d Q n C h) C h

def wi_R_word_0 (K : xM → Prop) (M : xM) (Q : Nat → xM → Prop) : Prop := (M.1 3 < 2147483648 ∧ (M.1 2 < 2147483648 ∧ ((M.1 2 ≤ M.1 3 → ∃ fu2004 : Nat, w_R_word_46 fu2004 (dN M 16 (M.1 3)) Q) ∧ (¬ (M.1 2 ≤ M.1 3) → (M.1 3 < 160 ∧ (M.2.1 0 (M.1 3) < 2147483648 ∧ ((M.2.1 0 (M.1 3) = 32 → K (dN M 3 (M.1 3 + 1))) ∧ (¬ (M.2.1 0 (M.1 3) = 32) → ∃ fu2008 : Nat, w_R_word_46 fu2008 (dN M 16 (M.1 3)) Q))))))))
set_option maxRecDepth 8000 in
set_option maxHeartbeats 4000000 in
theorem pi_R_word_0 (L : Nat) (xs : Nat → Int32) (d : Nat) (Q : Nat → xM → Prop) (K : xM → Prop) (hK : ∀ (M : xM), K M → xG xem (xgt L xs) (d) xi_R_word (0, [(0, .ref 22)], []) M (xPN Q)) (M : xM) (h : wi_R_word_0 K M Q) : xG xem (xgt L xs) (d) xi_R_word (0, [(0, .ref 22)], []) M (xPN Q) := by
  unfold wi_R_word_0 at h
  refine xG.seg 4 (f' := (8, [(0, .ref 22)], [.int (nI (M.1 2)), .int (nI (M.1 3))])) (x1 := M) (fun _ => rfl) ?_
  obtain ⟨c2001, h⟩ := h
  obtain ⟨c2002, h⟩ := h
  refine xG.icmp (t := 38) (A := M.1 2 ≤ M.1 3) rfl rfl (xe_c (xt_N c2001) (xt_N c2002) (by dsimp only; omega)) (fun k2003 => ?_) (fun k2003 => ?_)
  · replace h := h.1 k2003
    refine xG.seg 4 (f' := (46, [(0, .ref 22)], [])) (x1 := (dN M 16 (M.1 3))) (fun _ => rfl) ?_
    refine xG.lv (lv := [(0, .ref 22)]) (lv' := [(0, .ref 22)]) rfl rfl rfl ?_
    obtain ⟨fu2004, h⟩ := h
    exact p_R_word_46 L xs d Q fu2004 (dN M 16 (M.1 3)) h
  · replace h := h.2 k2003
    refine xG.seg 4 (f' := (19, [(0, .ref 22)], [.int (nI (M.1 3)), .ref 23])) (x1 := M) (fun _ => rfl) ?_
    obtain ⟨c2005, h⟩ := h
    refine xG.iald rfl (Or.inl ⟨rfl, rfl⟩) (by decide) (fun _ => rfl) (by decide) c2005 ?_
    refine xG.eqf (f' := (20, [(0, .ref 22)], [.int (nI (M.2.1 0 (M.1 3)))])) rfl ?_
    refine xG.seg 1 (f' := (22, [(0, .ref 22)], [.int (nI 32), .int (nI (M.2.1 0 (M.1 3)))])) (x1 := M) (fun _ => rfl) ?_
    obtain ⟨c2006, h⟩ := h
    refine xG.icmp (t := 38) (A := ¬ (M.2.1 0 (M.1 3) = 32)) rfl rfl (xe_c (xt_N c2006) (show ((nI 32) : Int32).toInt = 32 from by decide) (by dsimp only; omega)) (fun k2007 => ?_) (fun k2007 => ?_)
    · replace h := h.2 k2007
      refine xG.seg 4 (f' := (46, [(0, .ref 22)], [])) (x1 := (dN M 16 (M.1 3))) (fun _ => rfl) ?_
      refine xG.lv (lv := [(0, .ref 22)]) (lv' := [(0, .ref 22)]) rfl rfl rfl ?_
      obtain ⟨fu2008, h⟩ := h
      exact p_R_word_46 L xs d Q fu2008 (dN M 16 (M.1 3)) h
    · replace h := h.1 (Classical.not_not.mp k2007)
      refine xG.seg 5 (f' := (32, [(0, .ref 22)], [.int ((nI (M.1 3)) + (nI 1)), .ref 22])) (x1 := M) (fun _ => rfl) ?_
      refine xG.conv (xe_add (M.1 3) 1) ?_
      refine xG.eqf (f' := (32, [(0, .ref 22)], [.int (nI (M.1 3 + 1)), .ref 22])) rfl ?_
      refine xG.seg 2 (f' := (0, [(0, .ref 22)], [])) (x1 := (dN M 3 (M.1 3 + 1))) (fun _ => rfl) ?_
      refine xG.lv (lv := [(0, .ref 22)]) (lv' := [(0, .ref 22)]) rfl rfl rfl ?_
      exact hK (dN M 3 (M.1 3 + 1)) h

def w_R_word_0 : Nat → (xM) → (Nat → xM → Prop) → Prop
  | 0, _, _ => False
  | n + 1, C, Q => wi_R_word_0 (fun C => w_R_word_0 n C Q) C Q
theorem p_R_word_0 (L : Nat) (xs : Nat → Int32) (d : Nat) (Q : Nat → xM → Prop) : ∀ (n : Nat) (M : xM), w_R_word_0 n M Q → xG xem (xgt L xs) (d) xi_R_word (0, [(0, .ref 22)], []) M (xPN Q)
  | 0, _, h => by cases h
  | n + 1, C, h => pi_R_word_0 L xs d Q (fun C => w_R_word_0 n C Q) (fun C h => p_R_word_0 L xs d Q n C h) C h

def w_R_word (M : xM) (Q : Nat → xM → Prop) : Prop := ∃ fu1 : Nat, w_R_word_0 fu1 M Q
set_option maxRecDepth 8000 in
set_option maxHeartbeats 4000000 in
theorem p_R_word (L : Nat) (xs : Nat → Int32) (d : Nat) (M : xM) (Q : Nat → xM → Prop) (h : w_R_word M Q) : xG xem (xgt L xs) (d) xi_R_word (0, [(0, .ref 22)], []) M (xPN Q) := by
  unfold w_R_word at h
  refine xG.lv (lv := [(0, .ref 22)]) (lv' := [(0, .ref 22)]) rfl rfl rfl ?_
  obtain ⟨fu1, h⟩ := h
  exact p_R_word_0 L xs d Q fu1 M h

def wi_R_packed_4 (K : Int64 → Nat → xM → Prop) (l1 : Int64) (l3 : Nat) (M : xM) (Q : Int64 → xM → Prop) : Prop := (l3 < 2147483648 ∧ (M.1 17 < 2147483648 ∧ ((M.1 17 ≤ l3 → Q l1 M) ∧ (¬ (M.1 17 ≤ l3) → (M.1 17 < 2147483648 ∧ ((8 < M.1 17 → Q l1 M) ∧ (¬ (8 < M.1 17) → (M.1 16 + l3 < 160 ∧ K ((l1 <<< ((nI 8).toInt64 &&& 63)) ||| ((nI (M.2.1 0 (M.1 16 + l3))).toInt64)) (l3 + 1) M))))))))
set_option maxRecDepth 8000 in
set_option maxHeartbeats 4000000 in
theorem pi_R_packed_4 (L : Nat) (xs : Nat → Int32) (d : Nat) (Q : Int64 → xM → Prop) (K : Int64 → Nat → xM → Prop) (hK : ∀ (l1 : Int64) (l3 : Nat) (M : xM), K l1 l3 M → xG xem (xgt L xs) (d) xi_R_packed (4, [(0, .ref 22), (1, .long l1), (3, .int (nI l3))], []) M (xPL Q)) (l1 : Int64) (l3 : Nat) (M : xM) (h : wi_R_packed_4 K l1 l3 M Q) : xG xem (xgt L xs) (d) xi_R_packed (4, [(0, .ref 22), (1, .long l1), (3, .int (nI l3))], []) M (xPL Q) := by
  unfold wi_R_packed_4 at h
  refine xG.seg 3 (f' := (9, [(0, .ref 22), (1, .long l1), (3, .int (nI l3))], [.int (nI (M.1 17)), .int (nI l3)])) (x1 := M) (fun _ => rfl) ?_
  obtain ⟨c2001, h⟩ := h
  obtain ⟨c2002, h⟩ := h
  refine xG.icmp (t := 45) (A := M.1 17 ≤ l3) rfl rfl (xe_c (xt_N c2001) (xt_N c2002) (by dsimp only; omega)) (fun k2003 => ?_) (fun k2003 => ?_)
  · replace h := h.1 k2003
    refine xG.seg 1 (f' := (46, [(0, .ref 22), (1, .long l1), (3, .int (nI l3))], [.long l1])) (x1 := M) (fun _ => rfl) ?_
    exact xG.fin (fun _ => rfl) (⟨_, rfl, h⟩)
  · replace h := h.2 k2003
    refine xG.seg 3 (f' := (18, [(0, .ref 22), (1, .long l1), (3, .int (nI l3))], [.int (nI 8), .int (nI (M.1 17))])) (x1 := M) (fun _ => rfl) ?_
    obtain ⟨c2004, h⟩ := h
    refine xG.icmp (t := 45) (A := 8 < M.1 17) rfl rfl (xe_c (xt_N c2004) (show ((nI 8) : Int32).toInt = 8 from by decide) (by dsimp only; omega)) (fun k2005 => ?_) (fun k2005 => ?_)
    · replace h := h.1 k2005
      refine xG.seg 1 (f' := (46, [(0, .ref 22), (1, .long l1), (3, .int (nI l3))], [.long l1])) (x1 := M) (fun _ => rfl) ?_
      exact xG.fin (fun _ => rfl) (⟨_, rfl, h⟩)
    · replace h := h.2 k2005
      refine xG.seg 9 (f' := (35, [(0, .ref 22), (1, .long l1), (3, .int (nI l3))], [.int ((nI (M.1 16)) + (nI l3)), .ref 23, .long (l1 <<< ((nI 8).toInt64 &&& 63))])) (x1 := M) (fun _ => rfl) ?_
      refine xG.conv (xe_add (M.1 16) l3) ?_
      refine xG.eqf (f' := (35, [(0, .ref 22), (1, .long l1), (3, .int (nI l3))], [.int (nI (M.1 16 + l3)), .ref 23, .long (l1 <<< ((nI 8).toInt64 &&& 63))])) rfl ?_
      obtain ⟨c2006, h⟩ := h
      refine xG.iald rfl (Or.inl ⟨rfl, rfl⟩) (by decide) (fun _ => rfl) (by decide) c2006 ?_
      refine xG.eqf (f' := (36, [(0, .ref 22), (1, .long l1), (3, .int (nI l3))], [.int (nI (M.2.1 0 (M.1 16 + l3))), .long (l1 <<< ((nI 8).toInt64 &&& 63))])) rfl ?_
      refine xG.seg 3 (f' := (39, [(1, .long ((l1 <<< ((nI 8).toInt64 &&& 63)) ||| ((nI (M.2.1 0 (M.1 16 + l3))).toInt64))), (0, .ref 22), (3, .int (nI l3))], [])) (x1 := M) (fun _ => rfl) ?_
      refine xG.iinc (v := (nI l3)) (w := (nI (l3 + 1))) rfl rfl (by decide) (xe_add l3 1) ?_
      refine xG.eqf (f' := (42, [(3, .int (nI (l3 + 1))), (1, .long ((l1 <<< ((nI 8).toInt64 &&& 63)) ||| ((nI (M.2.1 0 (M.1 16 + l3))).toInt64))), (0, .ref 22)], [])) rfl ?_
      refine xG.seg 1 (f' := (4, [(3, .int (nI (l3 + 1))), (1, .long ((l1 <<< ((nI 8).toInt64 &&& 63)) ||| ((nI (M.2.1 0 (M.1 16 + l3))).toInt64))), (0, .ref 22)], [])) (x1 := M) (fun _ => rfl) ?_
      refine xG.lv (lv := [(0, .ref 22), (1, .long ((l1 <<< ((nI 8).toInt64 &&& 63)) ||| ((nI (M.2.1 0 (M.1 16 + l3))).toInt64))), (3, .int (nI (l3 + 1)))]) (lv' := [(3, .int (nI (l3 + 1))), (1, .long ((l1 <<< ((nI 8).toInt64 &&& 63)) ||| ((nI (M.2.1 0 (M.1 16 + l3))).toInt64))), (0, .ref 22)]) rfl rfl rfl ?_
      exact hK ((l1 <<< ((nI 8).toInt64 &&& 63)) ||| ((nI (M.2.1 0 (M.1 16 + l3))).toInt64)) (l3 + 1) M h

def w_R_packed_4 : Nat → Int64 → Nat → (xM) → (Int64 → xM → Prop) → Prop
  | 0, _, _, _, _ => False
  | n + 1, l1, l3, C, Q => wi_R_packed_4 (fun l1 l3 C => w_R_packed_4 n l1 l3 C Q) l1 l3 C Q
theorem p_R_packed_4 (L : Nat) (xs : Nat → Int32) (d : Nat) (Q : Int64 → xM → Prop) : ∀ (n : Nat) (l1 : Int64) (l3 : Nat) (M : xM), w_R_packed_4 n l1 l3 M Q → xG xem (xgt L xs) (d) xi_R_packed (4, [(0, .ref 22), (1, .long l1), (3, .int (nI l3))], []) M (xPL Q)
  | 0, _, _, _, h => by cases h
  | n + 1, l1, l3, C, h => pi_R_packed_4 L xs d Q (fun l1 l3 C => w_R_packed_4 n l1 l3 C Q) (fun l1 l3 C h => p_R_packed_4 L xs d Q n l1 l3 C h) l1 l3 C h

def w_R_packed (M : xM) (Q : Int64 → xM → Prop) : Prop := ∃ fu1 : Nat, w_R_packed_4 fu1 ((Int64.ofNat 0)) 0 M Q
set_option maxRecDepth 8000 in
set_option maxHeartbeats 4000000 in
theorem p_R_packed (L : Nat) (xs : Nat → Int32) (d : Nat) (M : xM) (Q : Int64 → xM → Prop) (h : w_R_packed M Q) : xG xem (xgt L xs) (d) xi_R_packed (0, [(0, .ref 22)], []) M (xPL Q) := by
  unfold w_R_packed at h
  refine xG.seg 4 (f' := (4, [(3, .int (nI 0)), (1, .long ((Int64.ofNat 0))), (0, .ref 22)], [])) (x1 := M) (fun _ => rfl) ?_
  refine xG.lv (lv := [(0, .ref 22), (1, .long ((Int64.ofNat 0))), (3, .int (nI 0))]) (lv' := [(3, .int (nI 0)), (1, .long ((Int64.ofNat 0))), (0, .ref 22)]) rfl rfl rfl ?_
  obtain ⟨fu1, h⟩ := h
  exact p_R_packed_4 L xs d Q fu1 ((Int64.ofNat 0)) 0 M h

def wi_R_find_5 (K : Int64 → Nat → Nat → xM → Prop) (l1 : Int64) (l3 : Nat) (l4 : Nat) (M : xM) (Q : Nat → xM → Prop) : Prop := (l4 < 2147483648 ∧ (M.1 4 < 2147483648 ∧ ((M.1 4 ≤ l4 → Q l3 M) ∧ (¬ (M.1 4 ≤ l4) → (M.1 17 < 2147483648 ∧ ((7 < M.1 17 → Q l3 M) ∧ (¬ (7 < M.1 17) → (l4 < 41 ∧ (((M.2.2.2 l4) = l1 → K l1 (l4 + 1) (l4 + 1) M) ∧ (¬ ((M.2.2.2 l4) = l1) → K l1 l3 (l4 + 1) M))))))))))
set_option maxRecDepth 8000 in
set_option maxHeartbeats 4000000 in
theorem pi_R_find_5 (L : Nat) (xs : Nat → Int32) (d : Nat) (Q : Nat → xM → Prop) (K : Int64 → Nat → Nat → xM → Prop) (hK : ∀ (l1 : Int64) (l3 : Nat) (l4 : Nat) (M : xM), K l1 l3 l4 M → xG xem (xgt L xs) (d) xi_R_find (5, [(0, .ref 22), (1, .long l1), (3, .int (nI l3 - nI 1)), (4, .int (nI l4))], []) M (xPM Q)) (l1 : Int64) (l3 : Nat) (l4 : Nat) (M : xM) (h : wi_R_find_5 K l1 l3 l4 M Q) : xG xem (xgt L xs) (d) xi_R_find (5, [(0, .ref 22), (1, .long l1), (3, .int (nI l3 - nI 1)), (4, .int (nI l4))], []) M (xPM Q) := by
  unfold wi_R_find_5 at h
  refine xG.seg 3 (f' := (11, [(0, .ref 22), (1, .long l1), (3, .int (nI l3 - nI 1)), (4, .int (nI l4))], [.int (nI (M.1 4)), .int (nI l4)])) (x1 := M) (fun _ => rfl) ?_
  obtain ⟨c2001, h⟩ := h
  obtain ⟨c2002, h⟩ := h
  refine xG.icmp (t := 48) (A := M.1 4 ≤ l4) rfl rfl (xe_c (xt_N c2001) (xt_N c2002) (by dsimp only; omega)) (fun k2003 => ?_) (fun k2003 => ?_)
  · replace h := h.1 k2003
    refine xG.seg 1 (f' := (49, [(0, .ref 22), (1, .long l1), (3, .int (nI l3 - nI 1)), (4, .int (nI l4))], [.int (nI l3 - nI 1)])) (x1 := M) (fun _ => rfl) ?_
    exact xG.fin (fun _ => rfl) (⟨_, rfl, h⟩)
  · replace h := h.2 k2003
    refine xG.seg 3 (f' := (20, [(0, .ref 22), (1, .long l1), (3, .int (nI l3 - nI 1)), (4, .int (nI l4))], [.int (nI 7), .int (nI (M.1 17))])) (x1 := M) (fun _ => rfl) ?_
    obtain ⟨c2004, h⟩ := h
    refine xG.icmp (t := 48) (A := 7 < M.1 17) rfl rfl (xe_c (xt_N c2004) (show ((nI 7) : Int32).toInt = 7 from by decide) (by dsimp only; omega)) (fun k2005 => ?_) (fun k2005 => ?_)
    · replace h := h.1 k2005
      refine xG.seg 1 (f' := (49, [(0, .ref 22), (1, .long l1), (3, .int (nI l3 - nI 1)), (4, .int (nI l4))], [.int (nI l3 - nI 1)])) (x1 := M) (fun _ => rfl) ?_
      exact xG.fin (fun _ => rfl) (⟨_, rfl, h⟩)
    · replace h := h.2 k2005
      refine xG.seg 3 (f' := (29, [(0, .ref 22), (1, .long l1), (3, .int (nI l3 - nI 1)), (4, .int (nI l4))], [.int (nI l4), .ref 24])) (x1 := M) (fun _ => rfl) ?_
      obtain ⟨c2006, h⟩ := h
      refine xG.lald rfl (by decide) (fun _ => rfl) (by decide) c2006 ?_
      refine xG.eqf (f' := (30, [(0, .ref 22), (1, .long l1), (3, .int (nI l3 - nI 1)), (4, .int (nI l4))], [.long (M.2.2.2 l4)])) rfl ?_
      refine xG.seg 2 (f' := (32, [(0, .ref 22), (1, .long l1), (3, .int (nI l3 - nI 1)), (4, .int (nI l4))], [.int (lg_cmp (M.2.2.2 l4) l1)])) (x1 := M) (fun _ => rfl) ?_
      refine xG.ifc (t := 40) (A := ¬ ((M.2.2.2 l4) = l1)) rfl rfl (xe_lcn _ _) (fun k2007 => ?_) (fun k2007 => ?_)
      · replace h := h.2 k2007
        refine xG.seg 2 (f' := (42, [(3, .int (nI l3 - nI 1)), (0, .ref 22), (1, .long l1), (4, .int (nI l4))], [])) (x1 := M) (fun _ => rfl) ?_
        refine xG.iinc (v := (nI l4)) (w := (nI (l4 + 1))) rfl rfl (by decide) (xe_add l4 1) ?_
        refine xG.eqf (f' := (45, [(4, .int (nI (l4 + 1))), (3, .int (nI l3 - nI 1)), (0, .ref 22), (1, .long l1)], [])) rfl ?_
        refine xG.seg 1 (f' := (5, [(4, .int (nI (l4 + 1))), (3, .int (nI l3 - nI 1)), (0, .ref 22), (1, .long l1)], [])) (x1 := M) (fun _ => rfl) ?_
        refine xG.lv (lv := [(0, .ref 22), (1, .long l1), (3, .int (nI l3 - nI 1)), (4, .int (nI (l4 + 1)))]) (lv' := [(4, .int (nI (l4 + 1))), (3, .int (nI l3 - nI 1)), (0, .ref 22), (1, .long l1)]) rfl rfl rfl ?_
        exact hK l1 l3 (l4 + 1) M h
      · replace h := h.1 (Classical.not_not.mp k2007)
        refine xG.seg 3 (f' := (42, [(3, .int (nI l4)), (0, .ref 22), (1, .long l1), (4, .int (nI l4))], [])) (x1 := M) (fun _ => rfl) ?_
        refine xG.iinc (v := (nI l4)) (w := (nI (l4 + 1))) rfl rfl (by decide) (xe_add l4 1) ?_
        refine xG.eqf (f' := (45, [(4, .int (nI (l4 + 1))), (3, .int (nI l4)), (0, .ref 22), (1, .long l1)], [])) rfl ?_
        refine xG.seg 1 (f' := (5, [(4, .int (nI (l4 + 1))), (3, .int (nI l4)), (0, .ref 22), (1, .long l1)], [])) (x1 := M) (fun _ => rfl) ?_
        refine xG.eqf (f' := (5, [(4, .int (nI (l4 + 1))), (3, .int (nI (l4 + 1) - nI 1)), (0, .ref 22), (1, .long l1)], [])) (by rw [xe_up l4 1]) ?_
        refine xG.lv (lv := [(0, .ref 22), (1, .long l1), (3, .int (nI (l4 + 1) - nI 1)), (4, .int (nI (l4 + 1)))]) (lv' := [(4, .int (nI (l4 + 1))), (3, .int (nI (l4 + 1) - nI 1)), (0, .ref 22), (1, .long l1)]) rfl rfl rfl ?_
        exact hK l1 (l4 + 1) (l4 + 1) M h

def w_R_find_5 : Nat → Int64 → Nat → Nat → (xM) → (Nat → xM → Prop) → Prop
  | 0, _, _, _, _, _ => False
  | n + 1, l1, l3, l4, C, Q => wi_R_find_5 (fun l1 l3 l4 C => w_R_find_5 n l1 l3 l4 C Q) l1 l3 l4 C Q
theorem p_R_find_5 (L : Nat) (xs : Nat → Int32) (d : Nat) (Q : Nat → xM → Prop) : ∀ (n : Nat) (l1 : Int64) (l3 : Nat) (l4 : Nat) (M : xM), w_R_find_5 n l1 l3 l4 M Q → xG xem (xgt L xs) (d) xi_R_find (5, [(0, .ref 22), (1, .long l1), (3, .int (nI l3 - nI 1)), (4, .int (nI l4))], []) M (xPM Q)
  | 0, _, _, _, _, h => by cases h
  | n + 1, l1, l3, l4, C, h => pi_R_find_5 L xs d Q (fun l1 l3 l4 C => w_R_find_5 n l1 l3 l4 C Q) (fun l1 l3 l4 C h => p_R_find_5 L xs d Q n l1 l3 l4 C h) l1 l3 l4 C h

def w_R_find (x1 : Int64) (M : xM) (Q : Nat → xM → Prop) : Prop := ∃ fu1 : Nat, w_R_find_5 fu1 x1 0 0 M Q
set_option maxRecDepth 8000 in
set_option maxHeartbeats 4000000 in
theorem p_R_find (L : Nat) (xs : Nat → Int32) (d : Nat) (x1 : Int64) (M : xM) (Q : Nat → xM → Prop) (h : w_R_find x1 M Q) : xG xem (xgt L xs) (d) xi_R_find (0, [(0, .ref 22), (1, .long x1)], []) M (xPM Q) := by
  unfold w_R_find at h
  refine xG.seg 4 (f' := (5, [(4, .int (nI 0)), (3, .int (-1)), (0, .ref 22), (1, .long x1)], [])) (x1 := M) (fun _ => rfl) ?_
  refine xG.lv (lv := [(0, .ref 22), (1, .long x1), (3, .int (nI 0 - nI 1)), (4, .int (nI 0))]) (lv' := [(4, .int (nI 0)), (3, .int (nI 0 - nI 1)), (0, .ref 22), (1, .long x1)]) rfl rfl rfl ?_
  obtain ⟨fu1, h⟩ := h
  exact p_R_find_5 L xs d Q fu1 x1 0 0 M h

def w_R_builtIn (x1 : Int64) (M : xM) (Q : Nat → xM → Prop) : Prop := ((x1 = ((43)) → Q 2 M) ∧ (¬ (x1 = ((43))) → ((x1 = ((45)) → Q 3 M) ∧ (¬ (x1 = ((45))) → ((x1 = ((42)) → Q 4 M) ∧ (¬ (x1 = ((42))) → ((x1 = ((4279876)) → Q 5 M) ∧ (¬ (x1 = ((4279876))) → ((x1 = ((20306)) → Q 6 M) ∧ (¬ (x1 = ((20306))) → ((x1 = ((5787474)) → Q 7 M) ∧ (¬ (x1 = ((5787474))) → ((x1 = ((5065038)) → Q 8 M) ∧ (¬ (x1 = ((5065038))) → ((x1 = ((5063000)) → Q 9 M) ∧ (¬ (x1 = ((5063000))) → ((x1 = ((47)) → Q 10 M) ∧ (¬ (x1 = ((47))) → ((x1 = ((5066564)) → Q 11 M) ∧ (¬ (x1 = ((5066564))) → ((x1 = ((60)) → Q 12 M) ∧ (¬ (x1 = ((60))) → ((x1 = ((61)) → Q 13 M) ∧ (¬ (x1 = ((61))) → ((x1 = ((62)) → Q 14 M) ∧ (¬ (x1 = ((62))) → ((x1 = ((86059455173701)) → Q 15 M) ∧ (¬ (x1 = ((86059455173701))) → ((x1 = ((80600803660372)) → Q 16 M) ∧ (¬ (x1 = ((80600803660372))) → ((x1 = ((4276819)) → Q 17 M) ∧ (¬ (x1 = ((4276819))) → ((x1 = ((12587)) → Q 18 M) ∧ (¬ (x1 = ((12587))) → ((x1 = ((12349)) → Q 19 M) ∧ (¬ (x1 = ((12349))) → ((x1 = ((12348)) → Q 20 M) ∧ (¬ (x1 = ((12348))) → ((x1 = ((4478288)) → Q 21 M) ∧ (¬ (x1 = ((4478288))) → ((x1 = ((1146244944)) → Q 22 M) ∧ (¬ (x1 = ((1146244944))) → ((x1 = ((1398227280)) → Q 23 M) ∧ (¬ (x1 = ((1398227280))) → ((x1 = ((1331053906)) → Q 24 M) ∧ (¬ (x1 = ((1331053906))) → ((x1 = ((5394260)) → Q 25 M) ∧ (¬ (x1 = ((5394260))) → ((x1 = ((5130576)) → Q 26 M) ∧ (¬ (x1 = ((5130576))) → ((x1 = ((1414873931)) → Q 27 M) ∧ (¬ (x1 = ((1414873931))) → ((x1 = ((843339088)) → Q 28 M) ∧ (¬ (x1 = ((843339088))) → ((x1 = ((215894609744)) → Q 29 M) ∧ (¬ (x1 = ((215894609744))) → ((x1 = ((293220668488)) → Q 30 M) ∧ (¬ (x1 = ((293220668488))) → ((x1 = ((64)) → Q 31 M) ∧ (¬ (x1 = ((64))) → ((x1 = ((33)) → Q 32 M) ∧ (¬ (x1 = ((33))) → ((x1 = ((11041)) → Q 33 M) ∧ (¬ (x1 = ((11041))) → ((x1 = ((15954)) → Q 34 M) ∧ (¬ (x1 = ((15954))) → ((x1 = ((21054)) → Q 35 M) ∧ (¬ (x1 = ((21054))) → ((x1 = ((21056)) → Q 36 M) ∧ (¬ (x1 = ((21056))) → ((x1 = ((46)) → Q 37 M) ∧ (¬ (x1 = ((46))) → Q 0 M))))))))))))))))))))))))))))))))))))))))))))))))))))))))))))))))))))))))
set_option maxRecDepth 8000 in
set_option maxHeartbeats 4000000 in
theorem p_R_builtIn (L : Nat) (xs : Nat → Int32) (d : Nat) (x1 : Int64) (M : xM) (Q : Nat → xM → Prop) (h : w_R_builtIn x1 M Q) : xG xem (xgt L xs) (d) xi_R_builtIn (0, [(0, .long x1)], []) M (xPM Q) := by
  unfold w_R_builtIn at h
  refine xG.seg 3 (f' := (5, [(0, .long x1)], [.int (lg_cmp x1 ((43)))])) (x1 := M) (fun _ => rfl) ?_
  refine xG.ifc (t := 10) (A := ¬ (x1 = ((43)))) rfl rfl (xe_lcn _ _) (fun k1 => ?_) (fun k1 => ?_)
  · replace h := h.2 k1
    refine xG.seg 3 (f' := (15, [(0, .long x1)], [.int (lg_cmp x1 ((45)))])) (x1 := M) (fun _ => rfl) ?_
    refine xG.ifc (t := 20) (A := ¬ (x1 = ((45)))) rfl rfl (xe_lcn _ _) (fun k2 => ?_) (fun k2 => ?_)
    · replace h := h.2 k2
      refine xG.seg 3 (f' := (25, [(0, .long x1)], [.int (lg_cmp x1 ((42)))])) (x1 := M) (fun _ => rfl) ?_
      refine xG.ifc (t := 30) (A := ¬ (x1 = ((42)))) rfl rfl (xe_lcn _ _) (fun k3 => ?_) (fun k3 => ?_)
      · replace h := h.2 k3
        refine xG.seg 3 (f' := (35, [(0, .long x1)], [.int (lg_cmp x1 ((4279876)))])) (x1 := M) (fun _ => rfl) ?_
        refine xG.ifc (t := 40) (A := ¬ (x1 = ((4279876)))) rfl rfl (xe_lcn _ _) (fun k4 => ?_) (fun k4 => ?_)
        · replace h := h.2 k4
          refine xG.seg 3 (f' := (45, [(0, .long x1)], [.int (lg_cmp x1 ((20306)))])) (x1 := M) (fun _ => rfl) ?_
          refine xG.ifc (t := 50) (A := ¬ (x1 = ((20306)))) rfl rfl (xe_lcn _ _) (fun k5 => ?_) (fun k5 => ?_)
          · replace h := h.2 k5
            refine xG.seg 3 (f' := (55, [(0, .long x1)], [.int (lg_cmp x1 ((5787474)))])) (x1 := M) (fun _ => rfl) ?_
            refine xG.ifc (t := 61) (A := ¬ (x1 = ((5787474)))) rfl rfl (xe_lcn _ _) (fun k6 => ?_) (fun k6 => ?_)
            · replace h := h.2 k6
              refine xG.seg 3 (f' := (66, [(0, .long x1)], [.int (lg_cmp x1 ((5065038)))])) (x1 := M) (fun _ => rfl) ?_
              refine xG.ifc (t := 72) (A := ¬ (x1 = ((5065038)))) rfl rfl (xe_lcn _ _) (fun k7 => ?_) (fun k7 => ?_)
              · replace h := h.2 k7
                refine xG.seg 3 (f' := (77, [(0, .long x1)], [.int (lg_cmp x1 ((5063000)))])) (x1 := M) (fun _ => rfl) ?_
                refine xG.ifc (t := 83) (A := ¬ (x1 = ((5063000)))) rfl rfl (xe_lcn _ _) (fun k8 => ?_) (fun k8 => ?_)
                · replace h := h.2 k8
                  refine xG.seg 3 (f' := (88, [(0, .long x1)], [.int (lg_cmp x1 ((47)))])) (x1 := M) (fun _ => rfl) ?_
                  refine xG.ifc (t := 94) (A := ¬ (x1 = ((47)))) rfl rfl (xe_lcn _ _) (fun k9 => ?_) (fun k9 => ?_)
                  · replace h := h.2 k9
                    refine xG.seg 3 (f' := (99, [(0, .long x1)], [.int (lg_cmp x1 ((5066564)))])) (x1 := M) (fun _ => rfl) ?_
                    refine xG.ifc (t := 105) (A := ¬ (x1 = ((5066564)))) rfl rfl (xe_lcn _ _) (fun k10 => ?_) (fun k10 => ?_)
                    · replace h := h.2 k10
                      refine xG.seg 3 (f' := (110, [(0, .long x1)], [.int (lg_cmp x1 ((60)))])) (x1 := M) (fun _ => rfl) ?_
                      refine xG.ifc (t := 116) (A := ¬ (x1 = ((60)))) rfl rfl (xe_lcn _ _) (fun k11 => ?_) (fun k11 => ?_)
                      · replace h := h.2 k11
                        refine xG.seg 3 (f' := (121, [(0, .long x1)], [.int (lg_cmp x1 ((61)))])) (x1 := M) (fun _ => rfl) ?_
                        refine xG.ifc (t := 127) (A := ¬ (x1 = ((61)))) rfl rfl (xe_lcn _ _) (fun k12 => ?_) (fun k12 => ?_)
                        · replace h := h.2 k12
                          refine xG.seg 3 (f' := (132, [(0, .long x1)], [.int (lg_cmp x1 ((62)))])) (x1 := M) (fun _ => rfl) ?_
                          refine xG.ifc (t := 138) (A := ¬ (x1 = ((62)))) rfl rfl (xe_lcn _ _) (fun k13 => ?_) (fun k13 => ?_)
                          · replace h := h.2 k13
                            refine xG.seg 3 (f' := (143, [(0, .long x1)], [.int (lg_cmp x1 ((86059455173701)))])) (x1 := M) (fun _ => rfl) ?_
                            refine xG.ifc (t := 149) (A := ¬ (x1 = ((86059455173701)))) rfl rfl (xe_lcn _ _) (fun k14 => ?_) (fun k14 => ?_)
                            · replace h := h.2 k14
                              refine xG.seg 3 (f' := (154, [(0, .long x1)], [.int (lg_cmp x1 ((80600803660372)))])) (x1 := M) (fun _ => rfl) ?_
                              refine xG.ifc (t := 160) (A := ¬ (x1 = ((80600803660372)))) rfl rfl (xe_lcn _ _) (fun k15 => ?_) (fun k15 => ?_)
                              · replace h := h.2 k15
                                refine xG.seg 3 (f' := (165, [(0, .long x1)], [.int (lg_cmp x1 ((4276819)))])) (x1 := M) (fun _ => rfl) ?_
                                refine xG.ifc (t := 171) (A := ¬ (x1 = ((4276819)))) rfl rfl (xe_lcn _ _) (fun k16 => ?_) (fun k16 => ?_)
                                · replace h := h.2 k16
                                  refine xG.seg 3 (f' := (176, [(0, .long x1)], [.int (lg_cmp x1 ((12587)))])) (x1 := M) (fun _ => rfl) ?_
                                  refine xG.ifc (t := 182) (A := ¬ (x1 = ((12587)))) rfl rfl (xe_lcn _ _) (fun k17 => ?_) (fun k17 => ?_)
                                  · replace h := h.2 k17
                                    refine xG.seg 3 (f' := (187, [(0, .long x1)], [.int (lg_cmp x1 ((12349)))])) (x1 := M) (fun _ => rfl) ?_
                                    refine xG.ifc (t := 193) (A := ¬ (x1 = ((12349)))) rfl rfl (xe_lcn _ _) (fun k18 => ?_) (fun k18 => ?_)
                                    · replace h := h.2 k18
                                      refine xG.seg 3 (f' := (198, [(0, .long x1)], [.int (lg_cmp x1 ((12348)))])) (x1 := M) (fun _ => rfl) ?_
                                      refine xG.ifc (t := 204) (A := ¬ (x1 = ((12348)))) rfl rfl (xe_lcn _ _) (fun k19 => ?_) (fun k19 => ?_)
                                      · replace h := h.2 k19
                                        refine xG.seg 3 (f' := (209, [(0, .long x1)], [.int (lg_cmp x1 ((4478288)))])) (x1 := M) (fun _ => rfl) ?_
                                        refine xG.ifc (t := 215) (A := ¬ (x1 = ((4478288)))) rfl rfl (xe_lcn _ _) (fun k20 => ?_) (fun k20 => ?_)
                                        · replace h := h.2 k20
                                          refine xG.seg 3 (f' := (220, [(0, .long x1)], [.int (lg_cmp x1 ((1146244944)))])) (x1 := M) (fun _ => rfl) ?_
                                          refine xG.ifc (t := 226) (A := ¬ (x1 = ((1146244944)))) rfl rfl (xe_lcn _ _) (fun k21 => ?_) (fun k21 => ?_)
                                          · replace h := h.2 k21
                                            refine xG.seg 3 (f' := (231, [(0, .long x1)], [.int (lg_cmp x1 ((1398227280)))])) (x1 := M) (fun _ => rfl) ?_
                                            refine xG.ifc (t := 237) (A := ¬ (x1 = ((1398227280)))) rfl rfl (xe_lcn _ _) (fun k22 => ?_) (fun k22 => ?_)
                                            · replace h := h.2 k22
                                              refine xG.seg 3 (f' := (242, [(0, .long x1)], [.int (lg_cmp x1 ((1331053906)))])) (x1 := M) (fun _ => rfl) ?_
                                              refine xG.ifc (t := 248) (A := ¬ (x1 = ((1331053906)))) rfl rfl (xe_lcn _ _) (fun k23 => ?_) (fun k23 => ?_)
                                              · replace h := h.2 k23
                                                refine xG.seg 3 (f' := (253, [(0, .long x1)], [.int (lg_cmp x1 ((5394260)))])) (x1 := M) (fun _ => rfl) ?_
                                                refine xG.ifc (t := 259) (A := ¬ (x1 = ((5394260)))) rfl rfl (xe_lcn _ _) (fun k24 => ?_) (fun k24 => ?_)
                                                · replace h := h.2 k24
                                                  refine xG.seg 3 (f' := (264, [(0, .long x1)], [.int (lg_cmp x1 ((5130576)))])) (x1 := M) (fun _ => rfl) ?_
                                                  refine xG.ifc (t := 270) (A := ¬ (x1 = ((5130576)))) rfl rfl (xe_lcn _ _) (fun k25 => ?_) (fun k25 => ?_)
                                                  · replace h := h.2 k25
                                                    refine xG.seg 3 (f' := (275, [(0, .long x1)], [.int (lg_cmp x1 ((1414873931)))])) (x1 := M) (fun _ => rfl) ?_
                                                    refine xG.ifc (t := 281) (A := ¬ (x1 = ((1414873931)))) rfl rfl (xe_lcn _ _) (fun k26 => ?_) (fun k26 => ?_)
                                                    · replace h := h.2 k26
                                                      refine xG.seg 3 (f' := (286, [(0, .long x1)], [.int (lg_cmp x1 ((843339088)))])) (x1 := M) (fun _ => rfl) ?_
                                                      refine xG.ifc (t := 292) (A := ¬ (x1 = ((843339088)))) rfl rfl (xe_lcn _ _) (fun k27 => ?_) (fun k27 => ?_)
                                                      · replace h := h.2 k27
                                                        refine xG.seg 3 (f' := (297, [(0, .long x1)], [.int (lg_cmp x1 ((215894609744)))])) (x1 := M) (fun _ => rfl) ?_
                                                        refine xG.ifc (t := 303) (A := ¬ (x1 = ((215894609744)))) rfl rfl (xe_lcn _ _) (fun k28 => ?_) (fun k28 => ?_)
                                                        · replace h := h.2 k28
                                                          refine xG.seg 3 (f' := (308, [(0, .long x1)], [.int (lg_cmp x1 ((293220668488)))])) (x1 := M) (fun _ => rfl) ?_
                                                          refine xG.ifc (t := 314) (A := ¬ (x1 = ((293220668488)))) rfl rfl (xe_lcn _ _) (fun k29 => ?_) (fun k29 => ?_)
                                                          · replace h := h.2 k29
                                                            refine xG.seg 3 (f' := (319, [(0, .long x1)], [.int (lg_cmp x1 ((64)))])) (x1 := M) (fun _ => rfl) ?_
                                                            refine xG.ifc (t := 325) (A := ¬ (x1 = ((64)))) rfl rfl (xe_lcn _ _) (fun k30 => ?_) (fun k30 => ?_)
                                                            · replace h := h.2 k30
                                                              refine xG.seg 3 (f' := (330, [(0, .long x1)], [.int (lg_cmp x1 ((33)))])) (x1 := M) (fun _ => rfl) ?_
                                                              refine xG.ifc (t := 336) (A := ¬ (x1 = ((33)))) rfl rfl (xe_lcn _ _) (fun k31 => ?_) (fun k31 => ?_)
                                                              · replace h := h.2 k31
                                                                refine xG.seg 3 (f' := (341, [(0, .long x1)], [.int (lg_cmp x1 ((11041)))])) (x1 := M) (fun _ => rfl) ?_
                                                                refine xG.ifc (t := 347) (A := ¬ (x1 = ((11041)))) rfl rfl (xe_lcn _ _) (fun k32 => ?_) (fun k32 => ?_)
                                                                · replace h := h.2 k32
                                                                  refine xG.seg 3 (f' := (352, [(0, .long x1)], [.int (lg_cmp x1 ((15954)))])) (x1 := M) (fun _ => rfl) ?_
                                                                  refine xG.ifc (t := 358) (A := ¬ (x1 = ((15954)))) rfl rfl (xe_lcn _ _) (fun k33 => ?_) (fun k33 => ?_)
                                                                  · replace h := h.2 k33
                                                                    refine xG.seg 3 (f' := (363, [(0, .long x1)], [.int (lg_cmp x1 ((21054)))])) (x1 := M) (fun _ => rfl) ?_
                                                                    refine xG.ifc (t := 369) (A := ¬ (x1 = ((21054)))) rfl rfl (xe_lcn _ _) (fun k34 => ?_) (fun k34 => ?_)
                                                                    · replace h := h.2 k34
                                                                      refine xG.seg 3 (f' := (374, [(0, .long x1)], [.int (lg_cmp x1 ((21056)))])) (x1 := M) (fun _ => rfl) ?_
                                                                      refine xG.ifc (t := 380) (A := ¬ (x1 = ((21056)))) rfl rfl (xe_lcn _ _) (fun k35 => ?_) (fun k35 => ?_)
                                                                      · replace h := h.2 k35
                                                                        refine xG.seg 3 (f' := (385, [(0, .long x1)], [.int (lg_cmp x1 ((46)))])) (x1 := M) (fun _ => rfl) ?_
                                                                        refine xG.ifc (t := 391) (A := ¬ (x1 = ((46)))) rfl rfl (xe_lcn _ _) (fun k36 => ?_) (fun k36 => ?_)
                                                                        · replace h := h.2 k36
                                                                          refine xG.seg 1 (f' := (392, [(0, .long x1)], [.int (-1)])) (x1 := M) (fun _ => rfl) ?_
                                                                          exact xG.fin (fun _ => rfl) (⟨0, rfl, h⟩)
                                                                        · replace h := h.1 (Classical.not_not.mp k36)
                                                                          refine xG.seg 1 (f' := (390, [(0, .long x1)], [.int (nI 36)])) (x1 := M) (fun _ => rfl) ?_
                                                                          refine xG.conv (xe_up 36 1) ?_
                                                                          exact xG.fin (fun _ => rfl) (⟨36 + 1, rfl, h⟩)
                                                                      · replace h := h.1 (Classical.not_not.mp k35)
                                                                        refine xG.seg 1 (f' := (379, [(0, .long x1)], [.int (nI 35)])) (x1 := M) (fun _ => rfl) ?_
                                                                        refine xG.conv (xe_up 35 1) ?_
                                                                        exact xG.fin (fun _ => rfl) (⟨35 + 1, rfl, h⟩)
                                                                    · replace h := h.1 (Classical.not_not.mp k34)
                                                                      refine xG.seg 1 (f' := (368, [(0, .long x1)], [.int (nI 34)])) (x1 := M) (fun _ => rfl) ?_
                                                                      refine xG.conv (xe_up 34 1) ?_
                                                                      exact xG.fin (fun _ => rfl) (⟨34 + 1, rfl, h⟩)
                                                                  · replace h := h.1 (Classical.not_not.mp k33)
                                                                    refine xG.seg 1 (f' := (357, [(0, .long x1)], [.int (nI 33)])) (x1 := M) (fun _ => rfl) ?_
                                                                    refine xG.conv (xe_up 33 1) ?_
                                                                    exact xG.fin (fun _ => rfl) (⟨33 + 1, rfl, h⟩)
                                                                · replace h := h.1 (Classical.not_not.mp k32)
                                                                  refine xG.seg 1 (f' := (346, [(0, .long x1)], [.int (nI 32)])) (x1 := M) (fun _ => rfl) ?_
                                                                  refine xG.conv (xe_up 32 1) ?_
                                                                  exact xG.fin (fun _ => rfl) (⟨32 + 1, rfl, h⟩)
                                                              · replace h := h.1 (Classical.not_not.mp k31)
                                                                refine xG.seg 1 (f' := (335, [(0, .long x1)], [.int (nI 31)])) (x1 := M) (fun _ => rfl) ?_
                                                                refine xG.conv (xe_up 31 1) ?_
                                                                exact xG.fin (fun _ => rfl) (⟨31 + 1, rfl, h⟩)
                                                            · replace h := h.1 (Classical.not_not.mp k30)
                                                              refine xG.seg 1 (f' := (324, [(0, .long x1)], [.int (nI 30)])) (x1 := M) (fun _ => rfl) ?_
                                                              refine xG.conv (xe_up 30 1) ?_
                                                              exact xG.fin (fun _ => rfl) (⟨30 + 1, rfl, h⟩)
                                                          · replace h := h.1 (Classical.not_not.mp k29)
                                                            refine xG.seg 1 (f' := (313, [(0, .long x1)], [.int (nI 29)])) (x1 := M) (fun _ => rfl) ?_
                                                            refine xG.conv (xe_up 29 1) ?_
                                                            exact xG.fin (fun _ => rfl) (⟨29 + 1, rfl, h⟩)
                                                        · replace h := h.1 (Classical.not_not.mp k28)
                                                          refine xG.seg 1 (f' := (302, [(0, .long x1)], [.int (nI 28)])) (x1 := M) (fun _ => rfl) ?_
                                                          refine xG.conv (xe_up 28 1) ?_
                                                          exact xG.fin (fun _ => rfl) (⟨28 + 1, rfl, h⟩)
                                                      · replace h := h.1 (Classical.not_not.mp k27)
                                                        refine xG.seg 1 (f' := (291, [(0, .long x1)], [.int (nI 27)])) (x1 := M) (fun _ => rfl) ?_
                                                        refine xG.conv (xe_up 27 1) ?_
                                                        exact xG.fin (fun _ => rfl) (⟨27 + 1, rfl, h⟩)
                                                    · replace h := h.1 (Classical.not_not.mp k26)
                                                      refine xG.seg 1 (f' := (280, [(0, .long x1)], [.int (nI 26)])) (x1 := M) (fun _ => rfl) ?_
                                                      refine xG.conv (xe_up 26 1) ?_
                                                      exact xG.fin (fun _ => rfl) (⟨26 + 1, rfl, h⟩)
                                                  · replace h := h.1 (Classical.not_not.mp k25)
                                                    refine xG.seg 1 (f' := (269, [(0, .long x1)], [.int (nI 25)])) (x1 := M) (fun _ => rfl) ?_
                                                    refine xG.conv (xe_up 25 1) ?_
                                                    exact xG.fin (fun _ => rfl) (⟨25 + 1, rfl, h⟩)
                                                · replace h := h.1 (Classical.not_not.mp k24)
                                                  refine xG.seg 1 (f' := (258, [(0, .long x1)], [.int (nI 24)])) (x1 := M) (fun _ => rfl) ?_
                                                  refine xG.conv (xe_up 24 1) ?_
                                                  exact xG.fin (fun _ => rfl) (⟨24 + 1, rfl, h⟩)
                                              · replace h := h.1 (Classical.not_not.mp k23)
                                                refine xG.seg 1 (f' := (247, [(0, .long x1)], [.int (nI 23)])) (x1 := M) (fun _ => rfl) ?_
                                                refine xG.conv (xe_up 23 1) ?_
                                                exact xG.fin (fun _ => rfl) (⟨23 + 1, rfl, h⟩)
                                            · replace h := h.1 (Classical.not_not.mp k22)
                                              refine xG.seg 1 (f' := (236, [(0, .long x1)], [.int (nI 22)])) (x1 := M) (fun _ => rfl) ?_
                                              refine xG.conv (xe_up 22 1) ?_
                                              exact xG.fin (fun _ => rfl) (⟨22 + 1, rfl, h⟩)
                                          · replace h := h.1 (Classical.not_not.mp k21)
                                            refine xG.seg 1 (f' := (225, [(0, .long x1)], [.int (nI 21)])) (x1 := M) (fun _ => rfl) ?_
                                            refine xG.conv (xe_up 21 1) ?_
                                            exact xG.fin (fun _ => rfl) (⟨21 + 1, rfl, h⟩)
                                        · replace h := h.1 (Classical.not_not.mp k20)
                                          refine xG.seg 1 (f' := (214, [(0, .long x1)], [.int (nI 20)])) (x1 := M) (fun _ => rfl) ?_
                                          refine xG.conv (xe_up 20 1) ?_
                                          exact xG.fin (fun _ => rfl) (⟨20 + 1, rfl, h⟩)
                                      · replace h := h.1 (Classical.not_not.mp k19)
                                        refine xG.seg 1 (f' := (203, [(0, .long x1)], [.int (nI 19)])) (x1 := M) (fun _ => rfl) ?_
                                        refine xG.conv (xe_up 19 1) ?_
                                        exact xG.fin (fun _ => rfl) (⟨19 + 1, rfl, h⟩)
                                    · replace h := h.1 (Classical.not_not.mp k18)
                                      refine xG.seg 1 (f' := (192, [(0, .long x1)], [.int (nI 18)])) (x1 := M) (fun _ => rfl) ?_
                                      refine xG.conv (xe_up 18 1) ?_
                                      exact xG.fin (fun _ => rfl) (⟨18 + 1, rfl, h⟩)
                                  · replace h := h.1 (Classical.not_not.mp k17)
                                    refine xG.seg 1 (f' := (181, [(0, .long x1)], [.int (nI 17)])) (x1 := M) (fun _ => rfl) ?_
                                    refine xG.conv (xe_up 17 1) ?_
                                    exact xG.fin (fun _ => rfl) (⟨17 + 1, rfl, h⟩)
                                · replace h := h.1 (Classical.not_not.mp k16)
                                  refine xG.seg 1 (f' := (170, [(0, .long x1)], [.int (nI 16)])) (x1 := M) (fun _ => rfl) ?_
                                  refine xG.conv (xe_up 16 1) ?_
                                  exact xG.fin (fun _ => rfl) (⟨16 + 1, rfl, h⟩)
                              · replace h := h.1 (Classical.not_not.mp k15)
                                refine xG.seg 1 (f' := (159, [(0, .long x1)], [.int (nI 15)])) (x1 := M) (fun _ => rfl) ?_
                                refine xG.conv (xe_up 15 1) ?_
                                exact xG.fin (fun _ => rfl) (⟨15 + 1, rfl, h⟩)
                            · replace h := h.1 (Classical.not_not.mp k14)
                              refine xG.seg 1 (f' := (148, [(0, .long x1)], [.int (nI 14)])) (x1 := M) (fun _ => rfl) ?_
                              refine xG.conv (xe_up 14 1) ?_
                              exact xG.fin (fun _ => rfl) (⟨14 + 1, rfl, h⟩)
                          · replace h := h.1 (Classical.not_not.mp k13)
                            refine xG.seg 1 (f' := (137, [(0, .long x1)], [.int (nI 13)])) (x1 := M) (fun _ => rfl) ?_
                            refine xG.conv (xe_up 13 1) ?_
                            exact xG.fin (fun _ => rfl) (⟨13 + 1, rfl, h⟩)
                        · replace h := h.1 (Classical.not_not.mp k12)
                          refine xG.seg 1 (f' := (126, [(0, .long x1)], [.int (nI 12)])) (x1 := M) (fun _ => rfl) ?_
                          refine xG.conv (xe_up 12 1) ?_
                          exact xG.fin (fun _ => rfl) (⟨12 + 1, rfl, h⟩)
                      · replace h := h.1 (Classical.not_not.mp k11)
                        refine xG.seg 1 (f' := (115, [(0, .long x1)], [.int (nI 11)])) (x1 := M) (fun _ => rfl) ?_
                        refine xG.conv (xe_up 11 1) ?_
                        exact xG.fin (fun _ => rfl) (⟨11 + 1, rfl, h⟩)
                    · replace h := h.1 (Classical.not_not.mp k10)
                      refine xG.seg 1 (f' := (104, [(0, .long x1)], [.int (nI 10)])) (x1 := M) (fun _ => rfl) ?_
                      refine xG.conv (xe_up 10 1) ?_
                      exact xG.fin (fun _ => rfl) (⟨10 + 1, rfl, h⟩)
                  · replace h := h.1 (Classical.not_not.mp k9)
                    refine xG.seg 1 (f' := (93, [(0, .long x1)], [.int (nI 9)])) (x1 := M) (fun _ => rfl) ?_
                    refine xG.conv (xe_up 9 1) ?_
                    exact xG.fin (fun _ => rfl) (⟨9 + 1, rfl, h⟩)
                · replace h := h.1 (Classical.not_not.mp k8)
                  refine xG.seg 1 (f' := (82, [(0, .long x1)], [.int (nI 8)])) (x1 := M) (fun _ => rfl) ?_
                  refine xG.conv (xe_up 8 1) ?_
                  exact xG.fin (fun _ => rfl) (⟨8 + 1, rfl, h⟩)
              · replace h := h.1 (Classical.not_not.mp k7)
                refine xG.seg 1 (f' := (71, [(0, .long x1)], [.int (nI 7)])) (x1 := M) (fun _ => rfl) ?_
                refine xG.conv (xe_up 7 1) ?_
                exact xG.fin (fun _ => rfl) (⟨7 + 1, rfl, h⟩)
            · replace h := h.1 (Classical.not_not.mp k6)
              refine xG.seg 1 (f' := (60, [(0, .long x1)], [.int (nI 6)])) (x1 := M) (fun _ => rfl) ?_
              refine xG.conv (xe_up 6 1) ?_
              exact xG.fin (fun _ => rfl) (⟨6 + 1, rfl, h⟩)
          · replace h := h.1 (Classical.not_not.mp k5)
            refine xG.seg 1 (f' := (49, [(0, .long x1)], [.int (nI 5)])) (x1 := M) (fun _ => rfl) ?_
            refine xG.conv (xe_up 5 1) ?_
            exact xG.fin (fun _ => rfl) (⟨5 + 1, rfl, h⟩)
        · replace h := h.1 (Classical.not_not.mp k4)
          refine xG.seg 1 (f' := (39, [(0, .long x1)], [.int (nI 4)])) (x1 := M) (fun _ => rfl) ?_
          refine xG.conv (xe_up 4 1) ?_
          exact xG.fin (fun _ => rfl) (⟨4 + 1, rfl, h⟩)
      · replace h := h.1 (Classical.not_not.mp k3)
        refine xG.seg 1 (f' := (29, [(0, .long x1)], [.int (nI 3)])) (x1 := M) (fun _ => rfl) ?_
        refine xG.conv (xe_up 3 1) ?_
        exact xG.fin (fun _ => rfl) (⟨3 + 1, rfl, h⟩)
    · replace h := h.1 (Classical.not_not.mp k2)
      refine xG.seg 1 (f' := (19, [(0, .long x1)], [.int (nI 2)])) (x1 := M) (fun _ => rfl) ?_
      refine xG.conv (xe_up 2 1) ?_
      exact xG.fin (fun _ => rfl) (⟨2 + 1, rfl, h⟩)
  · replace h := h.1 (Classical.not_not.mp k1)
    refine xG.seg 1 (f' := (9, [(0, .long x1)], [.int (nI 1)])) (x1 := M) (fun _ => rfl) ?_
    refine xG.conv (xe_up 1 1) ?_
    exact xG.fin (fun _ => rfl) (⟨1 + 1, rfl, h⟩)

def w_R_within_ZNN (x1 : Nat) (y1 : Nat) (x2 : Nat) (x3 : Nat) (M : xM) (Q : Nat → xM → Prop) : Prop := (x1 < 2147483648 ∧ (y1 < 2147483648 ∧ (x2 < 2147483648 ∧ ((x1 < x2 + y1 → Q 0 M) ∧ (¬ (x1 < x2 + y1) → (x1 < 2147483648 ∧ (y1 < 2147483648 ∧ (x3 < 2147483648 ∧ ((x3 + y1 < x1 → Q 0 M) ∧ (¬ (x3 + y1 < x1) → Q 1 M))))))))))
set_option maxRecDepth 8000 in
set_option maxHeartbeats 4000000 in
theorem p_R_within_ZNN (L : Nat) (xs : Nat → Int32) (d : Nat) (x1 : Nat) (y1 : Nat) (x2 : Nat) (x3 : Nat) (M : xM) (Q : Nat → xM → Prop) (h : w_R_within_ZNN x1 y1 x2 x3 M Q) : xG xem (xgt L xs) (d) xi_R_within (0, [(0, .int (nI x1 - nI y1)), (1, .int (nI x2)), (2, .int (nI x3))], []) M (xPN Q) := by
  unfold w_R_within_ZNN at h
  refine xG.seg 2 (f' := (2, [(0, .int (nI x1 - nI y1)), (1, .int (nI x2)), (2, .int (nI x3))], [.int (nI x2), .int (nI x1 - nI y1)])) (x1 := M) (fun _ => rfl) ?_
  obtain ⟨c1, h⟩ := h
  obtain ⟨c2, h⟩ := h
  obtain ⟨c3, h⟩ := h
  refine xG.icmp (t := 14) (A := x1 < x2 + y1) rfl rfl (xe_c (xt_Z c1 c2) (xt_N c3) (by dsimp only; omega)) (fun k4 => ?_) (fun k4 => ?_)
  · replace h := h.1 k4
    refine xG.seg 1 (f' := (15, [(0, .int (nI x1 - nI y1)), (1, .int (nI x2)), (2, .int (nI x3))], [.int (nI 0)])) (x1 := M) (fun _ => rfl) ?_
    exact xG.fin (fun _ => rfl) (⟨_, rfl, h⟩)
  · replace h := h.2 k4
    refine xG.seg 2 (f' := (7, [(0, .int (nI x1 - nI y1)), (1, .int (nI x2)), (2, .int (nI x3))], [.int (nI x3), .int (nI x1 - nI y1)])) (x1 := M) (fun _ => rfl) ?_
    obtain ⟨c5, h⟩ := h
    obtain ⟨c6, h⟩ := h
    obtain ⟨c7, h⟩ := h
    refine xG.icmp (t := 14) (A := x3 + y1 < x1) rfl rfl (xe_c (xt_Z c5 c6) (xt_N c7) (by dsimp only; omega)) (fun k8 => ?_) (fun k8 => ?_)
    · replace h := h.1 k8
      refine xG.seg 1 (f' := (15, [(0, .int (nI x1 - nI y1)), (1, .int (nI x2)), (2, .int (nI x3))], [.int (nI 0)])) (x1 := M) (fun _ => rfl) ?_
      exact xG.fin (fun _ => rfl) (⟨_, rfl, h⟩)
    · replace h := h.2 k8
      refine xG.seg 2 (f' := (15, [(0, .int (nI x1 - nI y1)), (1, .int (nI x2)), (2, .int (nI x3))], [.int (nI 1)])) (x1 := M) (fun _ => rfl) ?_
      exact xG.fin (fun _ => rfl) (⟨_, rfl, h⟩)

def wi_R_isNumber_47 (K : Nat → Nat → xM → Prop) (l2 : Nat) (l3 : Nat) (M : xM) (Q : Nat → xM → Prop) : Prop := (l3 < 2147483648 ∧ (M.1 17 < 2147483648 ∧ ((M.1 17 ≤ l3 → (l2 ≤ 1 ∧ Q l2 M)) ∧ (¬ (M.1 17 ≤ l3) → (l2 < 2147483648 ∧ ((l2 = 0 → (l2 ≤ 1 ∧ Q l2 M)) ∧ (¬ (l2 = 0) → (M.1 16 + l3 < 160 ∧ w_R_within_NNN (M.2.1 0 (M.1 16 + l3)) 48 57 M (fun r2010 M2009 => K r2010 (l3 + 1) M2009)))))))))
set_option maxRecDepth 8000 in
set_option maxHeartbeats 4000000 in
theorem pi_R_isNumber_47 (L : Nat) (xs : Nat → Int32) (d : Nat) (Q : Nat → xM → Prop) (K : Nat → Nat → xM → Prop) (hK : ∀ (l2 : Nat) (l3 : Nat) (M : xM), K l2 l3 M → xG xem (xgt L xs) (d + 1) xi_R_isNumber (47, [(0, .ref 22), (2, .int (nI l2)), (3, .int (nI l3))], []) M (xPN Q)) (l2 : Nat) (l3 : Nat) (M : xM) (h : wi_R_isNumber_47 K l2 l3 M Q) : xG xem (xgt L xs) (d + 1) xi_R_isNumber (47, [(0, .ref 22), (2, .int (nI l2)), (3, .int (nI l3))], []) M (xPN Q) := by
  unfold wi_R_isNumber_47 at h
  refine xG.seg 3 (f' := (52, [(0, .ref 22), (2, .int (nI l2)), (3, .int (nI l3))], [.int (nI (M.1 17)), .int (nI l3)])) (x1 := M) (fun _ => rfl) ?_
  obtain ⟨c2001, h⟩ := h
  obtain ⟨c2002, h⟩ := h
  refine xG.icmp (t := 84) (A := M.1 17 ≤ l3) rfl rfl (xe_c (xt_N c2001) (xt_N c2002) (by dsimp only; omega)) (fun k2003 => ?_) (fun k2003 => ?_)
  · replace h := h.1 k2003
    refine xG.seg 1 (f' := (85, [(0, .ref 22), (2, .int (nI l2)), (3, .int (nI l3))], [.int (nI l2)])) (x1 := M) (fun _ => rfl) ?_
    obtain ⟨c2004, h⟩ := h
    exact xG.zret rfl rfl c2004 (⟨_, rfl, h⟩)
  · replace h := h.2 k2003
    refine xG.seg 1 (f' := (56, [(0, .ref 22), (2, .int (nI l2)), (3, .int (nI l3))], [.int (nI l2)])) (x1 := M) (fun _ => rfl) ?_
    obtain ⟨c2005, h⟩ := h
    refine xG.ifc (t := 84) (A := l2 = 0) rfl rfl (xe_c (xt_N c2005) (show (0 : Int32).toInt = 0 from by decide) (by dsimp only; omega)) (fun k2006 => ?_) (fun k2006 => ?_)
    · replace h := h.1 k2006
      refine xG.seg 1 (f' := (85, [(0, .ref 22), (2, .int (nI l2)), (3, .int (nI l3))], [.int (nI l2)])) (x1 := M) (fun _ => rfl) ?_
      obtain ⟨c2007, h⟩ := h
      exact xG.zret rfl rfl c2007 (⟨_, rfl, h⟩)
    · replace h := h.2 k2006
      refine xG.seg 6 (f' := (69, [(0, .ref 22), (2, .int (nI l2)), (3, .int (nI l3))], [.int ((nI (M.1 16)) + (nI l3)), .ref 23])) (x1 := M) (fun _ => rfl) ?_
      refine xG.conv (xe_add (M.1 16) l3) ?_
      refine xG.eqf (f' := (69, [(0, .ref 22), (2, .int (nI l2)), (3, .int (nI l3))], [.int (nI (M.1 16 + l3)), .ref 23])) rfl ?_
      obtain ⟨c2008, h⟩ := h
      refine xG.iald rfl (Or.inl ⟨rfl, rfl⟩) (by decide) (fun _ => rfl) (by decide) c2008 ?_
      refine xG.eqf (f' := (70, [(0, .ref 22), (2, .int (nI l2)), (3, .int (nI l3))], [.int (nI (M.2.1 0 (M.1 16 + l3)))])) rfl ?_
      refine xG.seg 2 (f' := (74, [(0, .ref 22), (2, .int (nI l2)), (3, .int (nI l3))], [.int (nI 57), .int (nI 48), .int (nI (M.2.1 0 (M.1 16 + l3)))])) (x1 := M) (fun _ => rfl) ?_
      refine xG.call (d := d) (vs := [.int (nI (M.2.1 0 (M.1 16 + l3))), .int (nI 48), .int (nI 57)]) (g := (74, [(0, .ref 22), (2, .int (nI l2)), (3, .int (nI l3))], [])) (fun _ => rfl) rfl (p_R_within_NNN L xs d (M.2.1 0 (M.1 16 + l3)) 48 57 M _ h) ?_
      clear h
      rintro _ M2009 ⟨r2010, rfl, h⟩
      refine ⟨_, rfl, ?_⟩
      refine xG.eqf (f' := (77, [(0, .ref 22), (2, .int (nI l2)), (3, .int (nI l3))], [.int (nI r2010)])) rfl ?_
      refine xG.seg 1 (f' := (78, [(2, .int (nI r2010)), (0, .ref 22), (3, .int (nI l3))], [])) (x1 := M2009) (fun _ => rfl) ?_
      refine xG.iinc (v := (nI l3)) (w := (nI (l3 + 1))) rfl rfl (by decide) (xe_add l3 1) ?_
      refine xG.eqf (f' := (81, [(3, .int (nI (l3 + 1))), (2, .int (nI r2010)), (0, .ref 22)], [])) rfl ?_
      refine xG.seg 1 (f' := (47, [(3, .int (nI (l3 + 1))), (2, .int (nI r2010)), (0, .ref 22)], [])) (x1 := M2009) (fun _ => rfl) ?_
      refine xG.lv (lv := [(0, .ref 22), (2, .int (nI r2010)), (3, .int (nI (l3 + 1)))]) (lv' := [(3, .int (nI (l3 + 1))), (2, .int (nI r2010)), (0, .ref 22)]) rfl rfl rfl ?_
      exact hK r2010 (l3 + 1) M2009 h

def w_R_isNumber_47 : Nat → Nat → Nat → (xM) → (Nat → xM → Prop) → Prop
  | 0, _, _, _, _ => False
  | n + 1, l2, l3, C, Q => wi_R_isNumber_47 (fun l2 l3 C => w_R_isNumber_47 n l2 l3 C Q) l2 l3 C Q
theorem p_R_isNumber_47 (L : Nat) (xs : Nat → Int32) (d : Nat) (Q : Nat → xM → Prop) : ∀ (n : Nat) (l2 : Nat) (l3 : Nat) (M : xM), w_R_isNumber_47 n l2 l3 M Q → xG xem (xgt L xs) (d + 1) xi_R_isNumber (47, [(0, .ref 22), (2, .int (nI l2)), (3, .int (nI l3))], []) M (xPN Q)
  | 0, _, _, _, h => by cases h
  | n + 1, l2, l3, C, h => pi_R_isNumber_47 L xs d Q (fun l2 l3 C => w_R_isNumber_47 n l2 l3 C Q) (fun l2 l3 C h => p_R_isNumber_47 L xs d Q n l2 l3 C h) l2 l3 C h

def w_R_isNumber (M : xM) (Q : Nat → xM → Prop) : Prop := (M.1 16 < 160 ∧ (M.2.1 0 (M.1 16) < 2147483648 ∧ ((M.2.1 0 (M.1 16) = 45 → (M.1 17 < 2147483648 ∧ ((M.1 17 ≤ 1 → ∃ fu13 : Nat, w_R_isNumber_47 fu13 0 1 M Q) ∧ (¬ (M.1 17 ≤ 1) → (M.1 17 < 2147483648 ∧ ((10 < M.1 17 → ∃ fu16 : Nat, w_R_isNumber_47 fu16 0 1 M Q) ∧ (¬ (10 < M.1 17) → ∃ fu17 : Nat, w_R_isNumber_47 fu17 1 1 M Q))))))) ∧ (¬ (M.2.1 0 (M.1 16) = 45) → (M.1 17 < 2147483648 ∧ ((M.1 17 ≤ 0 → ∃ fu6 : Nat, w_R_isNumber_47 fu6 0 0 M Q) ∧ (¬ (M.1 17 ≤ 0) → (M.1 17 < 2147483648 ∧ ((9 < M.1 17 → ∃ fu9 : Nat, w_R_isNumber_47 fu9 0 0 M Q) ∧ (¬ (9 < M.1 17) → ∃ fu10 : Nat, w_R_isNumber_47 fu10 1 0 M Q))))))))))
set_option maxRecDepth 8000 in
set_option maxHeartbeats 4000000 in
theorem p_R_isNumber (L : Nat) (xs : Nat → Int32) (d : Nat) (M : xM) (Q : Nat → xM → Prop) (h : w_R_isNumber M Q) : xG xem (xgt L xs) (d + 1) xi_R_isNumber (0, [(0, .ref 22)], []) M (xPN Q) := by
  unfold w_R_isNumber at h
  refine xG.seg 4 (f' := (8, [(0, .ref 22)], [.int (nI (M.1 16)), .ref 23])) (x1 := M) (fun _ => rfl) ?_
  obtain ⟨c1, h⟩ := h
  refine xG.iald rfl (Or.inl ⟨rfl, rfl⟩) (by decide) (fun _ => rfl) (by decide) c1 ?_
  refine xG.eqf (f' := (9, [(0, .ref 22)], [.int (nI (M.2.1 0 (M.1 16)))])) rfl ?_
  refine xG.seg 1 (f' := (11, [(0, .ref 22)], [.int (nI 45), .int (nI (M.2.1 0 (M.1 16)))])) (x1 := M) (fun _ => rfl) ?_
  obtain ⟨c2, h⟩ := h
  refine xG.icmp (t := 18) (A := ¬ (M.2.1 0 (M.1 16) = 45)) rfl rfl (xe_c (xt_N c2) (show ((nI 45) : Int32).toInt = 45 from by decide) (by dsimp only; omega)) (fun k3 => ?_) (fun k3 => ?_)
  · replace h := h.2 k3
    refine xG.seg 5 (f' := (25, [(1, .int (nI 0)), (0, .ref 22)], [.int (nI 0), .int (nI (M.1 17))])) (x1 := M) (fun _ => rfl) ?_
    obtain ⟨c4, h⟩ := h
    refine xG.icmp (t := 43) (A := M.1 17 ≤ 0) rfl rfl (xe_c (xt_N c4) (show ((nI 0) : Int32).toInt = 0 from by decide) (by dsimp only; omega)) (fun k5 => ?_) (fun k5 => ?_)
    · replace h := h.1 k5
      refine xG.seg 4 (f' := (47, [(3, .int (nI 0)), (2, .int (nI 0)), (1, .int (nI 0)), (0, .ref 22)], [])) (x1 := M) (fun _ => rfl) ?_
      refine xG.lv (lv := [(0, .ref 22), (2, .int (nI 0)), (3, .int (nI 0))]) (lv' := [(3, .int (nI 0)), (2, .int (nI 0)), (1, .int (nI 0)), (0, .ref 22)]) rfl rfl rfl ?_
      obtain ⟨fu6, h⟩ := h
      exact p_R_isNumber_47 L xs d Q fu6 0 0 M h
    · replace h := h.2 k5
      refine xG.seg 5 (f' := (36, [(1, .int (nI 0)), (0, .ref 22)], [.int ((nI 0) + (nI 9)), .int (nI (M.1 17))])) (x1 := M) (fun _ => rfl) ?_
      refine xG.conv (xe_add 0 9) ?_
      refine xG.eqf (f' := (36, [(1, .int (nI 0)), (0, .ref 22)], [.int (nI 9), .int (nI (M.1 17))])) rfl ?_
      obtain ⟨c7, h⟩ := h
      refine xG.icmp (t := 43) (A := 9 < M.1 17) rfl rfl (xe_c (xt_N c7) (xt_N (by decide)) (by dsimp only; omega)) (fun k8 => ?_) (fun k8 => ?_)
      · replace h := h.1 k8
        refine xG.seg 4 (f' := (47, [(3, .int (nI 0)), (2, .int (nI 0)), (1, .int (nI 0)), (0, .ref 22)], [])) (x1 := M) (fun _ => rfl) ?_
        refine xG.lv (lv := [(0, .ref 22), (2, .int (nI 0)), (3, .int (nI 0))]) (lv' := [(3, .int (nI 0)), (2, .int (nI 0)), (1, .int (nI 0)), (0, .ref 22)]) rfl rfl rfl ?_
        obtain ⟨fu9, h⟩ := h
        exact p_R_isNumber_47 L xs d Q fu9 0 0 M h
      · replace h := h.2 k8
        refine xG.seg 5 (f' := (47, [(3, .int (nI 0)), (2, .int (nI 1)), (1, .int (nI 0)), (0, .ref 22)], [])) (x1 := M) (fun _ => rfl) ?_
        refine xG.lv (lv := [(0, .ref 22), (2, .int (nI 1)), (3, .int (nI 0))]) (lv' := [(3, .int (nI 0)), (2, .int (nI 1)), (1, .int (nI 0)), (0, .ref 22)]) rfl rfl rfl ?_
        obtain ⟨fu10, h⟩ := h
        exact p_R_isNumber_47 L xs d Q fu10 1 0 M h
  · replace h := h.1 (Classical.not_not.mp k3)
    refine xG.seg 6 (f' := (25, [(1, .int (nI 1)), (0, .ref 22)], [.int (nI 1), .int (nI (M.1 17))])) (x1 := M) (fun _ => rfl) ?_
    obtain ⟨c11, h⟩ := h
    refine xG.icmp (t := 43) (A := M.1 17 ≤ 1) rfl rfl (xe_c (xt_N c11) (show ((nI 1) : Int32).toInt = 1 from by decide) (by dsimp only; omega)) (fun k12 => ?_) (fun k12 => ?_)
    · replace h := h.1 k12
      refine xG.seg 4 (f' := (47, [(3, .int (nI 1)), (2, .int (nI 0)), (1, .int (nI 1)), (0, .ref 22)], [])) (x1 := M) (fun _ => rfl) ?_
      refine xG.lv (lv := [(0, .ref 22), (2, .int (nI 0)), (3, .int (nI 1))]) (lv' := [(3, .int (nI 1)), (2, .int (nI 0)), (1, .int (nI 1)), (0, .ref 22)]) rfl rfl rfl ?_
      obtain ⟨fu13, h⟩ := h
      exact p_R_isNumber_47 L xs d Q fu13 0 1 M h
    · replace h := h.2 k12
      refine xG.seg 5 (f' := (36, [(1, .int (nI 1)), (0, .ref 22)], [.int ((nI 1) + (nI 9)), .int (nI (M.1 17))])) (x1 := M) (fun _ => rfl) ?_
      refine xG.conv (xe_add 1 9) ?_
      refine xG.eqf (f' := (36, [(1, .int (nI 1)), (0, .ref 22)], [.int (nI 10), .int (nI (M.1 17))])) rfl ?_
      obtain ⟨c14, h⟩ := h
      refine xG.icmp (t := 43) (A := 10 < M.1 17) rfl rfl (xe_c (xt_N c14) (xt_N (by decide)) (by dsimp only; omega)) (fun k15 => ?_) (fun k15 => ?_)
      · replace h := h.1 k15
        refine xG.seg 4 (f' := (47, [(3, .int (nI 1)), (2, .int (nI 0)), (1, .int (nI 1)), (0, .ref 22)], [])) (x1 := M) (fun _ => rfl) ?_
        refine xG.lv (lv := [(0, .ref 22), (2, .int (nI 0)), (3, .int (nI 1))]) (lv' := [(3, .int (nI 1)), (2, .int (nI 0)), (1, .int (nI 1)), (0, .ref 22)]) rfl rfl rfl ?_
        obtain ⟨fu16, h⟩ := h
        exact p_R_isNumber_47 L xs d Q fu16 0 1 M h
      · replace h := h.2 k15
        refine xG.seg 5 (f' := (47, [(3, .int (nI 1)), (2, .int (nI 1)), (1, .int (nI 1)), (0, .ref 22)], [])) (x1 := M) (fun _ => rfl) ?_
        refine xG.lv (lv := [(0, .ref 22), (2, .int (nI 1)), (3, .int (nI 1))]) (lv' := [(3, .int (nI 1)), (2, .int (nI 1)), (1, .int (nI 1)), (0, .ref 22)]) rfl rfl rfl ?_
        obtain ⟨fu17, h⟩ := h
        exact p_R_isNumber_47 L xs d Q fu17 1 1 M h

def w_R_wrong (x1 : Nat) (M : xM) (Q : xM → Prop) : Prop := (M.1 1 < 2147483648 ∧ ((M.1 1 = 0 → Q (dN M 1 x1)) ∧ (¬ (M.1 1 = 0) → Q (dN M 1 (M.1 1)))))
set_option maxRecDepth 8000 in
set_option maxHeartbeats 4000000 in
theorem p_R_wrong (L : Nat) (xs : Nat → Int32) (d : Nat) (x1 : Nat) (M : xM) (Q : xM → Prop) (h : w_R_wrong x1 M Q) : xG xem (xgt L xs) (d) xi_R_wrong (0, [(0, .ref 22), (1, .int (nI x1))], []) M (xPV Q) := by
  unfold w_R_wrong at h
  refine xG.seg 3 (f' := (5, [(0, .ref 22), (1, .int (nI x1))], [.int (nI (M.1 1)), .ref 22])) (x1 := M) (fun _ => rfl) ?_
  obtain ⟨c1, h⟩ := h
  refine xG.ifc (t := 12) (A := ¬ (M.1 1 = 0)) rfl rfl (xe_c (xt_N c1) (show (0 : Int32).toInt = 0 from by decide) (by dsimp only; omega)) (fun k2 => ?_) (fun k2 => ?_)
  · replace h := h.2 k2
    refine xG.seg 3 (f' := (19, [(0, .ref 22), (1, .int (nI x1))], [])) (x1 := (dN M 1 (M.1 1))) (fun _ => rfl) ?_
    exact xG.fin (fun _ => rfl) (⟨rfl, h⟩)
  · replace h := h.1 (Classical.not_not.mp k2)
    refine xG.seg 3 (f' := (19, [(0, .ref 22), (1, .int (nI x1))], [])) (x1 := (dN M 1 x1)) (fun _ => rfl) ?_
    exact xG.fin (fun _ => rfl) (⟨rfl, h⟩)

def w_R_step (M : xM) (Q : Nat → xM → Prop) : Prop := (M.1 12 < 2147483648 ∧ ((M.1 12 = 600 → w_R_wrong 5 M (fun M5 => (M5.1 1 < 2147483648 ∧ ((M5.1 1 = 0 → Q 1 M5) ∧ (¬ (M5.1 1 = 0) → Q 0 M5))))) ∧ (¬ (M.1 12 = 600) → (M.1 1 < 2147483648 ∧ ((M.1 1 = 0 → Q 1 (dN M 12 (M.1 12 + 1))) ∧ (¬ (M.1 1 = 0) → Q 0 (dN M 12 (M.1 12 + 1))))))))
set_option maxRecDepth 8000 in
set_option maxHeartbeats 4000000 in
theorem p_R_step (L : Nat) (xs : Nat → Int32) (d : Nat) (M : xM) (Q : Nat → xM → Prop) (h : w_R_step M Q) : xG xem (xgt L xs) (d + 1) xi_R_step (0, [(0, .ref 22)], []) M (xPN Q) := by
  unfold w_R_step at h
  refine xG.seg 3 (f' := (7, [(0, .ref 22)], [.int (nI 600), .int (nI (M.1 12))])) (x1 := M) (fun _ => rfl) ?_
  obtain ⟨c1, h⟩ := h
  refine xG.icmp (t := 18) (A := ¬ (M.1 12 = 600)) rfl rfl (xe_c (xt_N c1) (show ((nI 600) : Int32).toInt = 600 from by decide) (by dsimp only; omega)) (fun k2 => ?_) (fun k2 => ?_)
  · replace h := h.2 k2
    refine xG.seg 5 (f' := (25, [(0, .ref 22)], [.int ((nI (M.1 12)) + (nI 1)), .ref 22])) (x1 := M) (fun _ => rfl) ?_
    refine xG.conv (xe_add (M.1 12) 1) ?_
    refine xG.eqf (f' := (25, [(0, .ref 22)], [.int (nI (M.1 12 + 1)), .ref 22])) rfl ?_
    refine xG.seg 3 (f' := (32, [(0, .ref 22)], [.int (nI (M.1 1))])) (x1 := (dN M 12 (M.1 12 + 1))) (fun _ => rfl) ?_
    obtain ⟨c3, h⟩ := h
    refine xG.ifc (t := 39) (A := ¬ (M.1 1 = 0)) rfl rfl (xe_c (xt_N c3) (show (0 : Int32).toInt = 0 from by decide) (by dsimp only; omega)) (fun k4 => ?_) (fun k4 => ?_)
    · replace h := h.2 k4
      refine xG.seg 1 (f' := (40, [(0, .ref 22)], [.int (nI 0)])) (x1 := (dN M 12 (M.1 12 + 1))) (fun _ => rfl) ?_
      exact xG.fin (fun _ => rfl) (⟨_, rfl, h⟩)
    · replace h := h.1 (Classical.not_not.mp k4)
      refine xG.seg 2 (f' := (40, [(0, .ref 22)], [.int (nI 1)])) (x1 := (dN M 12 (M.1 12 + 1))) (fun _ => rfl) ?_
      exact xG.fin (fun _ => rfl) (⟨_, rfl, h⟩)
  · replace h := h.1 (Classical.not_not.mp k2)
    refine xG.seg 2 (f' := (12, [(0, .ref 22)], [.int (nI 5), .ref 22])) (x1 := M) (fun _ => rfl) ?_
    refine xG.call (d := d) (vs := [.ref 22, .int (nI 5)]) (g := (12, [(0, .ref 22)], [])) (fun _ => rfl) rfl (p_R_wrong L xs d 5 M _ h) ?_
    clear h
    rintro _ M5 ⟨rfl, h⟩
    refine ⟨_, rfl, ?_⟩
    refine xG.eqf (f' := (15, [(0, .ref 22)], [])) rfl ?_
    refine xG.seg 3 (f' := (32, [(0, .ref 22)], [.int (nI (M5.1 1))])) (x1 := M5) (fun _ => rfl) ?_
    obtain ⟨c6, h⟩ := h
    refine xG.ifc (t := 39) (A := ¬ (M5.1 1 = 0)) rfl rfl (xe_c (xt_N c6) (show (0 : Int32).toInt = 0 from by decide) (by dsimp only; omega)) (fun k7 => ?_) (fun k7 => ?_)
    · replace h := h.2 k7
      refine xG.seg 1 (f' := (40, [(0, .ref 22)], [.int (nI 0)])) (x1 := M5) (fun _ => rfl) ?_
      exact xG.fin (fun _ => rfl) (⟨_, rfl, h⟩)
    · replace h := h.1 (Classical.not_not.mp k7)
      refine xG.seg 2 (f' := (40, [(0, .ref 22)], [.int (nI 1)])) (x1 := M5) (fun _ => rfl) ?_
      exact xG.fin (fun _ => rfl) (⟨_, rfl, h⟩)

def wi_R_number_22 (K : Nat → Nat → xM → Prop) (l1 : Nat) (l2 : Nat) (M : xM) (Q : Int32 → xM → Prop) : Prop := (l2 < 2147483648 ∧ (M.1 17 < 2147483648 ∧ ((M.1 17 ≤ l2 → (M.1 16 < 160 ∧ (M.2.1 0 (M.1 16) < 2147483648 ∧ ((M.2.1 0 (M.1 16) = 45 → Q (-(nI l1)) M) ∧ (¬ (M.2.1 0 (M.1 16) = 45) → Q (nI l1) M))))) ∧ (¬ (M.1 17 ≤ l2) → (M.1 16 + l2 < 160 ∧ (48 ≤ 10 * l1 + (M.2.1 0 (M.1 16 + l2)) ∧ K (10 * l1 + (M.2.1 0 (M.1 16 + l2)) - 48) (l2 + 1) M))))))
set_option maxRecDepth 8000 in
set_option maxHeartbeats 4000000 in
theorem pi_R_number_22 (L : Nat) (xs : Nat → Int32) (d : Nat) (Q : Int32 → xM → Prop) (K : Nat → Nat → xM → Prop) (hK : ∀ (l1 : Nat) (l2 : Nat) (M : xM), K l1 l2 M → xG xem (xgt L xs) (d) xi_R_number (22, [(0, .ref 22), (1, .int (nI l1)), (2, .int (nI l2))], []) M (xPI Q)) (l1 : Nat) (l2 : Nat) (M : xM) (h : wi_R_number_22 K l1 l2 M Q) : xG xem (xgt L xs) (d) xi_R_number (22, [(0, .ref 22), (1, .int (nI l1)), (2, .int (nI l2))], []) M (xPI Q) := by
  unfold wi_R_number_22 at h
  refine xG.seg 3 (f' := (27, [(0, .ref 22), (1, .int (nI l1)), (2, .int (nI l2))], [.int (nI (M.1 17)), .int (nI l2)])) (x1 := M) (fun _ => rfl) ?_
  obtain ⟨c2001, h⟩ := h
  obtain ⟨c2002, h⟩ := h
  refine xG.icmp (t := 56) (A := M.1 17 ≤ l2) rfl rfl (xe_c (xt_N c2001) (xt_N c2002) (by dsimp only; omega)) (fun k2003 => ?_) (fun k2003 => ?_)
  · replace h := h.1 k2003
    refine xG.seg 4 (f' := (64, [(0, .ref 22), (1, .int (nI l1)), (2, .int (nI l2))], [.int (nI (M.1 16)), .ref 23])) (x1 := M) (fun _ => rfl) ?_
    obtain ⟨c2004, h⟩ := h
    refine xG.iald rfl (Or.inl ⟨rfl, rfl⟩) (by decide) (fun _ => rfl) (by decide) c2004 ?_
    refine xG.eqf (f' := (65, [(0, .ref 22), (1, .int (nI l1)), (2, .int (nI l2))], [.int (nI (M.2.1 0 (M.1 16)))])) rfl ?_
    refine xG.seg 1 (f' := (67, [(0, .ref 22), (1, .int (nI l1)), (2, .int (nI l2))], [.int (nI 45), .int (nI (M.2.1 0 (M.1 16)))])) (x1 := M) (fun _ => rfl) ?_
    obtain ⟨c2005, h⟩ := h
    refine xG.icmp (t := 75) (A := ¬ (M.2.1 0 (M.1 16) = 45)) rfl rfl (xe_c (xt_N c2005) (show ((nI 45) : Int32).toInt = 45 from by decide) (by dsimp only; omega)) (fun k2006 => ?_) (fun k2006 => ?_)
    · replace h := h.2 k2006
      refine xG.seg 1 (f' := (76, [(0, .ref 22), (1, .int (nI l1)), (2, .int (nI l2))], [.int (nI l1)])) (x1 := M) (fun _ => rfl) ?_
      exact xG.fin (fun _ => rfl) (⟨(nI l1), rfl, h⟩)
    · replace h := h.1 (Classical.not_not.mp k2006)
      refine xG.seg 3 (f' := (76, [(0, .ref 22), (1, .int (nI l1)), (2, .int (nI l2))], [.int (-(nI l1))])) (x1 := M) (fun _ => rfl) ?_
      exact xG.fin (fun _ => rfl) (⟨(-(nI l1)), rfl, h⟩)
  · replace h := h.2 k2003
    refine xG.seg 3 (f' := (34, [(0, .ref 22), (1, .int (nI l1)), (2, .int (nI l2))], [.int ((nI 10) * (nI l1))])) (x1 := M) (fun _ => rfl) ?_
    refine xG.conv (xe_mul _ _) ?_
    refine xG.seg 6 (f' := (44, [(0, .ref 22), (1, .int (nI l1)), (2, .int (nI l2))], [.int ((nI (M.1 16)) + (nI l2)), .ref 23, .int (nI (10 * l1))])) (x1 := M) (fun _ => rfl) ?_
    refine xG.conv (xe_add (M.1 16) l2) ?_
    refine xG.eqf (f' := (44, [(0, .ref 22), (1, .int (nI l1)), (2, .int (nI l2))], [.int (nI (M.1 16 + l2)), .ref 23, .int (nI (10 * l1))])) rfl ?_
    obtain ⟨c2007, h⟩ := h
    refine xG.iald rfl (Or.inl ⟨rfl, rfl⟩) (by decide) (fun _ => rfl) (by decide) c2007 ?_
    refine xG.eqf (f' := (45, [(0, .ref 22), (1, .int (nI l1)), (2, .int (nI l2))], [.int (nI (M.2.1 0 (M.1 16 + l2))), .int (nI (10 * l1))])) rfl ?_
    refine xG.seg 1 (f' := (46, [(0, .ref 22), (1, .int (nI l1)), (2, .int (nI l2))], [.int ((nI (10 * l1)) + (nI (M.2.1 0 (M.1 16 + l2))))])) (x1 := M) (fun _ => rfl) ?_
    refine xG.conv (xe_add (10 * l1) (M.2.1 0 (M.1 16 + l2))) ?_
    refine xG.eqf (f' := (46, [(0, .ref 22), (1, .int (nI l1)), (2, .int (nI l2))], [.int (nI (10 * l1 + (M.2.1 0 (M.1 16 + l2))))])) rfl ?_
    refine xG.seg 3 (f' := (50, [(1, .int (nI (10 * l1 + (M.2.1 0 (M.1 16 + l2))) - nI 48)), (0, .ref 22), (2, .int (nI l2))], [])) (x1 := M) (fun _ => rfl) ?_
    refine xG.iinc (v := (nI l2)) (w := (nI (l2 + 1))) rfl rfl (by decide) (xe_add l2 1) ?_
    refine xG.eqf (f' := (53, [(2, .int (nI (l2 + 1))), (1, .int (nI (10 * l1 + (M.2.1 0 (M.1 16 + l2))) - nI 48)), (0, .ref 22)], [])) rfl ?_
    refine xG.seg 1 (f' := (22, [(2, .int (nI (l2 + 1))), (1, .int (nI (10 * l1 + (M.2.1 0 (M.1 16 + l2))) - nI 48)), (0, .ref 22)], [])) (x1 := M) (fun _ => rfl) ?_
    obtain ⟨c2008, h⟩ := h
    refine xG.eqf (f' := (22, [(2, .int (nI (l2 + 1))), (1, .int (nI (10 * l1 + (M.2.1 0 (M.1 16 + l2)) - 48))), (0, .ref 22)], [])) (by rw [xe_cut c2008]) ?_
    refine xG.lv (lv := [(0, .ref 22), (1, .int (nI (10 * l1 + (M.2.1 0 (M.1 16 + l2)) - 48))), (2, .int (nI (l2 + 1)))]) (lv' := [(2, .int (nI (l2 + 1))), (1, .int (nI (10 * l1 + (M.2.1 0 (M.1 16 + l2)) - 48))), (0, .ref 22)]) rfl rfl rfl ?_
    exact hK (10 * l1 + (M.2.1 0 (M.1 16 + l2)) - 48) (l2 + 1) M h

def w_R_number_22 : Nat → Nat → Nat → (xM) → (Int32 → xM → Prop) → Prop
  | 0, _, _, _, _ => False
  | n + 1, l1, l2, C, Q => wi_R_number_22 (fun l1 l2 C => w_R_number_22 n l1 l2 C Q) l1 l2 C Q
theorem p_R_number_22 (L : Nat) (xs : Nat → Int32) (d : Nat) (Q : Int32 → xM → Prop) : ∀ (n : Nat) (l1 : Nat) (l2 : Nat) (M : xM), w_R_number_22 n l1 l2 M Q → xG xem (xgt L xs) (d) xi_R_number (22, [(0, .ref 22), (1, .int (nI l1)), (2, .int (nI l2))], []) M (xPI Q)
  | 0, _, _, _, h => by cases h
  | n + 1, l1, l2, C, h => pi_R_number_22 L xs d Q (fun l1 l2 C => w_R_number_22 n l1 l2 C Q) (fun l1 l2 C h => p_R_number_22 L xs d Q n l1 l2 C h) l1 l2 C h

def w_R_number (M : xM) (Q : Int32 → xM → Prop) : Prop := (M.1 16 < 160 ∧ (M.2.1 0 (M.1 16) < 2147483648 ∧ ((M.2.1 0 (M.1 16) = 45 → ∃ fu5 : Nat, w_R_number_22 fu5 0 1 M Q) ∧ (¬ (M.2.1 0 (M.1 16) = 45) → ∃ fu4 : Nat, w_R_number_22 fu4 0 0 M Q))))
set_option maxRecDepth 8000 in
set_option maxHeartbeats 4000000 in
theorem p_R_number (L : Nat) (xs : Nat → Int32) (d : Nat) (M : xM) (Q : Int32 → xM → Prop) (h : w_R_number M Q) : xG xem (xgt L xs) (d) xi_R_number (0, [(0, .ref 22)], []) M (xPI Q) := by
  unfold w_R_number at h
  refine xG.seg 6 (f' := (10, [(1, .int (nI 0)), (0, .ref 22)], [.int (nI (M.1 16)), .ref 23])) (x1 := M) (fun _ => rfl) ?_
  obtain ⟨c1, h⟩ := h
  refine xG.iald rfl (Or.inl ⟨rfl, rfl⟩) (by decide) (fun _ => rfl) (by decide) c1 ?_
  refine xG.eqf (f' := (11, [(1, .int (nI 0)), (0, .ref 22)], [.int (nI (M.2.1 0 (M.1 16)))])) rfl ?_
  refine xG.seg 1 (f' := (13, [(1, .int (nI 0)), (0, .ref 22)], [.int (nI 45), .int (nI (M.2.1 0 (M.1 16)))])) (x1 := M) (fun _ => rfl) ?_
  obtain ⟨c2, h⟩ := h
  refine xG.icmp (t := 20) (A := ¬ (M.2.1 0 (M.1 16) = 45)) rfl rfl (xe_c (xt_N c2) (show ((nI 45) : Int32).toInt = 45 from by decide) (by dsimp only; omega)) (fun k3 => ?_) (fun k3 => ?_)
  · replace h := h.2 k3
    refine xG.seg 2 (f' := (22, [(2, .int (nI 0)), (1, .int (nI 0)), (0, .ref 22)], [])) (x1 := M) (fun _ => rfl) ?_
    refine xG.lv (lv := [(0, .ref 22), (1, .int (nI 0)), (2, .int (nI 0))]) (lv' := [(2, .int (nI 0)), (1, .int (nI 0)), (0, .ref 22)]) rfl rfl rfl ?_
    obtain ⟨fu4, h⟩ := h
    exact p_R_number_22 L xs d Q fu4 0 0 M h
  · replace h := h.1 (Classical.not_not.mp k3)
    refine xG.seg 3 (f' := (22, [(2, .int (nI 1)), (1, .int (nI 0)), (0, .ref 22)], [])) (x1 := M) (fun _ => rfl) ?_
    refine xG.lv (lv := [(0, .ref 22), (1, .int (nI 0)), (2, .int (nI 1))]) (lv' := [(2, .int (nI 1)), (1, .int (nI 0)), (0, .ref 22)]) rfl rfl rfl ?_
    obtain ⟨fu5, h⟩ := h
    exact p_R_number_22 L xs d Q fu5 0 1 M h

def w_R_takes (x1 : Nat) (M : xM) (Q : Nat → xM → Prop) : Prop := (x1 < 2147483648 ∧ ((14 ≤ x1 → (x1 < 2147483648 ∧ ((22 ≤ x1 → (x1 < 2147483648 ∧ ((x1 = 24 → Q 3 M) ∧ (¬ (x1 = 24) → (x1 < 2147483648 ∧ ((29 ≤ x1 → (x1 < 2147483648 ∧ ((x1 = 31 → Q 2 M) ∧ (¬ (x1 = 31) → (x1 < 2147483648 ∧ ((x1 = 32 → Q 2 M) ∧ (¬ (x1 = 32) → (x1 < 2147483648 ∧ ((x1 = 47 → Q 2 M) ∧ (¬ (x1 = 47) → (x1 < 2147483648 ∧ ((x1 = 30 → Q 1 M) ∧ (¬ (x1 = 30) → (x1 < 2147483648 ∧ ((x1 = 33 → Q 1 M) ∧ (¬ (x1 = 33) → (x1 < 2147483648 ∧ ((x1 = 36 → Q 1 M) ∧ (¬ (x1 = 36) → (x1 < 2147483648 ∧ ((x1 = 45 → Q 1 M) ∧ (¬ (x1 = 45) → Q 0 M)))))))))))))))))))))) ∧ (¬ (29 ≤ x1) → Q 2 M))))))) ∧ (¬ (22 ≤ x1) → Q 1 M)))) ∧ (¬ (14 ≤ x1) → Q 2 M)))
set_option maxRecDepth 8000 in
set_option maxHeartbeats 4000000 in
theorem p_R_takes (L : Nat) (xs : Nat → Int32) (d : Nat) (x1 : Nat) (M : xM) (Q : Nat → xM → Prop) (h : w_R_takes x1 M Q) : xG xem (xgt L xs) (d) xi_R_takes (0, [(0, .int (nI x1))], []) M (xPN Q) := by
  unfold w_R_takes at h
  refine xG.seg 2 (f' := (3, [(0, .int (nI x1))], [.int (nI 14), .int (nI x1)])) (x1 := M) (fun _ => rfl) ?_
  obtain ⟨c1, h⟩ := h
  refine xG.icmp (t := 8) (A := 14 ≤ x1) rfl rfl (xe_c (xt_N c1) (show ((nI 14) : Int32).toInt = 14 from by decide) (by dsimp only; omega)) (fun k2 => ?_) (fun k2 => ?_)
  · replace h := h.1 k2
    refine xG.seg 2 (f' := (11, [(0, .int (nI x1))], [.int (nI 22), .int (nI x1)])) (x1 := M) (fun _ => rfl) ?_
    obtain ⟨c3, h⟩ := h
    refine xG.icmp (t := 16) (A := 22 ≤ x1) rfl rfl (xe_c (xt_N c3) (show ((nI 22) : Int32).toInt = 22 from by decide) (by dsimp only; omega)) (fun k4 => ?_) (fun k4 => ?_)
    · replace h := h.1 k4
      refine xG.seg 2 (f' := (19, [(0, .int (nI x1))], [.int (nI 24), .int (nI x1)])) (x1 := M) (fun _ => rfl) ?_
      obtain ⟨c5, h⟩ := h
      refine xG.icmp (t := 24) (A := ¬ (x1 = 24)) rfl rfl (xe_c (xt_N c5) (show ((nI 24) : Int32).toInt = 24 from by decide) (by dsimp only; omega)) (fun k6 => ?_) (fun k6 => ?_)
      · replace h := h.2 k6
        refine xG.seg 2 (f' := (27, [(0, .int (nI x1))], [.int (nI 29), .int (nI x1)])) (x1 := M) (fun _ => rfl) ?_
        obtain ⟨c7, h⟩ := h
        refine xG.icmp (t := 32) (A := 29 ≤ x1) rfl rfl (xe_c (xt_N c7) (show ((nI 29) : Int32).toInt = 29 from by decide) (by dsimp only; omega)) (fun k8 => ?_) (fun k8 => ?_)
        · replace h := h.1 k8
          refine xG.seg 2 (f' := (35, [(0, .int (nI x1))], [.int (nI 31), .int (nI x1)])) (x1 := M) (fun _ => rfl) ?_
          obtain ⟨c9, h⟩ := h
          refine xG.icmp (t := 50) (A := x1 = 31) rfl rfl (xe_c (xt_N c9) (show ((nI 31) : Int32).toInt = 31 from by decide) (by dsimp only; omega)) (fun k10 => ?_) (fun k10 => ?_)
          · replace h := h.1 k10
            refine xG.seg 1 (f' := (51, [(0, .int (nI x1))], [.int (nI 2)])) (x1 := M) (fun _ => rfl) ?_
            exact xG.fin (fun _ => rfl) (⟨_, rfl, h⟩)
          · replace h := h.2 k10
            refine xG.seg 2 (f' := (41, [(0, .int (nI x1))], [.int (nI 32), .int (nI x1)])) (x1 := M) (fun _ => rfl) ?_
            obtain ⟨c11, h⟩ := h
            refine xG.icmp (t := 50) (A := x1 = 32) rfl rfl (xe_c (xt_N c11) (show ((nI 32) : Int32).toInt = 32 from by decide) (by dsimp only; omega)) (fun k12 => ?_) (fun k12 => ?_)
            · replace h := h.1 k12
              refine xG.seg 1 (f' := (51, [(0, .int (nI x1))], [.int (nI 2)])) (x1 := M) (fun _ => rfl) ?_
              exact xG.fin (fun _ => rfl) (⟨_, rfl, h⟩)
            · replace h := h.2 k12
              refine xG.seg 2 (f' := (47, [(0, .int (nI x1))], [.int (nI 47), .int (nI x1)])) (x1 := M) (fun _ => rfl) ?_
              obtain ⟨c13, h⟩ := h
              refine xG.icmp (t := 52) (A := ¬ (x1 = 47)) rfl rfl (xe_c (xt_N c13) (show ((nI 47) : Int32).toInt = 47 from by decide) (by dsimp only; omega)) (fun k14 => ?_) (fun k14 => ?_)
              · replace h := h.2 k14
                refine xG.seg 2 (f' := (55, [(0, .int (nI x1))], [.int (nI 30), .int (nI x1)])) (x1 := M) (fun _ => rfl) ?_
                obtain ⟨c15, h⟩ := h
                refine xG.icmp (t := 76) (A := x1 = 30) rfl rfl (xe_c (xt_N c15) (show ((nI 30) : Int32).toInt = 30 from by decide) (by dsimp only; omega)) (fun k16 => ?_) (fun k16 => ?_)
                · replace h := h.1 k16
                  refine xG.seg 2 (f' := (81, [(0, .int (nI x1))], [.int (nI 1)])) (x1 := M) (fun _ => rfl) ?_
                  exact xG.fin (fun _ => rfl) (⟨_, rfl, h⟩)
                · replace h := h.2 k16
                  refine xG.seg 2 (f' := (61, [(0, .int (nI x1))], [.int (nI 33), .int (nI x1)])) (x1 := M) (fun _ => rfl) ?_
                  obtain ⟨c17, h⟩ := h
                  refine xG.icmp (t := 76) (A := x1 = 33) rfl rfl (xe_c (xt_N c17) (show ((nI 33) : Int32).toInt = 33 from by decide) (by dsimp only; omega)) (fun k18 => ?_) (fun k18 => ?_)
                  · replace h := h.1 k18
                    refine xG.seg 2 (f' := (81, [(0, .int (nI x1))], [.int (nI 1)])) (x1 := M) (fun _ => rfl) ?_
                    exact xG.fin (fun _ => rfl) (⟨_, rfl, h⟩)
                  · replace h := h.2 k18
                    refine xG.seg 2 (f' := (67, [(0, .int (nI x1))], [.int (nI 36), .int (nI x1)])) (x1 := M) (fun _ => rfl) ?_
                    obtain ⟨c19, h⟩ := h
                    refine xG.icmp (t := 76) (A := x1 = 36) rfl rfl (xe_c (xt_N c19) (show ((nI 36) : Int32).toInt = 36 from by decide) (by dsimp only; omega)) (fun k20 => ?_) (fun k20 => ?_)
                    · replace h := h.1 k20
                      refine xG.seg 2 (f' := (81, [(0, .int (nI x1))], [.int (nI 1)])) (x1 := M) (fun _ => rfl) ?_
                      exact xG.fin (fun _ => rfl) (⟨_, rfl, h⟩)
                    · replace h := h.2 k20
                      refine xG.seg 2 (f' := (73, [(0, .int (nI x1))], [.int (nI 45), .int (nI x1)])) (x1 := M) (fun _ => rfl) ?_
                      obtain ⟨c21, h⟩ := h
                      refine xG.icmp (t := 80) (A := ¬ (x1 = 45)) rfl rfl (xe_c (xt_N c21) (show ((nI 45) : Int32).toInt = 45 from by decide) (by dsimp only; omega)) (fun k22 => ?_) (fun k22 => ?_)
                      · replace h := h.2 k22
                        refine xG.seg 1 (f' := (81, [(0, .int (nI x1))], [.int (nI 0)])) (x1 := M) (fun _ => rfl) ?_
                        exact xG.fin (fun _ => rfl) (⟨_, rfl, h⟩)
                      · replace h := h.1 (Classical.not_not.mp k22)
                        refine xG.seg 2 (f' := (81, [(0, .int (nI x1))], [.int (nI 1)])) (x1 := M) (fun _ => rfl) ?_
                        exact xG.fin (fun _ => rfl) (⟨_, rfl, h⟩)
              · replace h := h.1 (Classical.not_not.mp k14)
                refine xG.seg 1 (f' := (51, [(0, .int (nI x1))], [.int (nI 2)])) (x1 := M) (fun _ => rfl) ?_
                exact xG.fin (fun _ => rfl) (⟨_, rfl, h⟩)
        · replace h := h.2 k8
          refine xG.seg 1 (f' := (31, [(0, .int (nI x1))], [.int (nI 2)])) (x1 := M) (fun _ => rfl) ?_
          exact xG.fin (fun _ => rfl) (⟨_, rfl, h⟩)
      · replace h := h.1 (Classical.not_not.mp k6)
        refine xG.seg 1 (f' := (23, [(0, .int (nI x1))], [.int (nI 3)])) (x1 := M) (fun _ => rfl) ?_
        exact xG.fin (fun _ => rfl) (⟨_, rfl, h⟩)
    · replace h := h.2 k4
      refine xG.seg 1 (f' := (15, [(0, .int (nI x1))], [.int (nI 1)])) (x1 := M) (fun _ => rfl) ?_
      exact xG.fin (fun _ => rfl) (⟨_, rfl, h⟩)
  · replace h := h.2 k2
    refine xG.seg 1 (f' := (7, [(0, .int (nI x1))], [.int (nI 2)])) (x1 := M) (fun _ => rfl) ?_
    exact xG.fin (fun _ => rfl) (⟨_, rfl, h⟩)

def w_R_fits_124 (l1 : Nat) (M : xM) (Q : Nat → xM → Prop) : Prop := (l1 < 2147483648 ∧ ((l1 = 48 → (M.1 10 < 2147483648 ∧ ((2 ≤ M.1 10 → (M.1 1 < 2147483648 ∧ ((M.1 1 = 0 → Q 1 M) ∧ (¬ (M.1 1 = 0) → Q 0 M)))) ∧ (¬ (2 ≤ M.1 10) → w_R_wrong 3 M (fun M8009 => (M8009.1 1 < 2147483648 ∧ ((M8009.1 1 = 0 → Q 1 M8009) ∧ (¬ (M8009.1 1 = 0) → Q 0 M8009)))))))) ∧ (¬ (l1 = 48) → (M.1 1 < 2147483648 ∧ ((M.1 1 = 0 → Q 1 M) ∧ (¬ (M.1 1 = 0) → Q 0 M))))))
set_option maxRecDepth 8000 in
set_option maxHeartbeats 4000000 in
theorem p_R_fits_124 (L : Nat) (xs : Nat → Int32) (d : Nat) (Q : Nat → xM → Prop) (l1 : Nat) (M : xM) (h : w_R_fits_124 l1 M Q) : xG xem (xgt L xs) (d + 1) xi_R_fits (124, [(0, .ref 22), (1, .int (nI l1))], []) M (xPN Q) := by
  unfold w_R_fits_124 at h
  refine xG.seg 2 (f' := (127, [(0, .ref 22), (1, .int (nI l1))], [.int (nI 48), .int (nI l1)])) (x1 := M) (fun _ => rfl) ?_
  obtain ⟨c8001, h⟩ := h
  refine xG.icmp (t := 143) (A := ¬ (l1 = 48)) rfl rfl (xe_c (xt_N c8001) (show ((nI 48) : Int32).toInt = 48 from by decide) (by dsimp only; omega)) (fun k8002 => ?_) (fun k8002 => ?_)
  · replace h := h.2 k8002
    refine xG.seg 2 (f' := (147, [(0, .ref 22), (1, .int (nI l1))], [.int (nI (M.1 1))])) (x1 := M) (fun _ => rfl) ?_
    obtain ⟨c8003, h⟩ := h
    refine xG.ifc (t := 154) (A := ¬ (M.1 1 = 0)) rfl rfl (xe_c (xt_N c8003) (show (0 : Int32).toInt = 0 from by decide) (by dsimp only; omega)) (fun k8004 => ?_) (fun k8004 => ?_)
    · replace h := h.2 k8004
      refine xG.seg 1 (f' := (155, [(0, .ref 22), (1, .int (nI l1))], [.int (nI 0)])) (x1 := M) (fun _ => rfl) ?_
      exact xG.fin (fun _ => rfl) (⟨_, rfl, h⟩)
    · replace h := h.1 (Classical.not_not.mp k8004)
      refine xG.seg 2 (f' := (155, [(0, .ref 22), (1, .int (nI l1))], [.int (nI 1)])) (x1 := M) (fun _ => rfl) ?_
      exact xG.fin (fun _ => rfl) (⟨_, rfl, h⟩)
  · replace h := h.1 (Classical.not_not.mp k8002)
    refine xG.seg 3 (f' := (135, [(0, .ref 22), (1, .int (nI l1))], [.int (nI 2), .int (nI (M.1 10))])) (x1 := M) (fun _ => rfl) ?_
    obtain ⟨c8005, h⟩ := h
    refine xG.icmp (t := 143) (A := 2 ≤ M.1 10) rfl rfl (xe_c (xt_N c8005) (show ((nI 2) : Int32).toInt = 2 from by decide) (by dsimp only; omega)) (fun k8006 => ?_) (fun k8006 => ?_)
    · replace h := h.1 k8006
      refine xG.seg 2 (f' := (147, [(0, .ref 22), (1, .int (nI l1))], [.int (nI (M.1 1))])) (x1 := M) (fun _ => rfl) ?_
      obtain ⟨c8007, h⟩ := h
      refine xG.ifc (t := 154) (A := ¬ (M.1 1 = 0)) rfl rfl (xe_c (xt_N c8007) (show (0 : Int32).toInt = 0 from by decide) (by dsimp only; omega)) (fun k8008 => ?_) (fun k8008 => ?_)
      · replace h := h.2 k8008
        refine xG.seg 1 (f' := (155, [(0, .ref 22), (1, .int (nI l1))], [.int (nI 0)])) (x1 := M) (fun _ => rfl) ?_
        exact xG.fin (fun _ => rfl) (⟨_, rfl, h⟩)
      · replace h := h.1 (Classical.not_not.mp k8008)
        refine xG.seg 2 (f' := (155, [(0, .ref 22), (1, .int (nI l1))], [.int (nI 1)])) (x1 := M) (fun _ => rfl) ?_
        exact xG.fin (fun _ => rfl) (⟨_, rfl, h⟩)
    · replace h := h.2 k8006
      refine xG.seg 2 (f' := (140, [(0, .ref 22), (1, .int (nI l1))], [.int (nI 3), .ref 22])) (x1 := M) (fun _ => rfl) ?_
      refine xG.call (d := d) (vs := [.ref 22, .int (nI 3)]) (g := (140, [(0, .ref 22), (1, .int (nI l1))], [])) (fun _ => rfl) rfl (p_R_wrong L xs d 3 M _ h) ?_
      clear h
      rintro _ M8009 ⟨rfl, h⟩
      refine ⟨_, rfl, ?_⟩
      refine xG.eqf (f' := (143, [(0, .ref 22), (1, .int (nI l1))], [])) rfl ?_
      refine xG.seg 2 (f' := (147, [(0, .ref 22), (1, .int (nI l1))], [.int (nI (M8009.1 1))])) (x1 := M8009) (fun _ => rfl) ?_
      obtain ⟨c8010, h⟩ := h
      refine xG.ifc (t := 154) (A := ¬ (M8009.1 1 = 0)) rfl rfl (xe_c (xt_N c8010) (show (0 : Int32).toInt = 0 from by decide) (by dsimp only; omega)) (fun k8011 => ?_) (fun k8011 => ?_)
      · replace h := h.2 k8011
        refine xG.seg 1 (f' := (155, [(0, .ref 22), (1, .int (nI l1))], [.int (nI 0)])) (x1 := M8009) (fun _ => rfl) ?_
        exact xG.fin (fun _ => rfl) (⟨_, rfl, h⟩)
      · replace h := h.1 (Classical.not_not.mp k8011)
        refine xG.seg 2 (f' := (155, [(0, .ref 22), (1, .int (nI l1))], [.int (nI 1)])) (x1 := M8009) (fun _ => rfl) ?_
        exact xG.fin (fun _ => rfl) (⟨_, rfl, h⟩)

def w_R_fits_109 (l1 : Nat) (M : xM) (Q : Nat → xM → Prop) : Prop := (l1 < 2147483648 ∧ ((l1 = 47 → (M.1 10 < 2147483648 ∧ ((22 < M.1 10 → w_R_wrong 3 M (fun M7005 => (M7005.1 1 < 2147483648 ∧ ((M7005.1 1 = 0 → Q 1 M7005) ∧ (¬ (M7005.1 1 = 0) → Q 0 M7005))))) ∧ (¬ (22 < M.1 10) → w_R_fits_124 l1 M Q)))) ∧ (¬ (l1 = 47) → w_R_fits_124 l1 M Q)))
set_option maxRecDepth 8000 in
set_option maxHeartbeats 4000000 in
theorem p_R_fits_109 (L : Nat) (xs : Nat → Int32) (d : Nat) (Q : Nat → xM → Prop) (l1 : Nat) (M : xM) (h : w_R_fits_109 l1 M Q) : xG xem (xgt L xs) (d + 1) xi_R_fits (109, [(0, .ref 22), (1, .int (nI l1))], []) M (xPN Q) := by
  unfold w_R_fits_109 at h
  refine xG.seg 2 (f' := (112, [(0, .ref 22), (1, .int (nI l1))], [.int (nI 47), .int (nI l1)])) (x1 := M) (fun _ => rfl) ?_
  obtain ⟨c7001, h⟩ := h
  refine xG.icmp (t := 124) (A := ¬ (l1 = 47)) rfl rfl (xe_c (xt_N c7001) (show ((nI 47) : Int32).toInt = 47 from by decide) (by dsimp only; omega)) (fun k7002 => ?_) (fun k7002 => ?_)
  · replace h := h.2 k7002
    refine xG.lv (lv := [(0, .ref 22), (1, .int (nI l1))]) (lv' := [(0, .ref 22), (1, .int (nI l1))]) rfl rfl rfl ?_
    exact p_R_fits_124 L xs d Q l1 M h
  · replace h := h.1 (Classical.not_not.mp k7002)
    refine xG.seg 3 (f' := (121, [(0, .ref 22), (1, .int (nI l1))], [.int (nI 22), .int (nI (M.1 10))])) (x1 := M) (fun _ => rfl) ?_
    obtain ⟨c7003, h⟩ := h
    refine xG.icmp (t := 138) (A := 22 < M.1 10) rfl rfl (xe_c (xt_N c7003) (show ((nI 22) : Int32).toInt = 22 from by decide) (by dsimp only; omega)) (fun k7004 => ?_) (fun k7004 => ?_)
    · replace h := h.1 k7004
      refine xG.seg 2 (f' := (140, [(0, .ref 22), (1, .int (nI l1))], [.int (nI 3), .ref 22])) (x1 := M) (fun _ => rfl) ?_
      refine xG.call (d := d) (vs := [.ref 22, .int (nI 3)]) (g := (140, [(0, .ref 22), (1, .int (nI l1))], [])) (fun _ => rfl) rfl (p_R_wrong L xs d 3 M _ h) ?_
      clear h
      rintro _ M7005 ⟨rfl, h⟩
      refine ⟨_, rfl, ?_⟩
      refine xG.eqf (f' := (143, [(0, .ref 22), (1, .int (nI l1))], [])) rfl ?_
      refine xG.seg 2 (f' := (147, [(0, .ref 22), (1, .int (nI l1))], [.int (nI (M7005.1 1))])) (x1 := M7005) (fun _ => rfl) ?_
      obtain ⟨c7006, h⟩ := h
      refine xG.ifc (t := 154) (A := ¬ (M7005.1 1 = 0)) rfl rfl (xe_c (xt_N c7006) (show (0 : Int32).toInt = 0 from by decide) (by dsimp only; omega)) (fun k7007 => ?_) (fun k7007 => ?_)
      · replace h := h.2 k7007
        refine xG.seg 1 (f' := (155, [(0, .ref 22), (1, .int (nI l1))], [.int (nI 0)])) (x1 := M7005) (fun _ => rfl) ?_
        exact xG.fin (fun _ => rfl) (⟨_, rfl, h⟩)
      · replace h := h.1 (Classical.not_not.mp k7007)
        refine xG.seg 2 (f' := (155, [(0, .ref 22), (1, .int (nI l1))], [.int (nI 1)])) (x1 := M7005) (fun _ => rfl) ?_
        exact xG.fin (fun _ => rfl) (⟨_, rfl, h⟩)
    · replace h := h.2 k7004
      refine xG.lv (lv := [(0, .ref 22), (1, .int (nI l1))]) (lv' := [(0, .ref 22), (1, .int (nI l1))]) rfl rfl rfl ?_
      exact p_R_fits_124 L xs d Q l1 M h

def w_R_fits_104 (l1 : Nat) (M : xM) (Q : Nat → xM → Prop) : Prop := w_R_wrong 3 M (fun M9001 => w_R_fits_109 l1 M9001 Q)
set_option maxRecDepth 8000 in
set_option maxHeartbeats 4000000 in
theorem p_R_fits_104 (L : Nat) (xs : Nat → Int32) (d : Nat) (Q : Nat → xM → Prop) (l1 : Nat) (M : xM) (h : w_R_fits_104 l1 M Q) : xG xem (xgt L xs) (d + 1) xi_R_fits (104, [(0, .ref 22), (1, .int (nI l1))], []) M (xPN Q) := by
  unfold w_R_fits_104 at h
  refine xG.seg 2 (f' := (106, [(0, .ref 22), (1, .int (nI l1))], [.int (nI 3), .ref 22])) (x1 := M) (fun _ => rfl) ?_
  refine xG.call (d := d) (vs := [.ref 22, .int (nI 3)]) (g := (106, [(0, .ref 22), (1, .int (nI l1))], [])) (fun _ => rfl) rfl (p_R_wrong L xs d 3 M _ h) ?_
  clear h
  rintro _ M9001 ⟨rfl, h⟩
  refine ⟨_, rfl, ?_⟩
  refine xG.eqf (f' := (109, [(0, .ref 22), (1, .int (nI l1))], [])) rfl ?_
  refine xG.lv (lv := [(0, .ref 22), (1, .int (nI l1))]) (lv' := [(0, .ref 22), (1, .int (nI l1))]) rfl rfl rfl ?_
  exact p_R_fits_109 L xs d Q l1 M9001 h

def w_R_fits_97 (l1 : Nat) (M : xM) (Q : Nat → xM → Prop) : Prop := (M.1 10 < 2147483648 ∧ ((M.1 10 = 0 → w_R_fits_104 l1 M Q) ∧ (¬ (M.1 10 = 0) → w_R_fits_109 l1 M Q)))
set_option maxRecDepth 8000 in
set_option maxHeartbeats 4000000 in
theorem p_R_fits_97 (L : Nat) (xs : Nat → Int32) (d : Nat) (Q : Nat → xM → Prop) (l1 : Nat) (M : xM) (h : w_R_fits_97 l1 M Q) : xG xem (xgt L xs) (d + 1) xi_R_fits (97, [(0, .ref 22), (1, .int (nI l1))], []) M (xPN Q) := by
  unfold w_R_fits_97 at h
  refine xG.seg 2 (f' := (101, [(0, .ref 22), (1, .int (nI l1))], [.int (nI (M.1 10))])) (x1 := M) (fun _ => rfl) ?_
  obtain ⟨c6001, h⟩ := h
  refine xG.ifc (t := 109) (A := ¬ (M.1 10 = 0)) rfl rfl (xe_c (xt_N c6001) (show (0 : Int32).toInt = 0 from by decide) (by dsimp only; omega)) (fun k6002 => ?_) (fun k6002 => ?_)
  · replace h := h.2 k6002
    refine xG.lv (lv := [(0, .ref 22), (1, .int (nI l1))]) (lv' := [(0, .ref 22), (1, .int (nI l1))]) rfl rfl rfl ?_
    exact p_R_fits_109 L xs d Q l1 M h
  · replace h := h.1 (Classical.not_not.mp k6002)
    refine xG.lv (lv := [(0, .ref 22), (1, .int (nI l1))]) (lv' := [(0, .ref 22), (1, .int (nI l1))]) rfl rfl rfl ?_
    exact p_R_fits_104 L xs d Q l1 M h

def w_R_fits_85 (l1 : Nat) (M : xM) (Q : Nat → xM → Prop) : Prop := (l1 < 2147483648 ∧ ((l1 = 34 → w_R_fits_97 l1 M Q) ∧ (¬ (l1 = 34) → (l1 < 2147483648 ∧ ((l1 = 35 → w_R_fits_97 l1 M Q) ∧ (¬ (l1 = 35) → w_R_fits_109 l1 M Q))))))
set_option maxRecDepth 8000 in
set_option maxHeartbeats 4000000 in
theorem p_R_fits_85 (L : Nat) (xs : Nat → Int32) (d : Nat) (Q : Nat → xM → Prop) (l1 : Nat) (M : xM) (h : w_R_fits_85 l1 M Q) : xG xem (xgt L xs) (d + 1) xi_R_fits (85, [(0, .ref 22), (1, .int (nI l1))], []) M (xPN Q) := by
  unfold w_R_fits_85 at h
  refine xG.seg 2 (f' := (88, [(0, .ref 22), (1, .int (nI l1))], [.int (nI 34), .int (nI l1)])) (x1 := M) (fun _ => rfl) ?_
  obtain ⟨c5001, h⟩ := h
  refine xG.icmp (t := 97) (A := l1 = 34) rfl rfl (xe_c (xt_N c5001) (show ((nI 34) : Int32).toInt = 34 from by decide) (by dsimp only; omega)) (fun k5002 => ?_) (fun k5002 => ?_)
  · replace h := h.1 k5002
    refine xG.lv (lv := [(0, .ref 22), (1, .int (nI l1))]) (lv' := [(0, .ref 22), (1, .int (nI l1))]) rfl rfl rfl ?_
    exact p_R_fits_97 L xs d Q l1 M h
  · replace h := h.2 k5002
    refine xG.seg 2 (f' := (94, [(0, .ref 22), (1, .int (nI l1))], [.int (nI 35), .int (nI l1)])) (x1 := M) (fun _ => rfl) ?_
    obtain ⟨c5003, h⟩ := h
    refine xG.icmp (t := 109) (A := ¬ (l1 = 35)) rfl rfl (xe_c (xt_N c5003) (show ((nI 35) : Int32).toInt = 35 from by decide) (by dsimp only; omega)) (fun k5004 => ?_) (fun k5004 => ?_)
    · replace h := h.2 k5004
      refine xG.lv (lv := [(0, .ref 22), (1, .int (nI l1))]) (lv' := [(0, .ref 22), (1, .int (nI l1))]) rfl rfl rfl ?_
      exact p_R_fits_109 L xs d Q l1 M h
    · replace h := h.1 (Classical.not_not.mp k5004)
      refine xG.lv (lv := [(0, .ref 22), (1, .int (nI l1))]) (lv' := [(0, .ref 22), (1, .int (nI l1))]) rfl rfl rfl ?_
      exact p_R_fits_97 L xs d Q l1 M h

def w_R_fits_70 (l1 : Nat) (M : xM) (Q : Nat → xM → Prop) : Prop := (l1 < 2147483648 ∧ ((l1 = 33 → (M.1 10 < 2147483648 ∧ ((M.1 10 = 24 → w_R_fits_104 l1 M Q) ∧ (¬ (M.1 10 = 24) → w_R_fits_85 l1 M Q)))) ∧ (¬ (l1 = 33) → w_R_fits_85 l1 M Q)))
set_option maxRecDepth 8000 in
set_option maxHeartbeats 4000000 in
theorem p_R_fits_70 (L : Nat) (xs : Nat → Int32) (d : Nat) (Q : Nat → xM → Prop) (l1 : Nat) (M : xM) (h : w_R_fits_70 l1 M Q) : xG xem (xgt L xs) (d + 1) xi_R_fits (70, [(0, .ref 22), (1, .int (nI l1))], []) M (xPN Q) := by
  unfold w_R_fits_70 at h
  refine xG.seg 2 (f' := (73, [(0, .ref 22), (1, .int (nI l1))], [.int (nI 33), .int (nI l1)])) (x1 := M) (fun _ => rfl) ?_
  obtain ⟨c4001, h⟩ := h
  refine xG.icmp (t := 85) (A := ¬ (l1 = 33)) rfl rfl (xe_c (xt_N c4001) (show ((nI 33) : Int32).toInt = 33 from by decide) (by dsimp only; omega)) (fun k4002 => ?_) (fun k4002 => ?_)
  · replace h := h.2 k4002
    refine xG.lv (lv := [(0, .ref 22), (1, .int (nI l1))]) (lv' := [(0, .ref 22), (1, .int (nI l1))]) rfl rfl rfl ?_
    exact p_R_fits_85 L xs d Q l1 M h
  · replace h := h.1 (Classical.not_not.mp k4002)
    refine xG.seg 3 (f' := (82, [(0, .ref 22), (1, .int (nI l1))], [.int (nI 24), .int (nI (M.1 10))])) (x1 := M) (fun _ => rfl) ?_
    obtain ⟨c4003, h⟩ := h
    refine xG.icmp (t := 104) (A := M.1 10 = 24) rfl rfl (xe_c (xt_N c4003) (show ((nI 24) : Int32).toInt = 24 from by decide) (by dsimp only; omega)) (fun k4004 => ?_) (fun k4004 => ?_)
    · replace h := h.1 k4004
      refine xG.lv (lv := [(0, .ref 22), (1, .int (nI l1))]) (lv' := [(0, .ref 22), (1, .int (nI l1))]) rfl rfl rfl ?_
      exact p_R_fits_104 L xs d Q l1 M h
    · replace h := h.2 k4004
      refine xG.lv (lv := [(0, .ref 22), (1, .int (nI l1))]) (lv' := [(0, .ref 22), (1, .int (nI l1))]) rfl rfl rfl ?_
      exact p_R_fits_85 L xs d Q l1 M h

def w_R_fits_44 (l1 : Nat) (l2 : Int32) (M : xM) (Q : Nat → xM → Prop) : Prop := w_R_within_NNN l1 30 32 M (fun r3002 M3001 => (r3002 < 2147483648 ∧ ((r3002 = 0 → w_R_fits_70 l1 M3001 Q) ∧ (¬ (r3002 = 0) → w_R_within_INN l2 0 63 M3001 (fun r3006 M3005 => (r3006 < 2147483648 ∧ ((r3006 = 0 → w_R_wrong 3 M3005 (fun M3009 => w_R_fits_70 l1 M3009 Q)) ∧ (¬ (r3006 = 0) → w_R_fits_70 l1 M3005 Q))))))))
set_option maxRecDepth 8000 in
set_option maxHeartbeats 4000000 in
theorem p_R_fits_44 (L : Nat) (xs : Nat → Int32) (d : Nat) (Q : Nat → xM → Prop) (l1 : Nat) (l2 : Int32) (M : xM) (h : w_R_fits_44 l1 l2 M Q) : xG xem (xgt L xs) (d + 1) xi_R_fits (44, [(0, .ref 22), (1, .int (nI l1)), (2, .int l2)], []) M (xPN Q) := by
  unfold w_R_fits_44 at h
  refine xG.seg 3 (f' := (49, [(0, .ref 22), (1, .int (nI l1)), (2, .int l2)], [.int (nI 32), .int (nI 30), .int (nI l1)])) (x1 := M) (fun _ => rfl) ?_
  refine xG.call (d := d) (vs := [.int (nI l1), .int (nI 30), .int (nI 32)]) (g := (49, [(0, .ref 22), (1, .int (nI l1)), (2, .int l2)], [])) (fun _ => rfl) rfl (p_R_within_NNN L xs d l1 30 32 M _ h) ?_
  clear h
  rintro _ M3001 ⟨r3002, rfl, h⟩
  refine ⟨_, rfl, ?_⟩
  refine xG.eqf (f' := (52, [(0, .ref 22), (1, .int (nI l1)), (2, .int l2)], [.int (nI r3002)])) rfl ?_
  obtain ⟨c3003, h⟩ := h
  refine xG.ifc (t := 70) (A := r3002 = 0) rfl rfl (xe_c (xt_N c3003) (show (0 : Int32).toInt = 0 from by decide) (by dsimp only; omega)) (fun k3004 => ?_) (fun k3004 => ?_)
  · replace h := h.1 k3004
    refine xG.lv (lv := [(0, .ref 22), (1, .int (nI l1))]) (lv' := [(0, .ref 22), (1, .int (nI l1)), (2, .int l2)]) rfl rfl rfl ?_
    exact p_R_fits_70 L xs d Q l1 M3001 h
  · replace h := h.2 k3004
    refine xG.seg 3 (f' := (59, [(0, .ref 22), (1, .int (nI l1)), (2, .int l2)], [.int (nI 63), .int (nI 0), .int l2])) (x1 := M3001) (fun _ => rfl) ?_
    refine xG.call (d := d) (vs := [.int l2, .int (nI 0), .int (nI 63)]) (g := (59, [(0, .ref 22), (1, .int (nI l1)), (2, .int l2)], [])) (fun _ => rfl) rfl (p_R_within_INN L xs d l2 0 63 M3001 _ h) ?_
    clear h
    rintro _ M3005 ⟨r3006, rfl, h⟩
    refine ⟨_, rfl, ?_⟩
    refine xG.eqf (f' := (62, [(0, .ref 22), (1, .int (nI l1)), (2, .int l2)], [.int (nI r3006)])) rfl ?_
    obtain ⟨c3007, h⟩ := h
    refine xG.ifc (t := 70) (A := ¬ (r3006 = 0)) rfl rfl (xe_c (xt_N c3007) (show (0 : Int32).toInt = 0 from by decide) (by dsimp only; omega)) (fun k3008 => ?_) (fun k3008 => ?_)
    · replace h := h.2 k3008
      refine xG.lv (lv := [(0, .ref 22), (1, .int (nI l1))]) (lv' := [(0, .ref 22), (1, .int (nI l1)), (2, .int l2)]) rfl rfl rfl ?_
      exact p_R_fits_70 L xs d Q l1 M3005 h
    · replace h := h.1 (Classical.not_not.mp k3008)
      refine xG.seg 2 (f' := (67, [(0, .ref 22), (1, .int (nI l1)), (2, .int l2)], [.int (nI 3), .ref 22])) (x1 := M3005) (fun _ => rfl) ?_
      refine xG.call (d := d) (vs := [.ref 22, .int (nI 3)]) (g := (67, [(0, .ref 22), (1, .int (nI l1)), (2, .int l2)], [])) (fun _ => rfl) rfl (p_R_wrong L xs d 3 M3005 _ h) ?_
      clear h
      rintro _ M3009 ⟨rfl, h⟩
      refine ⟨_, rfl, ?_⟩
      refine xG.eqf (f' := (70, [(0, .ref 22), (1, .int (nI l1)), (2, .int l2)], [])) rfl ?_
      refine xG.lv (lv := [(0, .ref 22), (1, .int (nI l1))]) (lv' := [(0, .ref 22), (1, .int (nI l1)), (2, .int l2)]) rfl rfl rfl ?_
      exact p_R_fits_70 L xs d Q l1 M3009 h

def w_R_fits_35 (l1 : Nat) (l2 : Int32) (M : xM) (Q : Nat → xM → Prop) : Prop := ((l2 = 0 → w_R_wrong 4 M (fun M2002 => w_R_fits_44 l1 l2 M2002 Q)) ∧ (¬ (l2 = 0) → w_R_fits_44 l1 l2 M Q))
set_option maxRecDepth 8000 in
set_option maxHeartbeats 4000000 in
theorem p_R_fits_35 (L : Nat) (xs : Nat → Int32) (d : Nat) (Q : Nat → xM → Prop) (l1 : Nat) (l2 : Int32) (M : xM) (h : w_R_fits_35 l1 l2 M Q) : xG xem (xgt L xs) (d + 1) xi_R_fits (35, [(0, .ref 22), (1, .int (nI l1)), (2, .int l2)], []) M (xPN Q) := by
  unfold w_R_fits_35 at h
  refine xG.seg 1 (f' := (36, [(0, .ref 22), (1, .int (nI l1)), (2, .int l2)], [.int l2])) (x1 := M) (fun _ => rfl) ?_
  refine xG.ifc (t := 44) (A := ¬ (l2 = 0)) rfl rfl (xe_rn _ _) (fun k2001 => ?_) (fun k2001 => ?_)
  · replace h := h.2 k2001
    refine xG.lv (lv := [(0, .ref 22), (1, .int (nI l1)), (2, .int l2)]) (lv' := [(0, .ref 22), (1, .int (nI l1)), (2, .int l2)]) rfl rfl rfl ?_
    exact p_R_fits_44 L xs d Q l1 l2 M h
  · replace h := h.1 (Classical.not_not.mp k2001)
    refine xG.seg 2 (f' := (41, [(0, .ref 22), (1, .int (nI l1)), (2, .int l2)], [.int (nI 4), .ref 22])) (x1 := M) (fun _ => rfl) ?_
    refine xG.call (d := d) (vs := [.ref 22, .int (nI 4)]) (g := (41, [(0, .ref 22), (1, .int (nI l1)), (2, .int l2)], [])) (fun _ => rfl) rfl (p_R_wrong L xs d 4 M _ h) ?_
    clear h
    rintro _ M2002 ⟨rfl, h⟩
    refine ⟨_, rfl, ?_⟩
    refine xG.eqf (f' := (44, [(0, .ref 22), (1, .int (nI l1)), (2, .int l2)], [])) rfl ?_
    refine xG.lv (lv := [(0, .ref 22), (1, .int (nI l1)), (2, .int l2)]) (lv' := [(0, .ref 22), (1, .int (nI l1)), (2, .int l2)]) rfl rfl rfl ?_
    exact p_R_fits_44 L xs d Q l1 l2 M2002 h

def w_R_fits (x1 : Nat) (M : xM) (Q : Nat → xM → Prop) : Prop := (M.1 9 < 2147483648 ∧ ((M.1 9 ≤ 0 → (x1 < 2147483648 ∧ ((x1 = 9 → w_R_fits_35 x1 (nI 0) M Q) ∧ (¬ (x1 = 9) → (x1 < 2147483648 ∧ ((x1 = 10 → w_R_fits_35 x1 (nI 0) M Q) ∧ (¬ (x1 = 10) → w_R_fits_44 x1 (nI 0) M Q))))))) ∧ (¬ (M.1 9 ≤ 0) → (1 ≤ M.1 9 ∧ (M.1 9 - 1 < 32 ∧ (x1 < 2147483648 ∧ ((x1 = 9 → w_R_fits_35 x1 (M.2.2.1 1 (M.1 9 - 1)) M Q) ∧ (¬ (x1 = 9) → (x1 < 2147483648 ∧ ((x1 = 10 → w_R_fits_35 x1 (M.2.2.1 1 (M.1 9 - 1)) M Q) ∧ (¬ (x1 = 10) → w_R_fits_44 x1 (M.2.2.1 1 (M.1 9 - 1)) M Q)))))))))))
set_option maxRecDepth 8000 in
set_option maxHeartbeats 4000000 in
theorem p_R_fits (L : Nat) (xs : Nat → Int32) (d : Nat) (x1 : Nat) (M : xM) (Q : Nat → xM → Prop) (h : w_R_fits x1 M Q) : xG xem (xgt L xs) (d + 1) xi_R_fits (0, [(0, .ref 22), (1, .int (nI x1))], []) M (xPN Q) := by
  unfold w_R_fits at h
  refine xG.seg 2 (f' := (4, [(0, .ref 22), (1, .int (nI x1))], [.int (nI (M.1 9))])) (x1 := M) (fun _ => rfl) ?_
  obtain ⟨c1, h⟩ := h
  refine xG.ifc (t := 21) (A := M.1 9 ≤ 0) rfl rfl (xe_c (xt_N c1) (show (0 : Int32).toInt = 0 from by decide) (by dsimp only; omega)) (fun k2 => ?_) (fun k2 => ?_)
  · replace h := h.1 k2
    refine xG.seg 4 (f' := (26, [(2, .int (nI 0)), (0, .ref 22), (1, .int (nI x1))], [.int (nI 9), .int (nI x1)])) (x1 := M) (fun _ => rfl) ?_
    obtain ⟨c3, h⟩ := h
    refine xG.icmp (t := 35) (A := x1 = 9) rfl rfl (xe_c (xt_N c3) (show ((nI 9) : Int32).toInt = 9 from by decide) (by dsimp only; omega)) (fun k4 => ?_) (fun k4 => ?_)
    · replace h := h.1 k4
      refine xG.lv (lv := [(0, .ref 22), (1, .int (nI x1)), (2, .int ((nI 0)))]) (lv' := [(2, .int ((nI 0))), (0, .ref 22), (1, .int (nI x1))]) rfl rfl rfl ?_
      exact p_R_fits_35 L xs d Q x1 (nI 0) M h
    · replace h := h.2 k4
      refine xG.seg 2 (f' := (32, [(2, .int (nI 0)), (0, .ref 22), (1, .int (nI x1))], [.int (nI 10), .int (nI x1)])) (x1 := M) (fun _ => rfl) ?_
      obtain ⟨c5, h⟩ := h
      refine xG.icmp (t := 44) (A := ¬ (x1 = 10)) rfl rfl (xe_c (xt_N c5) (show ((nI 10) : Int32).toInt = 10 from by decide) (by dsimp only; omega)) (fun k6 => ?_) (fun k6 => ?_)
      · replace h := h.2 k6
        refine xG.lv (lv := [(0, .ref 22), (1, .int (nI x1)), (2, .int ((nI 0)))]) (lv' := [(2, .int ((nI 0))), (0, .ref 22), (1, .int (nI x1))]) rfl rfl rfl ?_
        exact p_R_fits_44 L xs d Q x1 (nI 0) M h
      · replace h := h.1 (Classical.not_not.mp k6)
        refine xG.lv (lv := [(0, .ref 22), (1, .int (nI x1)), (2, .int ((nI 0)))]) (lv' := [(2, .int ((nI 0))), (0, .ref 22), (1, .int (nI x1))]) rfl rfl rfl ?_
        exact p_R_fits_35 L xs d Q x1 (nI 0) M h
  · replace h := h.2 k2
    refine xG.seg 6 (f' := (17, [(0, .ref 22), (1, .int (nI x1))], [.int (nI (M.1 9) - nI 1), .ref 31])) (x1 := M) (fun _ => rfl) ?_
    obtain ⟨c7, h⟩ := h
    refine xG.conv (xe_cut c7) ?_
    obtain ⟨c8, h⟩ := h
    refine xG.iald rfl (Or.inl ⟨rfl, rfl⟩) (by decide) (fun _ => rfl) (by decide) c8 ?_
    refine xG.eqf (f' := (18, [(0, .ref 22), (1, .int (nI x1))], [.int (M.2.2.1 1 (M.1 9 - 1))])) rfl ?_
    refine xG.seg 4 (f' := (26, [(2, .int (M.2.2.1 1 (M.1 9 - 1))), (0, .ref 22), (1, .int (nI x1))], [.int (nI 9), .int (nI x1)])) (x1 := M) (fun _ => rfl) ?_
    obtain ⟨c9, h⟩ := h
    refine xG.icmp (t := 35) (A := x1 = 9) rfl rfl (xe_c (xt_N c9) (show ((nI 9) : Int32).toInt = 9 from by decide) (by dsimp only; omega)) (fun k10 => ?_) (fun k10 => ?_)
    · replace h := h.1 k10
      refine xG.lv (lv := [(0, .ref 22), (1, .int (nI x1)), (2, .int ((M.2.2.1 1 (M.1 9 - 1))))]) (lv' := [(2, .int ((M.2.2.1 1 (M.1 9 - 1)))), (0, .ref 22), (1, .int (nI x1))]) rfl rfl rfl ?_
      exact p_R_fits_35 L xs d Q x1 (M.2.2.1 1 (M.1 9 - 1)) M h
    · replace h := h.2 k10
      refine xG.seg 2 (f' := (32, [(2, .int (M.2.2.1 1 (M.1 9 - 1))), (0, .ref 22), (1, .int (nI x1))], [.int (nI 10), .int (nI x1)])) (x1 := M) (fun _ => rfl) ?_
      obtain ⟨c11, h⟩ := h
      refine xG.icmp (t := 44) (A := ¬ (x1 = 10)) rfl rfl (xe_c (xt_N c11) (show ((nI 10) : Int32).toInt = 10 from by decide) (by dsimp only; omega)) (fun k12 => ?_) (fun k12 => ?_)
      · replace h := h.2 k12
        refine xG.lv (lv := [(0, .ref 22), (1, .int (nI x1)), (2, .int ((M.2.2.1 1 (M.1 9 - 1))))]) (lv' := [(2, .int ((M.2.2.1 1 (M.1 9 - 1)))), (0, .ref 22), (1, .int (nI x1))]) rfl rfl rfl ?_
        exact p_R_fits_44 L xs d Q x1 (M.2.2.1 1 (M.1 9 - 1)) M h
      · replace h := h.1 (Classical.not_not.mp k12)
        refine xG.lv (lv := [(0, .ref 22), (1, .int (nI x1)), (2, .int ((M.2.2.1 1 (M.1 9 - 1))))]) (lv' := [(2, .int ((M.2.2.1 1 (M.1 9 - 1)))), (0, .ref 22), (1, .int (nI x1))]) rfl rfl rfl ?_
        exact p_R_fits_35 L xs d Q x1 (M.2.2.1 1 (M.1 9 - 1)) M h

def w_R_gives (x1 : Nat) (M : xM) (Q : Nat → xM → Prop) : Prop := (x1 < 2147483648 ∧ ((20 ≤ x1 → (x1 < 2147483648 ∧ ((x1 = 20 → Q 2 M) ∧ (¬ (x1 = 20) → (x1 < 2147483648 ∧ ((x1 = 22 → Q 2 M) ∧ (¬ (x1 = 22) → (x1 < 2147483648 ∧ ((x1 = 23 → Q 3 M) ∧ (¬ (x1 = 23) → (x1 < 2147483648 ∧ ((x1 = 24 → Q 3 M) ∧ (¬ (x1 = 24) → (x1 < 2147483648 ∧ ((x1 = 26 → Q 3 M) ∧ (¬ (x1 = 26) → (x1 < 2147483648 ∧ ((x1 = 27 → Q 4 M) ∧ (¬ (x1 = 27) → (x1 < 2147483648 ∧ ((x1 = 25 → Q 1 M) ∧ (¬ (x1 = 25) → (x1 < 2147483648 ∧ ((x1 = 29 → Q 1 M) ∧ (¬ (x1 = 29) → (x1 < 2147483648 ∧ ((x1 = 30 → Q 1 M) ∧ (¬ (x1 = 30) → (x1 < 2147483648 ∧ ((x1 = 34 → Q 1 M) ∧ (¬ (x1 = 34) → (x1 < 2147483648 ∧ ((x1 = 35 → Q 1 M) ∧ (¬ (x1 = 35) → (x1 < 2147483648 ∧ ((x1 = 40 → Q 1 M) ∧ (¬ (x1 = 40) → Q 0 M))))))))))))))))))))))))))))))))))))) ∧ (¬ (20 ≤ x1) → Q 1 M)))
set_option maxRecDepth 8000 in
set_option maxHeartbeats 4000000 in
theorem p_R_gives (L : Nat) (xs : Nat → Int32) (d : Nat) (x1 : Nat) (M : xM) (Q : Nat → xM → Prop) (h : w_R_gives x1 M Q) : xG xem (xgt L xs) (d) xi_R_gives (0, [(0, .int (nI x1))], []) M (xPN Q) := by
  unfold w_R_gives at h
  refine xG.seg 2 (f' := (3, [(0, .int (nI x1))], [.int (nI 20), .int (nI x1)])) (x1 := M) (fun _ => rfl) ?_
  obtain ⟨c1, h⟩ := h
  refine xG.icmp (t := 8) (A := 20 ≤ x1) rfl rfl (xe_c (xt_N c1) (show ((nI 20) : Int32).toInt = 20 from by decide) (by dsimp only; omega)) (fun k2 => ?_) (fun k2 => ?_)
  · replace h := h.1 k2
    refine xG.seg 2 (f' := (11, [(0, .int (nI x1))], [.int (nI 20), .int (nI x1)])) (x1 := M) (fun _ => rfl) ?_
    obtain ⟨c3, h⟩ := h
    refine xG.icmp (t := 20) (A := x1 = 20) rfl rfl (xe_c (xt_N c3) (show ((nI 20) : Int32).toInt = 20 from by decide) (by dsimp only; omega)) (fun k4 => ?_) (fun k4 => ?_)
    · replace h := h.1 k4
      refine xG.seg 1 (f' := (21, [(0, .int (nI x1))], [.int (nI 2)])) (x1 := M) (fun _ => rfl) ?_
      exact xG.fin (fun _ => rfl) (⟨_, rfl, h⟩)
    · replace h := h.2 k4
      refine xG.seg 2 (f' := (17, [(0, .int (nI x1))], [.int (nI 22), .int (nI x1)])) (x1 := M) (fun _ => rfl) ?_
      obtain ⟨c5, h⟩ := h
      refine xG.icmp (t := 22) (A := ¬ (x1 = 22)) rfl rfl (xe_c (xt_N c5) (show ((nI 22) : Int32).toInt = 22 from by decide) (by dsimp only; omega)) (fun k6 => ?_) (fun k6 => ?_)
      · replace h := h.2 k6
        refine xG.seg 2 (f' := (25, [(0, .int (nI x1))], [.int (nI 23), .int (nI x1)])) (x1 := M) (fun _ => rfl) ?_
        obtain ⟨c7, h⟩ := h
        refine xG.icmp (t := 40) (A := x1 = 23) rfl rfl (xe_c (xt_N c7) (show ((nI 23) : Int32).toInt = 23 from by decide) (by dsimp only; omega)) (fun k8 => ?_) (fun k8 => ?_)
        · replace h := h.1 k8
          refine xG.seg 1 (f' := (41, [(0, .int (nI x1))], [.int (nI 3)])) (x1 := M) (fun _ => rfl) ?_
          exact xG.fin (fun _ => rfl) (⟨_, rfl, h⟩)
        · replace h := h.2 k8
          refine xG.seg 2 (f' := (31, [(0, .int (nI x1))], [.int (nI 24), .int (nI x1)])) (x1 := M) (fun _ => rfl) ?_
          obtain ⟨c9, h⟩ := h
          refine xG.icmp (t := 40) (A := x1 = 24) rfl rfl (xe_c (xt_N c9) (show ((nI 24) : Int32).toInt = 24 from by decide) (by dsimp only; omega)) (fun k10 => ?_) (fun k10 => ?_)
          · replace h := h.1 k10
            refine xG.seg 1 (f' := (41, [(0, .int (nI x1))], [.int (nI 3)])) (x1 := M) (fun _ => rfl) ?_
            exact xG.fin (fun _ => rfl) (⟨_, rfl, h⟩)
          · replace h := h.2 k10
            refine xG.seg 2 (f' := (37, [(0, .int (nI x1))], [.int (nI 26), .int (nI x1)])) (x1 := M) (fun _ => rfl) ?_
            obtain ⟨c11, h⟩ := h
            refine xG.icmp (t := 42) (A := ¬ (x1 = 26)) rfl rfl (xe_c (xt_N c11) (show ((nI 26) : Int32).toInt = 26 from by decide) (by dsimp only; omega)) (fun k12 => ?_) (fun k12 => ?_)
            · replace h := h.2 k12
              refine xG.seg 2 (f' := (45, [(0, .int (nI x1))], [.int (nI 27), .int (nI x1)])) (x1 := M) (fun _ => rfl) ?_
              obtain ⟨c13, h⟩ := h
              refine xG.icmp (t := 50) (A := ¬ (x1 = 27)) rfl rfl (xe_c (xt_N c13) (show ((nI 27) : Int32).toInt = 27 from by decide) (by dsimp only; omega)) (fun k14 => ?_) (fun k14 => ?_)
              · replace h := h.2 k14
                refine xG.seg 2 (f' := (53, [(0, .int (nI x1))], [.int (nI 25), .int (nI x1)])) (x1 := M) (fun _ => rfl) ?_
                obtain ⟨c15, h⟩ := h
                refine xG.icmp (t := 86) (A := x1 = 25) rfl rfl (xe_c (xt_N c15) (show ((nI 25) : Int32).toInt = 25 from by decide) (by dsimp only; omega)) (fun k16 => ?_) (fun k16 => ?_)
                · replace h := h.1 k16
                  refine xG.seg 2 (f' := (91, [(0, .int (nI x1))], [.int (nI 1)])) (x1 := M) (fun _ => rfl) ?_
                  exact xG.fin (fun _ => rfl) (⟨_, rfl, h⟩)
                · replace h := h.2 k16
                  refine xG.seg 2 (f' := (59, [(0, .int (nI x1))], [.int (nI 29), .int (nI x1)])) (x1 := M) (fun _ => rfl) ?_
                  obtain ⟨c17, h⟩ := h
                  refine xG.icmp (t := 86) (A := x1 = 29) rfl rfl (xe_c (xt_N c17) (show ((nI 29) : Int32).toInt = 29 from by decide) (by dsimp only; omega)) (fun k18 => ?_) (fun k18 => ?_)
                  · replace h := h.1 k18
                    refine xG.seg 2 (f' := (91, [(0, .int (nI x1))], [.int (nI 1)])) (x1 := M) (fun _ => rfl) ?_
                    exact xG.fin (fun _ => rfl) (⟨_, rfl, h⟩)
                  · replace h := h.2 k18
                    refine xG.seg 2 (f' := (65, [(0, .int (nI x1))], [.int (nI 30), .int (nI x1)])) (x1 := M) (fun _ => rfl) ?_
                    obtain ⟨c19, h⟩ := h
                    refine xG.icmp (t := 86) (A := x1 = 30) rfl rfl (xe_c (xt_N c19) (show ((nI 30) : Int32).toInt = 30 from by decide) (by dsimp only; omega)) (fun k20 => ?_) (fun k20 => ?_)
                    · replace h := h.1 k20
                      refine xG.seg 2 (f' := (91, [(0, .int (nI x1))], [.int (nI 1)])) (x1 := M) (fun _ => rfl) ?_
                      exact xG.fin (fun _ => rfl) (⟨_, rfl, h⟩)
                    · replace h := h.2 k20
                      refine xG.seg 2 (f' := (71, [(0, .int (nI x1))], [.int (nI 34), .int (nI x1)])) (x1 := M) (fun _ => rfl) ?_
                      obtain ⟨c21, h⟩ := h
                      refine xG.icmp (t := 86) (A := x1 = 34) rfl rfl (xe_c (xt_N c21) (show ((nI 34) : Int32).toInt = 34 from by decide) (by dsimp only; omega)) (fun k22 => ?_) (fun k22 => ?_)
                      · replace h := h.1 k22
                        refine xG.seg 2 (f' := (91, [(0, .int (nI x1))], [.int (nI 1)])) (x1 := M) (fun _ => rfl) ?_
                        exact xG.fin (fun _ => rfl) (⟨_, rfl, h⟩)
                      · replace h := h.2 k22
                        refine xG.seg 2 (f' := (77, [(0, .int (nI x1))], [.int (nI 35), .int (nI x1)])) (x1 := M) (fun _ => rfl) ?_
                        obtain ⟨c23, h⟩ := h
                        refine xG.icmp (t := 86) (A := x1 = 35) rfl rfl (xe_c (xt_N c23) (show ((nI 35) : Int32).toInt = 35 from by decide) (by dsimp only; omega)) (fun k24 => ?_) (fun k24 => ?_)
                        · replace h := h.1 k24
                          refine xG.seg 2 (f' := (91, [(0, .int (nI x1))], [.int (nI 1)])) (x1 := M) (fun _ => rfl) ?_
                          exact xG.fin (fun _ => rfl) (⟨_, rfl, h⟩)
                        · replace h := h.2 k24
                          refine xG.seg 2 (f' := (83, [(0, .int (nI x1))], [.int (nI 40), .int (nI x1)])) (x1 := M) (fun _ => rfl) ?_
                          obtain ⟨c25, h⟩ := h
                          refine xG.icmp (t := 90) (A := ¬ (x1 = 40)) rfl rfl (xe_c (xt_N c25) (show ((nI 40) : Int32).toInt = 40 from by decide) (by dsimp only; omega)) (fun k26 => ?_) (fun k26 => ?_)
                          · replace h := h.2 k26
                            refine xG.seg 1 (f' := (91, [(0, .int (nI x1))], [.int (nI 0)])) (x1 := M) (fun _ => rfl) ?_
                            exact xG.fin (fun _ => rfl) (⟨_, rfl, h⟩)
                          · replace h := h.1 (Classical.not_not.mp k26)
                            refine xG.seg 2 (f' := (91, [(0, .int (nI x1))], [.int (nI 1)])) (x1 := M) (fun _ => rfl) ?_
                            exact xG.fin (fun _ => rfl) (⟨_, rfl, h⟩)
              · replace h := h.1 (Classical.not_not.mp k14)
                refine xG.seg 1 (f' := (49, [(0, .int (nI x1))], [.int (nI 4)])) (x1 := M) (fun _ => rfl) ?_
                exact xG.fin (fun _ => rfl) (⟨_, rfl, h⟩)
            · replace h := h.1 (Classical.not_not.mp k12)
              refine xG.seg 1 (f' := (41, [(0, .int (nI x1))], [.int (nI 3)])) (x1 := M) (fun _ => rfl) ?_
              exact xG.fin (fun _ => rfl) (⟨_, rfl, h⟩)
      · replace h := h.1 (Classical.not_not.mp k6)
        refine xG.seg 1 (f' := (21, [(0, .int (nI x1))], [.int (nI 2)])) (x1 := M) (fun _ => rfl) ?_
        exact xG.fin (fun _ => rfl) (⟨_, rfl, h⟩)
  · replace h := h.2 k2
    refine xG.seg 1 (f' := (7, [(0, .int (nI x1))], [.int (nI 1)])) (x1 := M) (fun _ => rfl) ?_
    exact xG.fin (fun _ => rfl) (⟨_, rfl, h⟩)

def w_R_pop (M : xM) (Q : Int32 → xM → Prop) : Prop := (1 ≤ M.1 9 ∧ (M.1 9 - 1 < 32 ∧ Q (M.2.2.1 1 (M.1 9 - 1)) (dN M 9 (M.1 9 - 1))))
set_option maxRecDepth 8000 in
set_option maxHeartbeats 4000000 in
theorem p_R_pop (L : Nat) (xs : Nat → Int32) (d : Nat) (M : xM) (Q : Int32 → xM → Prop) (h : w_R_pop M Q) : xG xem (xgt L xs) (d) xi_R_pop (0, [(0, .ref 22)], []) M (xPI Q) := by
  unfold w_R_pop at h
  refine xG.seg 5 (f' := (7, [(0, .ref 22)], [.int (nI (M.1 9) - nI 1), .ref 22])) (x1 := M) (fun _ => rfl) ?_
  obtain ⟨c1, h⟩ := h
  refine xG.conv (xe_cut c1) ?_
  refine xG.seg 5 (f' := (18, [(0, .ref 22)], [.int (nI (M.1 9 - 1)), .ref 31])) (x1 := (dN M 9 (M.1 9 - 1))) (fun _ => rfl) ?_
  obtain ⟨c2, h⟩ := h
  refine xG.iald rfl (Or.inl ⟨rfl, rfl⟩) (by decide) (fun _ => rfl) (by decide) c2 ?_
  refine xG.eqf (f' := (19, [(0, .ref 22)], [.int (M.2.2.1 1 (M.1 9 - 1))])) rfl ?_
  exact xG.fin (fun _ => rfl) (⟨(M.2.2.1 1 (M.1 9 - 1)), rfl, h⟩)

def wi_R_say_3 (K : Int32 → Nat → xM → Prop) (l1 : Int32) (l2 : Nat) (M : xM) (Q : xM → Prop) : Prop := (l2 < 2147483648 ∧ ((l2 ≤ 0 → (0 < 40 ∧ Q (dN (dA M 4 0 l1) 11 (M.1 11 + 1)))) ∧ (¬ (l2 ≤ 0) → (1 ≤ l2 ∧ (l2 - 1 < 40 ∧ (l2 < 40 ∧ (1 ≤ l2 ∧ K l1 (l2 - 1) (dA M 4 l2 ((M.2.2.1 4 (l2 - 1)))))))))))
set_option maxRecDepth 8000 in
set_option maxHeartbeats 4000000 in
theorem pi_R_say_3 (L : Nat) (xs : Nat → Int32) (d : Nat) (Q : xM → Prop) (K : Int32 → Nat → xM → Prop) (hK : ∀ (l1 : Int32) (l2 : Nat) (M : xM), K l1 l2 M → xG xem (xgt L xs) (d) xi_R_say (3, [(0, .ref 22), (1, .int l1), (2, .int (nI l2))], []) M (xPV Q)) (l1 : Int32) (l2 : Nat) (M : xM) (h : wi_R_say_3 K l1 l2 M Q) : xG xem (xgt L xs) (d) xi_R_say (3, [(0, .ref 22), (1, .int l1), (2, .int (nI l2))], []) M (xPV Q) := by
  unfold wi_R_say_3 at h
  refine xG.seg 1 (f' := (4, [(0, .ref 22), (1, .int l1), (2, .int (nI l2))], [.int (nI l2)])) (x1 := M) (fun _ => rfl) ?_
  obtain ⟨c2001, h⟩ := h
  refine xG.ifc (t := 27) (A := l2 ≤ 0) rfl rfl (xe_c (xt_N c2001) (show (0 : Int32).toInt = 0 from by decide) (by dsimp only; omega)) (fun k2002 => ?_) (fun k2002 => ?_)
  · replace h := h.1 k2002
    refine xG.seg 4 (f' := (33, [(0, .ref 22), (1, .int l1), (2, .int (nI l2))], [.int l1, .int (nI 0), .ref 34])) (x1 := M) (fun _ => rfl) ?_
    obtain ⟨c2003, h⟩ := h
    refine xG.iast (x1 := (dA M 4 0 l1)) rfl (by decide) (fun _ => rfl) (by decide) c2003 (fun _ => rfl) ?_
    refine xG.eqf (f' := (34, [(0, .ref 22), (1, .int l1), (2, .int (nI l2))], [])) rfl ?_
    refine xG.seg 5 (f' := (41, [(0, .ref 22), (1, .int l1), (2, .int (nI l2))], [.int ((nI (M.1 11)) + (nI 1)), .ref 22])) (x1 := (dA M 4 0 l1)) (fun _ => rfl) ?_
    refine xG.conv (xe_add (M.1 11) 1) ?_
    refine xG.eqf (f' := (41, [(0, .ref 22), (1, .int l1), (2, .int (nI l2))], [.int (nI (M.1 11 + 1)), .ref 22])) rfl ?_
    refine xG.seg 1 (f' := (44, [(0, .ref 22), (1, .int l1), (2, .int (nI l2))], [])) (x1 := (dN (dA M 4 0 l1) 11 (M.1 11 + 1))) (fun _ => rfl) ?_
    exact xG.fin (fun _ => rfl) (⟨rfl, h⟩)
  · replace h := h.2 k2002
    refine xG.seg 8 (f' := (19, [(0, .ref 22), (1, .int l1), (2, .int (nI l2))], [.int (nI l2 - nI 1), .ref 34, .int (nI l2), .ref 34])) (x1 := M) (fun _ => rfl) ?_
    obtain ⟨c2004, h⟩ := h
    refine xG.conv (xe_cut c2004) ?_
    obtain ⟨c2005, h⟩ := h
    refine xG.iald rfl (Or.inl ⟨rfl, rfl⟩) (by decide) (fun _ => rfl) (by decide) c2005 ?_
    refine xG.eqf (f' := (20, [(0, .ref 22), (1, .int l1), (2, .int (nI l2))], [.int (M.2.2.1 4 (l2 - 1)), .int (nI l2), .ref 34])) rfl ?_
    obtain ⟨c2006, h⟩ := h
    refine xG.iast (x1 := (dA M 4 l2 ((M.2.2.1 4 (l2 - 1))))) rfl (by decide) (fun _ => rfl) (by decide) c2006 (fun _ => rfl) ?_
    refine xG.eqf (f' := (21, [(0, .ref 22), (1, .int l1), (2, .int (nI l2))], [])) rfl ?_
    refine xG.iinc (v := (nI l2)) (w := (nI l2 - nI 1)) rfl rfl (by decide) (xe_decN l2) ?_
    refine xG.eqf (f' := (24, [(2, .int (nI l2 - nI 1)), (0, .ref 22), (1, .int l1)], [])) rfl ?_
    refine xG.seg 1 (f' := (3, [(2, .int (nI l2 - nI 1)), (0, .ref 22), (1, .int l1)], [])) (x1 := (dA M 4 l2 ((M.2.2.1 4 (l2 - 1))))) (fun _ => rfl) ?_
    obtain ⟨c2007, h⟩ := h
    refine xG.eqf (f' := (3, [(2, .int (nI (l2 - 1))), (0, .ref 22), (1, .int l1)], [])) (by rw [xe_cut c2007]) ?_
    refine xG.lv (lv := [(0, .ref 22), (1, .int l1), (2, .int (nI (l2 - 1)))]) (lv' := [(2, .int (nI (l2 - 1))), (0, .ref 22), (1, .int l1)]) rfl rfl rfl ?_
    exact hK l1 (l2 - 1) (dA M 4 l2 ((M.2.2.1 4 (l2 - 1)))) h

def w_R_say_3 : Nat → Int32 → Nat → (xM) → (xM → Prop) → Prop
  | 0, _, _, _, _ => False
  | n + 1, l1, l2, C, Q => wi_R_say_3 (fun l1 l2 C => w_R_say_3 n l1 l2 C Q) l1 l2 C Q
theorem p_R_say_3 (L : Nat) (xs : Nat → Int32) (d : Nat) (Q : xM → Prop) : ∀ (n : Nat) (l1 : Int32) (l2 : Nat) (M : xM), w_R_say_3 n l1 l2 M Q → xG xem (xgt L xs) (d) xi_R_say (3, [(0, .ref 22), (1, .int l1), (2, .int (nI l2))], []) M (xPV Q)
  | 0, _, _, _, h => by cases h
  | n + 1, l1, l2, C, h => pi_R_say_3 L xs d Q (fun l1 l2 C => w_R_say_3 n l1 l2 C Q) (fun l1 l2 C h => p_R_say_3 L xs d Q n l1 l2 C h) l1 l2 C h

def w_R_say (x1 : Int32) (M : xM) (Q : xM → Prop) : Prop := ∃ fu1 : Nat, w_R_say_3 fu1 x1 39 M Q
set_option maxRecDepth 8000 in
set_option maxHeartbeats 4000000 in
theorem p_R_say (L : Nat) (xs : Nat → Int32) (d : Nat) (x1 : Int32) (M : xM) (Q : xM → Prop) (h : w_R_say x1 M Q) : xG xem (xgt L xs) (d) xi_R_say (0, [(0, .ref 22), (1, .int x1)], []) M (xPV Q) := by
  unfold w_R_say at h
  refine xG.seg 2 (f' := (3, [(2, .int (nI 39)), (0, .ref 22), (1, .int x1)], [])) (x1 := M) (fun _ => rfl) ?_
  refine xG.lv (lv := [(0, .ref 22), (1, .int x1), (2, .int (nI 39))]) (lv' := [(2, .int (nI 39)), (0, .ref 22), (1, .int x1)]) rfl rfl rfl ?_
  obtain ⟨fu1, h⟩ := h
  exact p_R_say_3 L xs d Q fu1 x1 39 M h

def w_R_push (x1 : Int32) (M : xM) (Q : xM → Prop) : Prop := (M.1 9 < 32 ∧ Q (dN (dA M 1 (M.1 9) x1) 9 (M.1 9 + 1)))
set_option maxRecDepth 8000 in
set_option maxHeartbeats 4000000 in
theorem p_R_push (L : Nat) (xs : Nat → Int32) (d : Nat) (x1 : Int32) (M : xM) (Q : xM → Prop) (h : w_R_push x1 M Q) : xG xem (xgt L xs) (d) xi_R_push (0, [(0, .ref 22), (1, .int x1)], []) M (xPV Q) := by
  unfold w_R_push at h
  refine xG.seg 5 (f' := (9, [(0, .ref 22), (1, .int x1)], [.int x1, .int (nI (M.1 9)), .ref 31])) (x1 := M) (fun _ => rfl) ?_
  obtain ⟨c1, h⟩ := h
  refine xG.iast (x1 := (dA M 1 (M.1 9) x1)) rfl (by decide) (fun _ => rfl) (by decide) c1 (fun _ => rfl) ?_
  refine xG.eqf (f' := (10, [(0, .ref 22), (1, .int x1)], [])) rfl ?_
  refine xG.seg 5 (f' := (17, [(0, .ref 22), (1, .int x1)], [.int ((nI (M.1 9)) + (nI 1)), .ref 22])) (x1 := (dA M 1 (M.1 9) x1)) (fun _ => rfl) ?_
  refine xG.conv (xe_add (M.1 9) 1) ?_
  refine xG.eqf (f' := (17, [(0, .ref 22), (1, .int x1)], [.int (nI (M.1 9 + 1)), .ref 22])) rfl ?_
  refine xG.seg 1 (f' := (20, [(0, .ref 22), (1, .int x1)], [])) (x1 := (dN (dA M 1 (M.1 9) x1) 9 (M.1 9 + 1))) (fun _ => rfl) ?_
  exact xG.fin (fun _ => rfl) (⟨rfl, h⟩)

def w_R_returnStack (x1 : Nat) (M : xM) (Q : xM → Prop) : Prop := (x1 < 2147483648 ∧ ((x1 = 33 → w_R_pop M (fun r11 M10 => (M.1 10 < 24 ∧ Q (dN (dA M10 2 (M.1 10) r11) 10 (M10.1 10 + 1))))) ∧ (¬ (x1 = 33) → (1 ≤ M.1 10 ∧ (M.1 10 - 1 < 24 ∧ w_R_push (M.2.2.1 2 (M.1 10 - 1)) M (fun M5 => (x1 < 2147483648 ∧ ((x1 = 34 → (1 ≤ M5.1 10 ∧ Q (dN M5 10 (M5.1 10 - 1)))) ∧ (¬ (x1 = 34) → (0 ≤ M5.1 10 ∧ Q (dN M5 10 (M5.1 10 - 0))))))))))))
set_option maxRecDepth 8000 in
set_option maxHeartbeats 4000000 in
theorem p_R_returnStack (L : Nat) (xs : Nat → Int32) (d : Nat) (x1 : Nat) (M : xM) (Q : xM → Prop) (h : w_R_returnStack x1 M Q) : xG xem (xgt L xs) (d + 1) xi_R_returnStack (0, [(0, .ref 22), (1, .int (nI x1))], []) M (xPV Q) := by
  unfold w_R_returnStack at h
  refine xG.seg 2 (f' := (3, [(0, .ref 22), (1, .int (nI x1))], [.int (nI 33), .int (nI x1)])) (x1 := M) (fun _ => rfl) ?_
  obtain ⟨c1, h⟩ := h
  refine xG.icmp (t := 32) (A := ¬ (x1 = 33)) rfl rfl (xe_c (xt_N c1) (show ((nI 33) : Int32).toInt = 33 from by decide) (by dsimp only; omega)) (fun k2 => ?_) (fun k2 => ?_)
  · replace h := h.2 k2
    refine xG.seg 7 (f' := (43, [(0, .ref 22), (1, .int (nI x1))], [.int (nI (M.1 10) - nI 1), .ref 32, .ref 22])) (x1 := M) (fun _ => rfl) ?_
    obtain ⟨c3, h⟩ := h
    refine xG.conv (xe_cut c3) ?_
    obtain ⟨c4, h⟩ := h
    refine xG.iald rfl (Or.inl ⟨rfl, rfl⟩) (by decide) (fun _ => rfl) (by decide) c4 ?_
    refine xG.eqf (f' := (44, [(0, .ref 22), (1, .int (nI x1))], [.int (M.2.2.1 2 (M.1 10 - 1)), .ref 22])) rfl ?_
    refine xG.call (d := d) (vs := [.ref 22, .int (M.2.2.1 2 (M.1 10 - 1))]) (g := (44, [(0, .ref 22), (1, .int (nI x1))], [])) (fun _ => rfl) rfl (p_R_push L xs d (M.2.2.1 2 (M.1 10 - 1)) M _ h) ?_
    clear h
    rintro _ M5 ⟨rfl, h⟩
    refine ⟨_, rfl, ?_⟩
    refine xG.eqf (f' := (47, [(0, .ref 22), (1, .int (nI x1))], [])) rfl ?_
    refine xG.seg 5 (f' := (55, [(0, .ref 22), (1, .int (nI x1))], [.int (nI 34), .int (nI x1), .int (nI (M5.1 10)), .ref 22])) (x1 := M5) (fun _ => rfl) ?_
    obtain ⟨c6, h⟩ := h
    refine xG.icmp (t := 62) (A := ¬ (x1 = 34)) rfl rfl (xe_c (xt_N c6) (show ((nI 34) : Int32).toInt = 34 from by decide) (by dsimp only; omega)) (fun k7 => ?_) (fun k7 => ?_)
    · replace h := h.2 k7
      refine xG.seg 2 (f' := (64, [(0, .ref 22), (1, .int (nI x1))], [.int (nI (M5.1 10) - nI 0), .ref 22])) (x1 := M5) (fun _ => rfl) ?_
      obtain ⟨c8, h⟩ := h
      refine xG.conv (xe_cut c8) ?_
      refine xG.seg 1 (f' := (67, [(0, .ref 22), (1, .int (nI x1))], [])) (x1 := (dN M5 10 (M5.1 10 - 0))) (fun _ => rfl) ?_
      exact xG.fin (fun _ => rfl) (⟨rfl, h⟩)
    · replace h := h.1 (Classical.not_not.mp k7)
      refine xG.seg 3 (f' := (64, [(0, .ref 22), (1, .int (nI x1))], [.int (nI (M5.1 10) - nI 1), .ref 22])) (x1 := M5) (fun _ => rfl) ?_
      obtain ⟨c9, h⟩ := h
      refine xG.conv (xe_cut c9) ?_
      refine xG.seg 1 (f' := (67, [(0, .ref 22), (1, .int (nI x1))], [])) (x1 := (dN M5 10 (M5.1 10 - 1))) (fun _ => rfl) ?_
      exact xG.fin (fun _ => rfl) (⟨rfl, h⟩)
  · replace h := h.1 (Classical.not_not.mp k2)
    refine xG.seg 5 (f' := (15, [(0, .ref 22), (1, .int (nI x1))], [.ref 22, .int (nI (M.1 10)), .ref 32])) (x1 := M) (fun _ => rfl) ?_
    refine xG.call (d := d) (vs := [.ref 22]) (g := (15, [(0, .ref 22), (1, .int (nI x1))], [.int (nI (M.1 10)), .ref 32])) (fun _ => rfl) rfl (p_R_pop L xs d M _ h) ?_
    clear h
    rintro _ M10 ⟨r11, rfl, h⟩
    refine ⟨_, rfl, ?_⟩
    refine xG.eqf (f' := (18, [(0, .ref 22), (1, .int (nI x1))], [.int r11, .int (nI (M.1 10)), .ref 32])) rfl ?_
    obtain ⟨c12, h⟩ := h
    refine xG.iast (x1 := (dA M10 2 (M.1 10) r11)) rfl (by decide) (fun _ => rfl) (by decide) c12 (fun _ => rfl) ?_
    refine xG.eqf (f' := (19, [(0, .ref 22), (1, .int (nI x1))], [])) rfl ?_
    refine xG.seg 5 (f' := (26, [(0, .ref 22), (1, .int (nI x1))], [.int ((nI (M10.1 10)) + (nI 1)), .ref 22])) (x1 := (dA M10 2 (M.1 10) r11)) (fun _ => rfl) ?_
    refine xG.conv (xe_add (M10.1 10) 1) ?_
    refine xG.eqf (f' := (26, [(0, .ref 22), (1, .int (nI x1))], [.int (nI (M10.1 10 + 1)), .ref 22])) rfl ?_
    refine xG.seg 2 (f' := (67, [(0, .ref 22), (1, .int (nI x1))], [])) (x1 := (dN (dA M10 2 (M.1 10) r11) 10 (M10.1 10 + 1))) (fun _ => rfl) ?_
    exact xG.fin (fun _ => rfl) (⟨rfl, h⟩)

def w_R_access_21 (l1 : Nat) (l2 : Int32) (M : xM) (Q : xM → Prop) : Prop := (l1 < 2147483648 ∧ ((l1 = 31 → w_R_pop M (fun r2014 M2013 => (∃ e2015 : Nat, l2 = nI e2015 ∧ (e2015 < 64 ∧ (l1 < 2147483648 ∧ ((l1 = 32 → (∃ e2020 : Nat, l2 = nI e2020 ∧ (e2020 < 64 ∧ w_R_pop (dA M2013 3 e2015 r2014) (fun r2024 M2023 => (∃ e2025 : Nat, l2 = nI e2025 ∧ (e2025 < 64 ∧ Q (dA M2023 3 e2025 ((((dA M2013 3 e2015 r2014).2.2.1 3 e2020) + r2024))))))))) ∧ (¬ (l1 = 32) → Q (dA M2013 3 e2015 r2014)))))))) ∧ (¬ (l1 = 31) → (l1 < 2147483648 ∧ ((l1 = 32 → (∃ e2005 : Nat, l2 = nI e2005 ∧ (e2005 < 64 ∧ w_R_pop M (fun r2009 M2008 => (∃ e2010 : Nat, l2 = nI e2010 ∧ (e2010 < 64 ∧ Q (dA M2008 3 e2010 (((M.2.2.1 3 e2005) + r2009))))))))) ∧ (¬ (l1 = 32) → Q M))))))
set_option maxRecDepth 8000 in
set_option maxHeartbeats 4000000 in
theorem p_R_access_21 (L : Nat) (xs : Nat → Int32) (d : Nat) (Q : xM → Prop) (l1 : Nat) (l2 : Int32) (M : xM) (h : w_R_access_21 l1 l2 M Q) : xG xem (xgt L xs) (d + 1) xi_R_access (21, [(0, .ref 22), (1, .int (nI l1)), (2, .int l2)], []) M (xPV Q) := by
  unfold w_R_access_21 at h
  refine xG.seg 2 (f' := (24, [(0, .ref 22), (1, .int (nI l1)), (2, .int l2)], [.int (nI 31), .int (nI l1)])) (x1 := M) (fun _ => rfl) ?_
  obtain ⟨c2001, h⟩ := h
  refine xG.icmp (t := 37) (A := ¬ (l1 = 31)) rfl rfl (xe_c (xt_N c2001) (show ((nI 31) : Int32).toInt = 31 from by decide) (by dsimp only; omega)) (fun k2002 => ?_) (fun k2002 => ?_)
  · replace h := h.2 k2002
    refine xG.seg 2 (f' := (40, [(0, .ref 22), (1, .int (nI l1)), (2, .int l2)], [.int (nI 32), .int (nI l1)])) (x1 := M) (fun _ => rfl) ?_
    obtain ⟨c2003, h⟩ := h
    refine xG.icmp (t := 56) (A := ¬ (l1 = 32)) rfl rfl (xe_c (xt_N c2003) (show ((nI 32) : Int32).toInt = 32 from by decide) (by dsimp only; omega)) (fun k2004 => ?_) (fun k2004 => ?_)
    · replace h := h.2 k2004
      exact xG.fin (fun _ => rfl) (⟨rfl, h⟩)
    · replace h := h.1 (Classical.not_not.mp k2004)
      refine xG.seg 4 (f' := (49, [(0, .ref 22), (1, .int (nI l1)), (2, .int l2)], [.int l2, .ref 33, .int l2, .ref 33])) (x1 := M) (fun _ => rfl) ?_
      obtain ⟨e2005, c2006, h⟩ := h
      refine xG.conv (c2006) ?_
      obtain ⟨c2007, h⟩ := h
      refine xG.iald rfl (Or.inl ⟨rfl, rfl⟩) (by decide) (fun _ => rfl) (by decide) c2007 ?_
      refine xG.eqf (f' := (50, [(0, .ref 22), (1, .int (nI l1)), (2, .int l2)], [.int (M.2.2.1 3 e2005), .int l2, .ref 33])) rfl ?_
      refine xG.seg 1 (f' := (51, [(0, .ref 22), (1, .int (nI l1)), (2, .int l2)], [.ref 22, .int (M.2.2.1 3 e2005), .int l2, .ref 33])) (x1 := M) (fun _ => rfl) ?_
      refine xG.call (d := d) (vs := [.ref 22]) (g := (51, [(0, .ref 22), (1, .int (nI l1)), (2, .int l2)], [.int (M.2.2.1 3 e2005), .int l2, .ref 33])) (fun _ => rfl) rfl (p_R_pop L xs d M _ h) ?_
      clear h
      rintro _ M2008 ⟨r2009, rfl, h⟩
      refine ⟨_, rfl, ?_⟩
      refine xG.eqf (f' := (54, [(0, .ref 22), (1, .int (nI l1)), (2, .int l2)], [.int r2009, .int (M.2.2.1 3 e2005), .int l2, .ref 33])) rfl ?_
      refine xG.seg 1 (f' := (55, [(0, .ref 22), (1, .int (nI l1)), (2, .int l2)], [.int ((M.2.2.1 3 e2005) + r2009), .int l2, .ref 33])) (x1 := M2008) (fun _ => rfl) ?_
      obtain ⟨e2010, c2011, h⟩ := h
      refine xG.eqf (f' := (55, [(0, .ref 22), (1, .int (nI l1)), (2, .int l2)], [.int ((M.2.2.1 3 e2005) + r2009), .int (nI e2010), .ref 33])) (by rw [c2011]) ?_
      obtain ⟨c2012, h⟩ := h
      refine xG.iast (x1 := (dA M2008 3 e2010 (((M.2.2.1 3 e2005) + r2009)))) rfl (by decide) (fun _ => rfl) (by decide) c2012 (fun _ => rfl) ?_
      refine xG.eqf (f' := (56, [(0, .ref 22), (1, .int (nI l1)), (2, .int l2)], [])) rfl ?_
      exact xG.fin (fun _ => rfl) (⟨rfl, h⟩)
  · replace h := h.1 (Classical.not_not.mp k2002)
    refine xG.seg 4 (f' := (33, [(0, .ref 22), (1, .int (nI l1)), (2, .int l2)], [.ref 22, .int l2, .ref 33])) (x1 := M) (fun _ => rfl) ?_
    refine xG.call (d := d) (vs := [.ref 22]) (g := (33, [(0, .ref 22), (1, .int (nI l1)), (2, .int l2)], [.int l2, .ref 33])) (fun _ => rfl) rfl (p_R_pop L xs d M _ h) ?_
    clear h
    rintro _ M2013 ⟨r2014, rfl, h⟩
    refine ⟨_, rfl, ?_⟩
    refine xG.eqf (f' := (36, [(0, .ref 22), (1, .int (nI l1)), (2, .int l2)], [.int r2014, .int l2, .ref 33])) rfl ?_
    obtain ⟨e2015, c2016, h⟩ := h
    refine xG.eqf (f' := (36, [(0, .ref 22), (1, .int (nI l1)), (2, .int l2)], [.int r2014, .int (nI e2015), .ref 33])) (by rw [c2016]) ?_
    obtain ⟨c2017, h⟩ := h
    refine xG.iast (x1 := (dA M2013 3 e2015 r2014)) rfl (by decide) (fun _ => rfl) (by decide) c2017 (fun _ => rfl) ?_
    refine xG.eqf (f' := (37, [(0, .ref 22), (1, .int (nI l1)), (2, .int l2)], [])) rfl ?_
    refine xG.seg 2 (f' := (40, [(0, .ref 22), (1, .int (nI l1)), (2, .int l2)], [.int (nI 32), .int (nI l1)])) (x1 := (dA M2013 3 e2015 r2014)) (fun _ => rfl) ?_
    obtain ⟨c2018, h⟩ := h
    refine xG.icmp (t := 56) (A := ¬ (l1 = 32)) rfl rfl (xe_c (xt_N c2018) (show ((nI 32) : Int32).toInt = 32 from by decide) (by dsimp only; omega)) (fun k2019 => ?_) (fun k2019 => ?_)
    · replace h := h.2 k2019
      exact xG.fin (fun _ => rfl) (⟨rfl, h⟩)
    · replace h := h.1 (Classical.not_not.mp k2019)
      refine xG.seg 4 (f' := (49, [(0, .ref 22), (1, .int (nI l1)), (2, .int l2)], [.int l2, .ref 33, .int l2, .ref 33])) (x1 := (dA M2013 3 e2015 r2014)) (fun _ => rfl) ?_
      obtain ⟨e2020, c2021, h⟩ := h
      refine xG.conv (c2021) ?_
      obtain ⟨c2022, h⟩ := h
      refine xG.iald rfl (Or.inl ⟨rfl, rfl⟩) (by decide) (fun _ => rfl) (by decide) c2022 ?_
      refine xG.eqf (f' := (50, [(0, .ref 22), (1, .int (nI l1)), (2, .int l2)], [.int ((dA M2013 3 e2015 r2014).2.2.1 3 e2020), .int l2, .ref 33])) rfl ?_
      refine xG.seg 1 (f' := (51, [(0, .ref 22), (1, .int (nI l1)), (2, .int l2)], [.ref 22, .int ((dA M2013 3 e2015 r2014).2.2.1 3 e2020), .int l2, .ref 33])) (x1 := (dA M2013 3 e2015 r2014)) (fun _ => rfl) ?_
      refine xG.call (d := d) (vs := [.ref 22]) (g := (51, [(0, .ref 22), (1, .int (nI l1)), (2, .int l2)], [.int ((dA M2013 3 e2015 r2014).2.2.1 3 e2020), .int l2, .ref 33])) (fun _ => rfl) rfl (p_R_pop L xs d (dA M2013 3 e2015 r2014) _ h) ?_
      clear h
      rintro _ M2023 ⟨r2024, rfl, h⟩
      refine ⟨_, rfl, ?_⟩
      refine xG.eqf (f' := (54, [(0, .ref 22), (1, .int (nI l1)), (2, .int l2)], [.int r2024, .int ((dA M2013 3 e2015 r2014).2.2.1 3 e2020), .int l2, .ref 33])) rfl ?_
      refine xG.seg 1 (f' := (55, [(0, .ref 22), (1, .int (nI l1)), (2, .int l2)], [.int (((dA M2013 3 e2015 r2014).2.2.1 3 e2020) + r2024), .int l2, .ref 33])) (x1 := M2023) (fun _ => rfl) ?_
      obtain ⟨e2025, c2026, h⟩ := h
      refine xG.eqf (f' := (55, [(0, .ref 22), (1, .int (nI l1)), (2, .int l2)], [.int (((dA M2013 3 e2015 r2014).2.2.1 3 e2020) + r2024), .int (nI e2025), .ref 33])) (by rw [c2026]) ?_
      obtain ⟨c2027, h⟩ := h
      refine xG.iast (x1 := (dA M2023 3 e2025 ((((dA M2013 3 e2015 r2014).2.2.1 3 e2020) + r2024)))) rfl (by decide) (fun _ => rfl) (by decide) c2027 (fun _ => rfl) ?_
      refine xG.eqf (f' := (56, [(0, .ref 22), (1, .int (nI l1)), (2, .int l2)], [])) rfl ?_
      exact xG.fin (fun _ => rfl) (⟨rfl, h⟩)

def w_R_access (x1 : Nat) (M : xM) (Q : xM → Prop) : Prop := w_R_pop M (fun r2 M1 => (x1 < 2147483648 ∧ ((x1 = 30 → (∃ e5 : Nat, r2 = nI e5 ∧ (e5 < 64 ∧ w_R_push (M1.2.2.1 3 e5) M1 (fun M8 => w_R_access_21 x1 r2 M8 Q)))) ∧ (¬ (x1 = 30) → w_R_access_21 x1 r2 M1 Q))))
set_option maxRecDepth 8000 in
set_option maxHeartbeats 4000000 in
theorem p_R_access (L : Nat) (xs : Nat → Int32) (d : Nat) (x1 : Nat) (M : xM) (Q : xM → Prop) (h : w_R_access x1 M Q) : xG xem (xgt L xs) (d + 1) xi_R_access (0, [(0, .ref 22), (1, .int (nI x1))], []) M (xPV Q) := by
  unfold w_R_access at h
  refine xG.seg 1 (f' := (1, [(0, .ref 22), (1, .int (nI x1))], [.ref 22])) (x1 := M) (fun _ => rfl) ?_
  refine xG.call (d := d) (vs := [.ref 22]) (g := (1, [(0, .ref 22), (1, .int (nI x1))], [])) (fun _ => rfl) rfl (p_R_pop L xs d M _ h) ?_
  clear h
  rintro _ M1 ⟨r2, rfl, h⟩
  refine ⟨_, rfl, ?_⟩
  refine xG.eqf (f' := (4, [(0, .ref 22), (1, .int (nI x1))], [.int r2])) rfl ?_
  refine xG.seg 3 (f' := (8, [(2, .int r2), (0, .ref 22), (1, .int (nI x1))], [.int (nI 30), .int (nI x1)])) (x1 := M1) (fun _ => rfl) ?_
  obtain ⟨c3, h⟩ := h
  refine xG.icmp (t := 21) (A := ¬ (x1 = 30)) rfl rfl (xe_c (xt_N c3) (show ((nI 30) : Int32).toInt = 30 from by decide) (by dsimp only; omega)) (fun k4 => ?_) (fun k4 => ?_)
  · replace h := h.2 k4
    refine xG.lv (lv := [(0, .ref 22), (1, .int (nI x1)), (2, .int r2)]) (lv' := [(2, .int r2), (0, .ref 22), (1, .int (nI x1))]) rfl rfl rfl ?_
    exact p_R_access_21 L xs d Q x1 r2 M1 h
  · replace h := h.1 (Classical.not_not.mp k4)
    refine xG.seg 4 (f' := (17, [(2, .int r2), (0, .ref 22), (1, .int (nI x1))], [.int r2, .ref 33, .ref 22])) (x1 := M1) (fun _ => rfl) ?_
    obtain ⟨e5, c6, h⟩ := h
    refine xG.conv (c6) ?_
    obtain ⟨c7, h⟩ := h
    refine xG.iald rfl (Or.inl ⟨rfl, rfl⟩) (by decide) (fun _ => rfl) (by decide) c7 ?_
    refine xG.eqf (f' := (18, [(2, .int r2), (0, .ref 22), (1, .int (nI x1))], [.int (M1.2.2.1 3 e5), .ref 22])) rfl ?_
    refine xG.call (d := d) (vs := [.ref 22, .int (M1.2.2.1 3 e5)]) (g := (18, [(2, .int r2), (0, .ref 22), (1, .int (nI x1))], [])) (fun _ => rfl) rfl (p_R_push L xs d (M1.2.2.1 3 e5) M1 _ h) ?_
    clear h
    rintro _ M8 ⟨rfl, h⟩
    refine ⟨_, rfl, ?_⟩
    refine xG.eqf (f' := (21, [(2, .int r2), (0, .ref 22), (1, .int (nI x1))], [])) rfl ?_
    refine xG.lv (lv := [(0, .ref 22), (1, .int (nI x1)), (2, .int r2)]) (lv' := [(2, .int r2), (0, .ref 22), (1, .int (nI x1))]) rfl rfl rfl ?_
    exact p_R_access_21 L xs d Q x1 r2 M8 h

def w_R_shuffle_67 (l1 : Nat) (l2 : Int32) (l3 : Int32) (l4 : Int32) (M : xM) (Q : xM → Prop) : Prop := (l1 < 2147483648 ∧ ((l1 = 24 → w_R_push l3 M (fun M2008 => w_R_push l2 M2008 (fun M2009 => (l1 < 2147483648 ∧ ((l1 = 24 → w_R_push l4 M2009 (fun M2013 => Q M2013)) ∧ (¬ (l1 = 24) → w_R_push l3 M2009 (fun M2012 => Q M2012))))))) ∧ (¬ (l1 = 24) → w_R_push l2 M (fun M2003 => (l1 < 2147483648 ∧ ((l1 = 24 → w_R_push l4 M2003 (fun M2007 => Q M2007)) ∧ (¬ (l1 = 24) → w_R_push l3 M2003 (fun M2006 => Q M2006))))))))
set_option maxRecDepth 8000 in
set_option maxHeartbeats 4000000 in
theorem p_R_shuffle_67 (L : Nat) (xs : Nat → Int32) (d : Nat) (Q : xM → Prop) (l1 : Nat) (l2 : Int32) (l3 : Int32) (l4 : Int32) (M : xM) (h : w_R_shuffle_67 l1 l2 l3 l4 M Q) : xG xem (xgt L xs) (d + 1) xi_R_shuffle (67, [(0, .ref 22), (1, .int (nI l1)), (2, .int l2), (3, .int l3), (4, .int l4)], []) M (xPV Q) := by
  unfold w_R_shuffle_67 at h
  refine xG.seg 2 (f' := (70, [(0, .ref 22), (1, .int (nI l1)), (2, .int l2), (3, .int l3), (4, .int l4)], [.int (nI 24), .int (nI l1)])) (x1 := M) (fun _ => rfl) ?_
  obtain ⟨c2001, h⟩ := h
  refine xG.icmp (t := 78) (A := ¬ (l1 = 24)) rfl rfl (xe_c (xt_N c2001) (show ((nI 24) : Int32).toInt = 24 from by decide) (by dsimp only; omega)) (fun k2002 => ?_) (fun k2002 => ?_)
  · replace h := h.2 k2002
    refine xG.seg 2 (f' := (80, [(0, .ref 22), (1, .int (nI l1)), (2, .int l2), (3, .int l3), (4, .int l4)], [.int l2, .ref 22])) (x1 := M) (fun _ => rfl) ?_
    refine xG.call (d := d) (vs := [.ref 22, .int l2]) (g := (80, [(0, .ref 22), (1, .int (nI l1)), (2, .int l2), (3, .int l3), (4, .int l4)], [])) (fun _ => rfl) rfl (p_R_push L xs d l2 M _ h) ?_
    clear h
    rintro _ M2003 ⟨rfl, h⟩
    refine ⟨_, rfl, ?_⟩
    refine xG.eqf (f' := (83, [(0, .ref 22), (1, .int (nI l1)), (2, .int l2), (3, .int l3), (4, .int l4)], [])) rfl ?_
    refine xG.seg 3 (f' := (87, [(0, .ref 22), (1, .int (nI l1)), (2, .int l2), (3, .int l3), (4, .int l4)], [.int (nI 24), .int (nI l1), .ref 22])) (x1 := M2003) (fun _ => rfl) ?_
    obtain ⟨c2004, h⟩ := h
    refine xG.icmp (t := 95) (A := ¬ (l1 = 24)) rfl rfl (xe_c (xt_N c2004) (show ((nI 24) : Int32).toInt = 24 from by decide) (by dsimp only; omega)) (fun k2005 => ?_) (fun k2005 => ?_)
    · replace h := h.2 k2005
      refine xG.seg 1 (f' := (96, [(0, .ref 22), (1, .int (nI l1)), (2, .int l2), (3, .int l3), (4, .int l4)], [.int l3, .ref 22])) (x1 := M2003) (fun _ => rfl) ?_
      refine xG.call (d := d) (vs := [.ref 22, .int l3]) (g := (96, [(0, .ref 22), (1, .int (nI l1)), (2, .int l2), (3, .int l3), (4, .int l4)], [])) (fun _ => rfl) rfl (p_R_push L xs d l3 M2003 _ h) ?_
      clear h
      rintro _ M2006 ⟨rfl, h⟩
      refine ⟨_, rfl, ?_⟩
      refine xG.eqf (f' := (99, [(0, .ref 22), (1, .int (nI l1)), (2, .int l2), (3, .int l3), (4, .int l4)], [])) rfl ?_
      refine xG.seg 1 (f' := (190, [(0, .ref 22), (1, .int (nI l1)), (2, .int l2), (3, .int l3), (4, .int l4)], [])) (x1 := M2006) (fun _ => rfl) ?_
      exact xG.fin (fun _ => rfl) (⟨rfl, h⟩)
    · replace h := h.1 (Classical.not_not.mp k2005)
      refine xG.seg 2 (f' := (96, [(0, .ref 22), (1, .int (nI l1)), (2, .int l2), (3, .int l3), (4, .int l4)], [.int l4, .ref 22])) (x1 := M2003) (fun _ => rfl) ?_
      refine xG.call (d := d) (vs := [.ref 22, .int l4]) (g := (96, [(0, .ref 22), (1, .int (nI l1)), (2, .int l2), (3, .int l3), (4, .int l4)], [])) (fun _ => rfl) rfl (p_R_push L xs d l4 M2003 _ h) ?_
      clear h
      rintro _ M2007 ⟨rfl, h⟩
      refine ⟨_, rfl, ?_⟩
      refine xG.eqf (f' := (99, [(0, .ref 22), (1, .int (nI l1)), (2, .int l2), (3, .int l3), (4, .int l4)], [])) rfl ?_
      refine xG.seg 1 (f' := (190, [(0, .ref 22), (1, .int (nI l1)), (2, .int l2), (3, .int l3), (4, .int l4)], [])) (x1 := M2007) (fun _ => rfl) ?_
      exact xG.fin (fun _ => rfl) (⟨rfl, h⟩)
  · replace h := h.1 (Classical.not_not.mp k2002)
    refine xG.seg 2 (f' := (75, [(0, .ref 22), (1, .int (nI l1)), (2, .int l2), (3, .int l3), (4, .int l4)], [.int l3, .ref 22])) (x1 := M) (fun _ => rfl) ?_
    refine xG.call (d := d) (vs := [.ref 22, .int l3]) (g := (75, [(0, .ref 22), (1, .int (nI l1)), (2, .int l2), (3, .int l3), (4, .int l4)], [])) (fun _ => rfl) rfl (p_R_push L xs d l3 M _ h) ?_
    clear h
    rintro _ M2008 ⟨rfl, h⟩
    refine ⟨_, rfl, ?_⟩
    refine xG.eqf (f' := (78, [(0, .ref 22), (1, .int (nI l1)), (2, .int l2), (3, .int l3), (4, .int l4)], [])) rfl ?_
    refine xG.seg 2 (f' := (80, [(0, .ref 22), (1, .int (nI l1)), (2, .int l2), (3, .int l3), (4, .int l4)], [.int l2, .ref 22])) (x1 := M2008) (fun _ => rfl) ?_
    refine xG.call (d := d) (vs := [.ref 22, .int l2]) (g := (80, [(0, .ref 22), (1, .int (nI l1)), (2, .int l2), (3, .int l3), (4, .int l4)], [])) (fun _ => rfl) rfl (p_R_push L xs d l2 M2008 _ h) ?_
    clear h
    rintro _ M2009 ⟨rfl, h⟩
    refine ⟨_, rfl, ?_⟩
    refine xG.eqf (f' := (83, [(0, .ref 22), (1, .int (nI l1)), (2, .int l2), (3, .int l3), (4, .int l4)], [])) rfl ?_
    refine xG.seg 3 (f' := (87, [(0, .ref 22), (1, .int (nI l1)), (2, .int l2), (3, .int l3), (4, .int l4)], [.int (nI 24), .int (nI l1), .ref 22])) (x1 := M2009) (fun _ => rfl) ?_
    obtain ⟨c2010, h⟩ := h
    refine xG.icmp (t := 95) (A := ¬ (l1 = 24)) rfl rfl (xe_c (xt_N c2010) (show ((nI 24) : Int32).toInt = 24 from by decide) (by dsimp only; omega)) (fun k2011 => ?_) (fun k2011 => ?_)
    · replace h := h.2 k2011
      refine xG.seg 1 (f' := (96, [(0, .ref 22), (1, .int (nI l1)), (2, .int l2), (3, .int l3), (4, .int l4)], [.int l3, .ref 22])) (x1 := M2009) (fun _ => rfl) ?_
      refine xG.call (d := d) (vs := [.ref 22, .int l3]) (g := (96, [(0, .ref 22), (1, .int (nI l1)), (2, .int l2), (3, .int l3), (4, .int l4)], [])) (fun _ => rfl) rfl (p_R_push L xs d l3 M2009 _ h) ?_
      clear h
      rintro _ M2012 ⟨rfl, h⟩
      refine ⟨_, rfl, ?_⟩
      refine xG.eqf (f' := (99, [(0, .ref 22), (1, .int (nI l1)), (2, .int l2), (3, .int l3), (4, .int l4)], [])) rfl ?_
      refine xG.seg 1 (f' := (190, [(0, .ref 22), (1, .int (nI l1)), (2, .int l2), (3, .int l3), (4, .int l4)], [])) (x1 := M2012) (fun _ => rfl) ?_
      exact xG.fin (fun _ => rfl) (⟨rfl, h⟩)
    · replace h := h.1 (Classical.not_not.mp k2011)
      refine xG.seg 2 (f' := (96, [(0, .ref 22), (1, .int (nI l1)), (2, .int l2), (3, .int l3), (4, .int l4)], [.int l4, .ref 22])) (x1 := M2009) (fun _ => rfl) ?_
      refine xG.call (d := d) (vs := [.ref 22, .int l4]) (g := (96, [(0, .ref 22), (1, .int (nI l1)), (2, .int l2), (3, .int l3), (4, .int l4)], [])) (fun _ => rfl) rfl (p_R_push L xs d l4 M2009 _ h) ?_
      clear h
      rintro _ M2013 ⟨rfl, h⟩
      refine ⟨_, rfl, ?_⟩
      refine xG.eqf (f' := (99, [(0, .ref 22), (1, .int (nI l1)), (2, .int l2), (3, .int l3), (4, .int l4)], [])) rfl ?_
      refine xG.seg 1 (f' := (190, [(0, .ref 22), (1, .int (nI l1)), (2, .int l2), (3, .int l3), (4, .int l4)], [])) (x1 := M2013) (fun _ => rfl) ?_
      exact xG.fin (fun _ => rfl) (⟨rfl, h⟩)

def w_R_shuffle (x1 : Nat) (M : xM) (Q : xM → Prop) : Prop := w_R_pop M (fun r2 M1 => (x1 < 2147483648 ∧ ((x1 ≤ 21 → (x1 < 2147483648 ∧ ((x1 = 24 → w_R_pop M1 (fun r35 M34 => (x1 < 2147483648 ∧ ((x1 = 20 → w_R_push r2 M34 (fun M61 => w_R_push r2 M61 (fun M62 => Q M62))) ∧ (¬ (x1 = 20) → (x1 < 2147483648 ∧ ((x1 = 22 → w_R_shuffle_67 x1 r2 (nI 0) r35 M34 Q) ∧ (¬ (x1 = 22) → (x1 < 2147483648 ∧ ((x1 = 24 → w_R_shuffle_67 x1 r2 (nI 0) r35 M34 Q) ∧ (¬ (x1 = 24) → (x1 < 2147483648 ∧ ((x1 = 23 → w_R_push (nI 0) M34 (fun M58 => w_R_push r2 M58 (fun M59 => w_R_push (nI 0) M59 (fun M60 => Q M60)))) ∧ (¬ (x1 = 23) → (x1 < 2147483648 ∧ ((x1 = 25 → w_R_push r2 M34 (fun M57 => Q M57)) ∧ (¬ (x1 = 25) → (x1 < 2147483648 ∧ ((x1 = 26 → w_R_push r2 M34 (fun M54 => w_R_push (nI 0) M54 (fun M55 => w_R_push r2 M55 (fun M56 => Q M56)))) ∧ (¬ (x1 = 26) → (x1 < 2147483648 ∧ ((x1 = 27 → w_R_push (nI 0) M34 (fun M50 => w_R_push r2 M50 (fun M51 => w_R_push (nI 0) M51 (fun M52 => w_R_push r2 M52 (fun M53 => Q M53))))) ∧ (¬ (x1 = 27) → Q M34))))))))))))))))))))))) ∧ (¬ (x1 = 24) → (x1 < 2147483648 ∧ ((x1 = 20 → w_R_push r2 M1 (fun M32 => w_R_push r2 M32 (fun M33 => Q M33))) ∧ (¬ (x1 = 20) → (x1 < 2147483648 ∧ ((x1 = 22 → w_R_shuffle_67 x1 r2 (nI 0) (nI 0) M1 Q) ∧ (¬ (x1 = 22) → (x1 < 2147483648 ∧ ((x1 = 24 → w_R_shuffle_67 x1 r2 (nI 0) (nI 0) M1 Q) ∧ (¬ (x1 = 24) → (x1 < 2147483648 ∧ ((x1 = 23 → w_R_push (nI 0) M1 (fun M29 => w_R_push r2 M29 (fun M30 => w_R_push (nI 0) M30 (fun M31 => Q M31)))) ∧ (¬ (x1 = 23) → (x1 < 2147483648 ∧ ((x1 = 25 → w_R_push r2 M1 (fun M28 => Q M28)) ∧ (¬ (x1 = 25) → (x1 < 2147483648 ∧ ((x1 = 26 → w_R_push r2 M1 (fun M25 => w_R_push (nI 0) M25 (fun M26 => w_R_push r2 M26 (fun M27 => Q M27)))) ∧ (¬ (x1 = 26) → (x1 < 2147483648 ∧ ((x1 = 27 → w_R_push (nI 0) M1 (fun M21 => w_R_push r2 M21 (fun M22 => w_R_push (nI 0) M22 (fun M23 => w_R_push r2 M23 (fun M24 => Q M24))))) ∧ (¬ (x1 = 27) → Q M1))))))))))))))))))))))))) ∧ (¬ (x1 ≤ 21) → w_R_pop M1 (fun r64 M63 => (x1 < 2147483648 ∧ ((x1 = 24 → w_R_pop M63 (fun r95 M94 => (x1 < 2147483648 ∧ ((x1 = 20 → w_R_push r2 M94 (fun M121 => w_R_push r2 M121 (fun M122 => Q M122))) ∧ (¬ (x1 = 20) → (x1 < 2147483648 ∧ ((x1 = 22 → w_R_shuffle_67 x1 r2 r64 r95 M94 Q) ∧ (¬ (x1 = 22) → (x1 < 2147483648 ∧ ((x1 = 24 → w_R_shuffle_67 x1 r2 r64 r95 M94 Q) ∧ (¬ (x1 = 24) → (x1 < 2147483648 ∧ ((x1 = 23 → w_R_push r64 M94 (fun M118 => w_R_push r2 M118 (fun M119 => w_R_push r64 M119 (fun M120 => Q M120)))) ∧ (¬ (x1 = 23) → (x1 < 2147483648 ∧ ((x1 = 25 → w_R_push r2 M94 (fun M117 => Q M117)) ∧ (¬ (x1 = 25) → (x1 < 2147483648 ∧ ((x1 = 26 → w_R_push r2 M94 (fun M114 => w_R_push r64 M114 (fun M115 => w_R_push r2 M115 (fun M116 => Q M116)))) ∧ (¬ (x1 = 26) → (x1 < 2147483648 ∧ ((x1 = 27 → w_R_push r64 M94 (fun M110 => w_R_push r2 M110 (fun M111 => w_R_push r64 M111 (fun M112 => w_R_push r2 M112 (fun M113 => Q M113))))) ∧ (¬ (x1 = 27) → Q M94))))))))))))))))))))))) ∧ (¬ (x1 = 24) → (x1 < 2147483648 ∧ ((x1 = 20 → w_R_push r2 M63 (fun M92 => w_R_push r2 M92 (fun M93 => Q M93))) ∧ (¬ (x1 = 20) → (x1 < 2147483648 ∧ ((x1 = 22 → w_R_shuffle_67 x1 r2 r64 (nI 0) M63 Q) ∧ (¬ (x1 = 22) → (x1 < 2147483648 ∧ ((x1 = 24 → w_R_shuffle_67 x1 r2 r64 (nI 0) M63 Q) ∧ (¬ (x1 = 24) → (x1 < 2147483648 ∧ ((x1 = 23 → w_R_push r64 M63 (fun M89 => w_R_push r2 M89 (fun M90 => w_R_push r64 M90 (fun M91 => Q M91)))) ∧ (¬ (x1 = 23) → (x1 < 2147483648 ∧ ((x1 = 25 → w_R_push r2 M63 (fun M88 => Q M88)) ∧ (¬ (x1 = 25) → (x1 < 2147483648 ∧ ((x1 = 26 → w_R_push r2 M63 (fun M85 => w_R_push r64 M85 (fun M86 => w_R_push r2 M86 (fun M87 => Q M87)))) ∧ (¬ (x1 = 26) → (x1 < 2147483648 ∧ ((x1 = 27 → w_R_push r64 M63 (fun M81 => w_R_push r2 M81 (fun M82 => w_R_push r64 M82 (fun M83 => w_R_push r2 M83 (fun M84 => Q M84))))) ∧ (¬ (x1 = 27) → Q M63)))))))))))))))))))))))))))))
set_option maxRecDepth 8000 in
set_option maxHeartbeats 4000000 in
theorem p_R_shuffle (L : Nat) (xs : Nat → Int32) (d : Nat) (x1 : Nat) (M : xM) (Q : xM → Prop) (h : w_R_shuffle x1 M Q) : xG xem (xgt L xs) (d + 1) xi_R_shuffle (0, [(0, .ref 22), (1, .int (nI x1))], []) M (xPV Q) := by
  unfold w_R_shuffle at h
  refine xG.seg 1 (f' := (1, [(0, .ref 22), (1, .int (nI x1))], [.ref 22])) (x1 := M) (fun _ => rfl) ?_
  refine xG.call (d := d) (vs := [.ref 22]) (g := (1, [(0, .ref 22), (1, .int (nI x1))], [])) (fun _ => rfl) rfl (p_R_pop L xs d M _ h) ?_
  clear h
  rintro _ M1 ⟨r2, rfl, h⟩
  refine ⟨_, rfl, ?_⟩
  refine xG.eqf (f' := (4, [(0, .ref 22), (1, .int (nI x1))], [.int r2])) rfl ?_
  refine xG.seg 3 (f' := (8, [(2, .int r2), (0, .ref 22), (1, .int (nI x1))], [.int (nI 21), .int (nI x1)])) (x1 := M1) (fun _ => rfl) ?_
  obtain ⟨c3, h⟩ := h
  refine xG.icmp (t := 18) (A := x1 ≤ 21) rfl rfl (xe_c (xt_N c3) (show ((nI 21) : Int32).toInt = 21 from by decide) (by dsimp only; omega)) (fun k4 => ?_) (fun k4 => ?_)
  · replace h := h.1 k4
    refine xG.seg 4 (f' := (23, [(3, .int (nI 0)), (2, .int r2), (0, .ref 22), (1, .int (nI x1))], [.int (nI 24), .int (nI x1)])) (x1 := M1) (fun _ => rfl) ?_
    obtain ⟨c5, h⟩ := h
    refine xG.icmp (t := 33) (A := ¬ (x1 = 24)) rfl rfl (xe_c (xt_N c5) (show ((nI 24) : Int32).toInt = 24 from by decide) (by dsimp only; omega)) (fun k6 => ?_) (fun k6 => ?_)
    · replace h := h.2 k6
      refine xG.seg 4 (f' := (39, [(4, .int (nI 0)), (3, .int (nI 0)), (2, .int r2), (0, .ref 22), (1, .int (nI x1))], [.int (nI 20), .int (nI x1)])) (x1 := M1) (fun _ => rfl) ?_
      obtain ⟨c7, h⟩ := h
      refine xG.icmp (t := 55) (A := ¬ (x1 = 20)) rfl rfl (xe_c (xt_N c7) (show ((nI 20) : Int32).toInt = 20 from by decide) (by dsimp only; omega)) (fun k8 => ?_) (fun k8 => ?_)
      · replace h := h.2 k8
        refine xG.seg 2 (f' := (58, [(4, .int (nI 0)), (3, .int (nI 0)), (2, .int r2), (0, .ref 22), (1, .int (nI x1))], [.int (nI 22), .int (nI x1)])) (x1 := M1) (fun _ => rfl) ?_
        obtain ⟨c9, h⟩ := h
        refine xG.icmp (t := 67) (A := x1 = 22) rfl rfl (xe_c (xt_N c9) (show ((nI 22) : Int32).toInt = 22 from by decide) (by dsimp only; omega)) (fun k10 => ?_) (fun k10 => ?_)
        · replace h := h.1 k10
          refine xG.lv (lv := [(0, .ref 22), (1, .int (nI x1)), (2, .int r2), (3, .int ((nI 0))), (4, .int ((nI 0)))]) (lv' := [(4, .int ((nI 0))), (3, .int ((nI 0))), (2, .int r2), (0, .ref 22), (1, .int (nI x1))]) rfl rfl rfl ?_
          exact p_R_shuffle_67 L xs d Q x1 r2 (nI 0) (nI 0) M1 h
        · replace h := h.2 k10
          refine xG.seg 2 (f' := (64, [(4, .int (nI 0)), (3, .int (nI 0)), (2, .int r2), (0, .ref 22), (1, .int (nI x1))], [.int (nI 24), .int (nI x1)])) (x1 := M1) (fun _ => rfl) ?_
          obtain ⟨c11, h⟩ := h
          refine xG.icmp (t := 102) (A := ¬ (x1 = 24)) rfl rfl (xe_c (xt_N c11) (show ((nI 24) : Int32).toInt = 24 from by decide) (by dsimp only; omega)) (fun k12 => ?_) (fun k12 => ?_)
          · replace h := h.2 k12
            refine xG.seg 2 (f' := (105, [(4, .int (nI 0)), (3, .int (nI 0)), (2, .int r2), (0, .ref 22), (1, .int (nI x1))], [.int (nI 23), .int (nI x1)])) (x1 := M1) (fun _ => rfl) ?_
            obtain ⟨c13, h⟩ := h
            refine xG.icmp (t := 126) (A := ¬ (x1 = 23)) rfl rfl (xe_c (xt_N c13) (show ((nI 23) : Int32).toInt = 23 from by decide) (by dsimp only; omega)) (fun k14 => ?_) (fun k14 => ?_)
            · replace h := h.2 k14
              refine xG.seg 2 (f' := (129, [(4, .int (nI 0)), (3, .int (nI 0)), (2, .int r2), (0, .ref 22), (1, .int (nI x1))], [.int (nI 25), .int (nI x1)])) (x1 := M1) (fun _ => rfl) ?_
              obtain ⟨c15, h⟩ := h
              refine xG.icmp (t := 140) (A := ¬ (x1 = 25)) rfl rfl (xe_c (xt_N c15) (show ((nI 25) : Int32).toInt = 25 from by decide) (by dsimp only; omega)) (fun k16 => ?_) (fun k16 => ?_)
              · replace h := h.2 k16
                refine xG.seg 2 (f' := (143, [(4, .int (nI 0)), (3, .int (nI 0)), (2, .int r2), (0, .ref 22), (1, .int (nI x1))], [.int (nI 26), .int (nI x1)])) (x1 := M1) (fun _ => rfl) ?_
                obtain ⟨c17, h⟩ := h
                refine xG.icmp (t := 164) (A := ¬ (x1 = 26)) rfl rfl (xe_c (xt_N c17) (show ((nI 26) : Int32).toInt = 26 from by decide) (by dsimp only; omega)) (fun k18 => ?_) (fun k18 => ?_)
                · replace h := h.2 k18
                  refine xG.seg 2 (f' := (167, [(4, .int (nI 0)), (3, .int (nI 0)), (2, .int r2), (0, .ref 22), (1, .int (nI x1))], [.int (nI 27), .int (nI x1)])) (x1 := M1) (fun _ => rfl) ?_
                  obtain ⟨c19, h⟩ := h
                  refine xG.icmp (t := 190) (A := ¬ (x1 = 27)) rfl rfl (xe_c (xt_N c19) (show ((nI 27) : Int32).toInt = 27 from by decide) (by dsimp only; omega)) (fun k20 => ?_) (fun k20 => ?_)
                  · replace h := h.2 k20
                    exact xG.fin (fun _ => rfl) (⟨rfl, h⟩)
                  · replace h := h.1 (Classical.not_not.mp k20)
                    refine xG.seg 2 (f' := (172, [(4, .int (nI 0)), (3, .int (nI 0)), (2, .int r2), (0, .ref 22), (1, .int (nI x1))], [.int (nI 0), .ref 22])) (x1 := M1) (fun _ => rfl) ?_
                    refine xG.call (d := d) (vs := [.ref 22, .int (nI 0)]) (g := (172, [(4, .int (nI 0)), (3, .int (nI 0)), (2, .int r2), (0, .ref 22), (1, .int (nI x1))], [])) (fun _ => rfl) rfl (p_R_push L xs d (nI 0) M1 _ h) ?_
                    clear h
                    rintro _ M21 ⟨rfl, h⟩
                    refine ⟨_, rfl, ?_⟩
                    refine xG.eqf (f' := (175, [(4, .int (nI 0)), (3, .int (nI 0)), (2, .int r2), (0, .ref 22), (1, .int (nI x1))], [])) rfl ?_
                    refine xG.seg 2 (f' := (177, [(4, .int (nI 0)), (3, .int (nI 0)), (2, .int r2), (0, .ref 22), (1, .int (nI x1))], [.int r2, .ref 22])) (x1 := M21) (fun _ => rfl) ?_
                    refine xG.call (d := d) (vs := [.ref 22, .int r2]) (g := (177, [(4, .int (nI 0)), (3, .int (nI 0)), (2, .int r2), (0, .ref 22), (1, .int (nI x1))], [])) (fun _ => rfl) rfl (p_R_push L xs d r2 M21 _ h) ?_
                    clear h
                    rintro _ M22 ⟨rfl, h⟩
                    refine ⟨_, rfl, ?_⟩
                    refine xG.eqf (f' := (180, [(4, .int (nI 0)), (3, .int (nI 0)), (2, .int r2), (0, .ref 22), (1, .int (nI x1))], [])) rfl ?_
                    refine xG.seg 2 (f' := (182, [(4, .int (nI 0)), (3, .int (nI 0)), (2, .int r2), (0, .ref 22), (1, .int (nI x1))], [.int (nI 0), .ref 22])) (x1 := M22) (fun _ => rfl) ?_
                    refine xG.call (d := d) (vs := [.ref 22, .int (nI 0)]) (g := (182, [(4, .int (nI 0)), (3, .int (nI 0)), (2, .int r2), (0, .ref 22), (1, .int (nI x1))], [])) (fun _ => rfl) rfl (p_R_push L xs d (nI 0) M22 _ h) ?_
                    clear h
                    rintro _ M23 ⟨rfl, h⟩
                    refine ⟨_, rfl, ?_⟩
                    refine xG.eqf (f' := (185, [(4, .int (nI 0)), (3, .int (nI 0)), (2, .int r2), (0, .ref 22), (1, .int (nI x1))], [])) rfl ?_
                    refine xG.seg 2 (f' := (187, [(4, .int (nI 0)), (3, .int (nI 0)), (2, .int r2), (0, .ref 22), (1, .int (nI x1))], [.int r2, .ref 22])) (x1 := M23) (fun _ => rfl) ?_
                    refine xG.call (d := d) (vs := [.ref 22, .int r2]) (g := (187, [(4, .int (nI 0)), (3, .int (nI 0)), (2, .int r2), (0, .ref 22), (1, .int (nI x1))], [])) (fun _ => rfl) rfl (p_R_push L xs d r2 M23 _ h) ?_
                    clear h
                    rintro _ M24 ⟨rfl, h⟩
                    refine ⟨_, rfl, ?_⟩
                    refine xG.eqf (f' := (190, [(4, .int (nI 0)), (3, .int (nI 0)), (2, .int r2), (0, .ref 22), (1, .int (nI x1))], [])) rfl ?_
                    exact xG.fin (fun _ => rfl) (⟨rfl, h⟩)
                · replace h := h.1 (Classical.not_not.mp k18)
                  refine xG.seg 2 (f' := (148, [(4, .int (nI 0)), (3, .int (nI 0)), (2, .int r2), (0, .ref 22), (1, .int (nI x1))], [.int r2, .ref 22])) (x1 := M1) (fun _ => rfl) ?_
                  refine xG.call (d := d) (vs := [.ref 22, .int r2]) (g := (148, [(4, .int (nI 0)), (3, .int (nI 0)), (2, .int r2), (0, .ref 22), (1, .int (nI x1))], [])) (fun _ => rfl) rfl (p_R_push L xs d r2 M1 _ h) ?_
                  clear h
                  rintro _ M25 ⟨rfl, h⟩
                  refine ⟨_, rfl, ?_⟩
                  refine xG.eqf (f' := (151, [(4, .int (nI 0)), (3, .int (nI 0)), (2, .int r2), (0, .ref 22), (1, .int (nI x1))], [])) rfl ?_
                  refine xG.seg 2 (f' := (153, [(4, .int (nI 0)), (3, .int (nI 0)), (2, .int r2), (0, .ref 22), (1, .int (nI x1))], [.int (nI 0), .ref 22])) (x1 := M25) (fun _ => rfl) ?_
                  refine xG.call (d := d) (vs := [.ref 22, .int (nI 0)]) (g := (153, [(4, .int (nI 0)), (3, .int (nI 0)), (2, .int r2), (0, .ref 22), (1, .int (nI x1))], [])) (fun _ => rfl) rfl (p_R_push L xs d (nI 0) M25 _ h) ?_
                  clear h
                  rintro _ M26 ⟨rfl, h⟩
                  refine ⟨_, rfl, ?_⟩
                  refine xG.eqf (f' := (156, [(4, .int (nI 0)), (3, .int (nI 0)), (2, .int r2), (0, .ref 22), (1, .int (nI x1))], [])) rfl ?_
                  refine xG.seg 2 (f' := (158, [(4, .int (nI 0)), (3, .int (nI 0)), (2, .int r2), (0, .ref 22), (1, .int (nI x1))], [.int r2, .ref 22])) (x1 := M26) (fun _ => rfl) ?_
                  refine xG.call (d := d) (vs := [.ref 22, .int r2]) (g := (158, [(4, .int (nI 0)), (3, .int (nI 0)), (2, .int r2), (0, .ref 22), (1, .int (nI x1))], [])) (fun _ => rfl) rfl (p_R_push L xs d r2 M26 _ h) ?_
                  clear h
                  rintro _ M27 ⟨rfl, h⟩
                  refine ⟨_, rfl, ?_⟩
                  refine xG.eqf (f' := (161, [(4, .int (nI 0)), (3, .int (nI 0)), (2, .int r2), (0, .ref 22), (1, .int (nI x1))], [])) rfl ?_
                  refine xG.seg 1 (f' := (190, [(4, .int (nI 0)), (3, .int (nI 0)), (2, .int r2), (0, .ref 22), (1, .int (nI x1))], [])) (x1 := M27) (fun _ => rfl) ?_
                  exact xG.fin (fun _ => rfl) (⟨rfl, h⟩)
              · replace h := h.1 (Classical.not_not.mp k16)
                refine xG.seg 2 (f' := (134, [(4, .int (nI 0)), (3, .int (nI 0)), (2, .int r2), (0, .ref 22), (1, .int (nI x1))], [.int r2, .ref 22])) (x1 := M1) (fun _ => rfl) ?_
                refine xG.call (d := d) (vs := [.ref 22, .int r2]) (g := (134, [(4, .int (nI 0)), (3, .int (nI 0)), (2, .int r2), (0, .ref 22), (1, .int (nI x1))], [])) (fun _ => rfl) rfl (p_R_push L xs d r2 M1 _ h) ?_
                clear h
                rintro _ M28 ⟨rfl, h⟩
                refine ⟨_, rfl, ?_⟩
                refine xG.eqf (f' := (137, [(4, .int (nI 0)), (3, .int (nI 0)), (2, .int r2), (0, .ref 22), (1, .int (nI x1))], [])) rfl ?_
                refine xG.seg 1 (f' := (190, [(4, .int (nI 0)), (3, .int (nI 0)), (2, .int r2), (0, .ref 22), (1, .int (nI x1))], [])) (x1 := M28) (fun _ => rfl) ?_
                exact xG.fin (fun _ => rfl) (⟨rfl, h⟩)
            · replace h := h.1 (Classical.not_not.mp k14)
              refine xG.seg 2 (f' := (110, [(4, .int (nI 0)), (3, .int (nI 0)), (2, .int r2), (0, .ref 22), (1, .int (nI x1))], [.int (nI 0), .ref 22])) (x1 := M1) (fun _ => rfl) ?_
              refine xG.call (d := d) (vs := [.ref 22, .int (nI 0)]) (g := (110, [(4, .int (nI 0)), (3, .int (nI 0)), (2, .int r2), (0, .ref 22), (1, .int (nI x1))], [])) (fun _ => rfl) rfl (p_R_push L xs d (nI 0) M1 _ h) ?_
              clear h
              rintro _ M29 ⟨rfl, h⟩
              refine ⟨_, rfl, ?_⟩
              refine xG.eqf (f' := (113, [(4, .int (nI 0)), (3, .int (nI 0)), (2, .int r2), (0, .ref 22), (1, .int (nI x1))], [])) rfl ?_
              refine xG.seg 2 (f' := (115, [(4, .int (nI 0)), (3, .int (nI 0)), (2, .int r2), (0, .ref 22), (1, .int (nI x1))], [.int r2, .ref 22])) (x1 := M29) (fun _ => rfl) ?_
              refine xG.call (d := d) (vs := [.ref 22, .int r2]) (g := (115, [(4, .int (nI 0)), (3, .int (nI 0)), (2, .int r2), (0, .ref 22), (1, .int (nI x1))], [])) (fun _ => rfl) rfl (p_R_push L xs d r2 M29 _ h) ?_
              clear h
              rintro _ M30 ⟨rfl, h⟩
              refine ⟨_, rfl, ?_⟩
              refine xG.eqf (f' := (118, [(4, .int (nI 0)), (3, .int (nI 0)), (2, .int r2), (0, .ref 22), (1, .int (nI x1))], [])) rfl ?_
              refine xG.seg 2 (f' := (120, [(4, .int (nI 0)), (3, .int (nI 0)), (2, .int r2), (0, .ref 22), (1, .int (nI x1))], [.int (nI 0), .ref 22])) (x1 := M30) (fun _ => rfl) ?_
              refine xG.call (d := d) (vs := [.ref 22, .int (nI 0)]) (g := (120, [(4, .int (nI 0)), (3, .int (nI 0)), (2, .int r2), (0, .ref 22), (1, .int (nI x1))], [])) (fun _ => rfl) rfl (p_R_push L xs d (nI 0) M30 _ h) ?_
              clear h
              rintro _ M31 ⟨rfl, h⟩
              refine ⟨_, rfl, ?_⟩
              refine xG.eqf (f' := (123, [(4, .int (nI 0)), (3, .int (nI 0)), (2, .int r2), (0, .ref 22), (1, .int (nI x1))], [])) rfl ?_
              refine xG.seg 1 (f' := (190, [(4, .int (nI 0)), (3, .int (nI 0)), (2, .int r2), (0, .ref 22), (1, .int (nI x1))], [])) (x1 := M31) (fun _ => rfl) ?_
              exact xG.fin (fun _ => rfl) (⟨rfl, h⟩)
          · replace h := h.1 (Classical.not_not.mp k12)
            refine xG.lv (lv := [(0, .ref 22), (1, .int (nI x1)), (2, .int r2), (3, .int ((nI 0))), (4, .int ((nI 0)))]) (lv' := [(4, .int ((nI 0))), (3, .int ((nI 0))), (2, .int r2), (0, .ref 22), (1, .int (nI x1))]) rfl rfl rfl ?_
            exact p_R_shuffle_67 L xs d Q x1 r2 (nI 0) (nI 0) M1 h
      · replace h := h.1 (Classical.not_not.mp k8)
        refine xG.seg 2 (f' := (44, [(4, .int (nI 0)), (3, .int (nI 0)), (2, .int r2), (0, .ref 22), (1, .int (nI x1))], [.int r2, .ref 22])) (x1 := M1) (fun _ => rfl) ?_
        refine xG.call (d := d) (vs := [.ref 22, .int r2]) (g := (44, [(4, .int (nI 0)), (3, .int (nI 0)), (2, .int r2), (0, .ref 22), (1, .int (nI x1))], [])) (fun _ => rfl) rfl (p_R_push L xs d r2 M1 _ h) ?_
        clear h
        rintro _ M32 ⟨rfl, h⟩
        refine ⟨_, rfl, ?_⟩
        refine xG.eqf (f' := (47, [(4, .int (nI 0)), (3, .int (nI 0)), (2, .int r2), (0, .ref 22), (1, .int (nI x1))], [])) rfl ?_
        refine xG.seg 2 (f' := (49, [(4, .int (nI 0)), (3, .int (nI 0)), (2, .int r2), (0, .ref 22), (1, .int (nI x1))], [.int r2, .ref 22])) (x1 := M32) (fun _ => rfl) ?_
        refine xG.call (d := d) (vs := [.ref 22, .int r2]) (g := (49, [(4, .int (nI 0)), (3, .int (nI 0)), (2, .int r2), (0, .ref 22), (1, .int (nI x1))], [])) (fun _ => rfl) rfl (p_R_push L xs d r2 M32 _ h) ?_
        clear h
        rintro _ M33 ⟨rfl, h⟩
        refine ⟨_, rfl, ?_⟩
        refine xG.eqf (f' := (52, [(4, .int (nI 0)), (3, .int (nI 0)), (2, .int r2), (0, .ref 22), (1, .int (nI x1))], [])) rfl ?_
        refine xG.seg 1 (f' := (190, [(4, .int (nI 0)), (3, .int (nI 0)), (2, .int r2), (0, .ref 22), (1, .int (nI x1))], [])) (x1 := M33) (fun _ => rfl) ?_
        exact xG.fin (fun _ => rfl) (⟨rfl, h⟩)
    · replace h := h.1 (Classical.not_not.mp k6)
      refine xG.seg 1 (f' := (27, [(3, .int (nI 0)), (2, .int r2), (0, .ref 22), (1, .int (nI x1))], [.ref 22])) (x1 := M1) (fun _ => rfl) ?_
      refine xG.call (d := d) (vs := [.ref 22]) (g := (27, [(3, .int (nI 0)), (2, .int r2), (0, .ref 22), (1, .int (nI x1))], [])) (fun _ => rfl) rfl (p_R_pop L xs d M1 _ h) ?_
      clear h
      rintro _ M34 ⟨r35, rfl, h⟩
      refine ⟨_, rfl, ?_⟩
      refine xG.eqf (f' := (30, [(3, .int (nI 0)), (2, .int r2), (0, .ref 22), (1, .int (nI x1))], [.int r35])) rfl ?_
      refine xG.seg 4 (f' := (39, [(4, .int r35), (3, .int (nI 0)), (2, .int r2), (0, .ref 22), (1, .int (nI x1))], [.int (nI 20), .int (nI x1)])) (x1 := M34) (fun _ => rfl) ?_
      obtain ⟨c36, h⟩ := h
      refine xG.icmp (t := 55) (A := ¬ (x1 = 20)) rfl rfl (xe_c (xt_N c36) (show ((nI 20) : Int32).toInt = 20 from by decide) (by dsimp only; omega)) (fun k37 => ?_) (fun k37 => ?_)
      · replace h := h.2 k37
        refine xG.seg 2 (f' := (58, [(4, .int r35), (3, .int (nI 0)), (2, .int r2), (0, .ref 22), (1, .int (nI x1))], [.int (nI 22), .int (nI x1)])) (x1 := M34) (fun _ => rfl) ?_
        obtain ⟨c38, h⟩ := h
        refine xG.icmp (t := 67) (A := x1 = 22) rfl rfl (xe_c (xt_N c38) (show ((nI 22) : Int32).toInt = 22 from by decide) (by dsimp only; omega)) (fun k39 => ?_) (fun k39 => ?_)
        · replace h := h.1 k39
          refine xG.lv (lv := [(0, .ref 22), (1, .int (nI x1)), (2, .int r2), (3, .int ((nI 0))), (4, .int r35)]) (lv' := [(4, .int r35), (3, .int ((nI 0))), (2, .int r2), (0, .ref 22), (1, .int (nI x1))]) rfl rfl rfl ?_
          exact p_R_shuffle_67 L xs d Q x1 r2 (nI 0) r35 M34 h
        · replace h := h.2 k39
          refine xG.seg 2 (f' := (64, [(4, .int r35), (3, .int (nI 0)), (2, .int r2), (0, .ref 22), (1, .int (nI x1))], [.int (nI 24), .int (nI x1)])) (x1 := M34) (fun _ => rfl) ?_
          obtain ⟨c40, h⟩ := h
          refine xG.icmp (t := 102) (A := ¬ (x1 = 24)) rfl rfl (xe_c (xt_N c40) (show ((nI 24) : Int32).toInt = 24 from by decide) (by dsimp only; omega)) (fun k41 => ?_) (fun k41 => ?_)
          · replace h := h.2 k41
            refine xG.seg 2 (f' := (105, [(4, .int r35), (3, .int (nI 0)), (2, .int r2), (0, .ref 22), (1, .int (nI x1))], [.int (nI 23), .int (nI x1)])) (x1 := M34) (fun _ => rfl) ?_
            obtain ⟨c42, h⟩ := h
            refine xG.icmp (t := 126) (A := ¬ (x1 = 23)) rfl rfl (xe_c (xt_N c42) (show ((nI 23) : Int32).toInt = 23 from by decide) (by dsimp only; omega)) (fun k43 => ?_) (fun k43 => ?_)
            · replace h := h.2 k43
              refine xG.seg 2 (f' := (129, [(4, .int r35), (3, .int (nI 0)), (2, .int r2), (0, .ref 22), (1, .int (nI x1))], [.int (nI 25), .int (nI x1)])) (x1 := M34) (fun _ => rfl) ?_
              obtain ⟨c44, h⟩ := h
              refine xG.icmp (t := 140) (A := ¬ (x1 = 25)) rfl rfl (xe_c (xt_N c44) (show ((nI 25) : Int32).toInt = 25 from by decide) (by dsimp only; omega)) (fun k45 => ?_) (fun k45 => ?_)
              · replace h := h.2 k45
                refine xG.seg 2 (f' := (143, [(4, .int r35), (3, .int (nI 0)), (2, .int r2), (0, .ref 22), (1, .int (nI x1))], [.int (nI 26), .int (nI x1)])) (x1 := M34) (fun _ => rfl) ?_
                obtain ⟨c46, h⟩ := h
                refine xG.icmp (t := 164) (A := ¬ (x1 = 26)) rfl rfl (xe_c (xt_N c46) (show ((nI 26) : Int32).toInt = 26 from by decide) (by dsimp only; omega)) (fun k47 => ?_) (fun k47 => ?_)
                · replace h := h.2 k47
                  refine xG.seg 2 (f' := (167, [(4, .int r35), (3, .int (nI 0)), (2, .int r2), (0, .ref 22), (1, .int (nI x1))], [.int (nI 27), .int (nI x1)])) (x1 := M34) (fun _ => rfl) ?_
                  obtain ⟨c48, h⟩ := h
                  refine xG.icmp (t := 190) (A := ¬ (x1 = 27)) rfl rfl (xe_c (xt_N c48) (show ((nI 27) : Int32).toInt = 27 from by decide) (by dsimp only; omega)) (fun k49 => ?_) (fun k49 => ?_)
                  · replace h := h.2 k49
                    exact xG.fin (fun _ => rfl) (⟨rfl, h⟩)
                  · replace h := h.1 (Classical.not_not.mp k49)
                    refine xG.seg 2 (f' := (172, [(4, .int r35), (3, .int (nI 0)), (2, .int r2), (0, .ref 22), (1, .int (nI x1))], [.int (nI 0), .ref 22])) (x1 := M34) (fun _ => rfl) ?_
                    refine xG.call (d := d) (vs := [.ref 22, .int (nI 0)]) (g := (172, [(4, .int r35), (3, .int (nI 0)), (2, .int r2), (0, .ref 22), (1, .int (nI x1))], [])) (fun _ => rfl) rfl (p_R_push L xs d (nI 0) M34 _ h) ?_
                    clear h
                    rintro _ M50 ⟨rfl, h⟩
                    refine ⟨_, rfl, ?_⟩
                    refine xG.eqf (f' := (175, [(4, .int r35), (3, .int (nI 0)), (2, .int r2), (0, .ref 22), (1, .int (nI x1))], [])) rfl ?_
                    refine xG.seg 2 (f' := (177, [(4, .int r35), (3, .int (nI 0)), (2, .int r2), (0, .ref 22), (1, .int (nI x1))], [.int r2, .ref 22])) (x1 := M50) (fun _ => rfl) ?_
                    refine xG.call (d := d) (vs := [.ref 22, .int r2]) (g := (177, [(4, .int r35), (3, .int (nI 0)), (2, .int r2), (0, .ref 22), (1, .int (nI x1))], [])) (fun _ => rfl) rfl (p_R_push L xs d r2 M50 _ h) ?_
                    clear h
                    rintro _ M51 ⟨rfl, h⟩
                    refine ⟨_, rfl, ?_⟩
                    refine xG.eqf (f' := (180, [(4, .int r35), (3, .int (nI 0)), (2, .int r2), (0, .ref 22), (1, .int (nI x1))], [])) rfl ?_
                    refine xG.seg 2 (f' := (182, [(4, .int r35), (3, .int (nI 0)), (2, .int r2), (0, .ref 22), (1, .int (nI x1))], [.int (nI 0), .ref 22])) (x1 := M51) (fun _ => rfl) ?_
                    refine xG.call (d := d) (vs := [.ref 22, .int (nI 0)]) (g := (182, [(4, .int r35), (3, .int (nI 0)), (2, .int r2), (0, .ref 22), (1, .int (nI x1))], [])) (fun _ => rfl) rfl (p_R_push L xs d (nI 0) M51 _ h) ?_
                    clear h
                    rintro _ M52 ⟨rfl, h⟩
                    refine ⟨_, rfl, ?_⟩
                    refine xG.eqf (f' := (185, [(4, .int r35), (3, .int (nI 0)), (2, .int r2), (0, .ref 22), (1, .int (nI x1))], [])) rfl ?_
                    refine xG.seg 2 (f' := (187, [(4, .int r35), (3, .int (nI 0)), (2, .int r2), (0, .ref 22), (1, .int (nI x1))], [.int r2, .ref 22])) (x1 := M52) (fun _ => rfl) ?_
                    refine xG.call (d := d) (vs := [.ref 22, .int r2]) (g := (187, [(4, .int r35), (3, .int (nI 0)), (2, .int r2), (0, .ref 22), (1, .int (nI x1))], [])) (fun _ => rfl) rfl (p_R_push L xs d r2 M52 _ h) ?_
                    clear h
                    rintro _ M53 ⟨rfl, h⟩
                    refine ⟨_, rfl, ?_⟩
                    refine xG.eqf (f' := (190, [(4, .int r35), (3, .int (nI 0)), (2, .int r2), (0, .ref 22), (1, .int (nI x1))], [])) rfl ?_
                    exact xG.fin (fun _ => rfl) (⟨rfl, h⟩)
                · replace h := h.1 (Classical.not_not.mp k47)
                  refine xG.seg 2 (f' := (148, [(4, .int r35), (3, .int (nI 0)), (2, .int r2), (0, .ref 22), (1, .int (nI x1))], [.int r2, .ref 22])) (x1 := M34) (fun _ => rfl) ?_
                  refine xG.call (d := d) (vs := [.ref 22, .int r2]) (g := (148, [(4, .int r35), (3, .int (nI 0)), (2, .int r2), (0, .ref 22), (1, .int (nI x1))], [])) (fun _ => rfl) rfl (p_R_push L xs d r2 M34 _ h) ?_
                  clear h
                  rintro _ M54 ⟨rfl, h⟩
                  refine ⟨_, rfl, ?_⟩
                  refine xG.eqf (f' := (151, [(4, .int r35), (3, .int (nI 0)), (2, .int r2), (0, .ref 22), (1, .int (nI x1))], [])) rfl ?_
                  refine xG.seg 2 (f' := (153, [(4, .int r35), (3, .int (nI 0)), (2, .int r2), (0, .ref 22), (1, .int (nI x1))], [.int (nI 0), .ref 22])) (x1 := M54) (fun _ => rfl) ?_
                  refine xG.call (d := d) (vs := [.ref 22, .int (nI 0)]) (g := (153, [(4, .int r35), (3, .int (nI 0)), (2, .int r2), (0, .ref 22), (1, .int (nI x1))], [])) (fun _ => rfl) rfl (p_R_push L xs d (nI 0) M54 _ h) ?_
                  clear h
                  rintro _ M55 ⟨rfl, h⟩
                  refine ⟨_, rfl, ?_⟩
                  refine xG.eqf (f' := (156, [(4, .int r35), (3, .int (nI 0)), (2, .int r2), (0, .ref 22), (1, .int (nI x1))], [])) rfl ?_
                  refine xG.seg 2 (f' := (158, [(4, .int r35), (3, .int (nI 0)), (2, .int r2), (0, .ref 22), (1, .int (nI x1))], [.int r2, .ref 22])) (x1 := M55) (fun _ => rfl) ?_
                  refine xG.call (d := d) (vs := [.ref 22, .int r2]) (g := (158, [(4, .int r35), (3, .int (nI 0)), (2, .int r2), (0, .ref 22), (1, .int (nI x1))], [])) (fun _ => rfl) rfl (p_R_push L xs d r2 M55 _ h) ?_
                  clear h
                  rintro _ M56 ⟨rfl, h⟩
                  refine ⟨_, rfl, ?_⟩
                  refine xG.eqf (f' := (161, [(4, .int r35), (3, .int (nI 0)), (2, .int r2), (0, .ref 22), (1, .int (nI x1))], [])) rfl ?_
                  refine xG.seg 1 (f' := (190, [(4, .int r35), (3, .int (nI 0)), (2, .int r2), (0, .ref 22), (1, .int (nI x1))], [])) (x1 := M56) (fun _ => rfl) ?_
                  exact xG.fin (fun _ => rfl) (⟨rfl, h⟩)
              · replace h := h.1 (Classical.not_not.mp k45)
                refine xG.seg 2 (f' := (134, [(4, .int r35), (3, .int (nI 0)), (2, .int r2), (0, .ref 22), (1, .int (nI x1))], [.int r2, .ref 22])) (x1 := M34) (fun _ => rfl) ?_
                refine xG.call (d := d) (vs := [.ref 22, .int r2]) (g := (134, [(4, .int r35), (3, .int (nI 0)), (2, .int r2), (0, .ref 22), (1, .int (nI x1))], [])) (fun _ => rfl) rfl (p_R_push L xs d r2 M34 _ h) ?_
                clear h
                rintro _ M57 ⟨rfl, h⟩
                refine ⟨_, rfl, ?_⟩
                refine xG.eqf (f' := (137, [(4, .int r35), (3, .int (nI 0)), (2, .int r2), (0, .ref 22), (1, .int (nI x1))], [])) rfl ?_
                refine xG.seg 1 (f' := (190, [(4, .int r35), (3, .int (nI 0)), (2, .int r2), (0, .ref 22), (1, .int (nI x1))], [])) (x1 := M57) (fun _ => rfl) ?_
                exact xG.fin (fun _ => rfl) (⟨rfl, h⟩)
            · replace h := h.1 (Classical.not_not.mp k43)
              refine xG.seg 2 (f' := (110, [(4, .int r35), (3, .int (nI 0)), (2, .int r2), (0, .ref 22), (1, .int (nI x1))], [.int (nI 0), .ref 22])) (x1 := M34) (fun _ => rfl) ?_
              refine xG.call (d := d) (vs := [.ref 22, .int (nI 0)]) (g := (110, [(4, .int r35), (3, .int (nI 0)), (2, .int r2), (0, .ref 22), (1, .int (nI x1))], [])) (fun _ => rfl) rfl (p_R_push L xs d (nI 0) M34 _ h) ?_
              clear h
              rintro _ M58 ⟨rfl, h⟩
              refine ⟨_, rfl, ?_⟩
              refine xG.eqf (f' := (113, [(4, .int r35), (3, .int (nI 0)), (2, .int r2), (0, .ref 22), (1, .int (nI x1))], [])) rfl ?_
              refine xG.seg 2 (f' := (115, [(4, .int r35), (3, .int (nI 0)), (2, .int r2), (0, .ref 22), (1, .int (nI x1))], [.int r2, .ref 22])) (x1 := M58) (fun _ => rfl) ?_
              refine xG.call (d := d) (vs := [.ref 22, .int r2]) (g := (115, [(4, .int r35), (3, .int (nI 0)), (2, .int r2), (0, .ref 22), (1, .int (nI x1))], [])) (fun _ => rfl) rfl (p_R_push L xs d r2 M58 _ h) ?_
              clear h
              rintro _ M59 ⟨rfl, h⟩
              refine ⟨_, rfl, ?_⟩
              refine xG.eqf (f' := (118, [(4, .int r35), (3, .int (nI 0)), (2, .int r2), (0, .ref 22), (1, .int (nI x1))], [])) rfl ?_
              refine xG.seg 2 (f' := (120, [(4, .int r35), (3, .int (nI 0)), (2, .int r2), (0, .ref 22), (1, .int (nI x1))], [.int (nI 0), .ref 22])) (x1 := M59) (fun _ => rfl) ?_
              refine xG.call (d := d) (vs := [.ref 22, .int (nI 0)]) (g := (120, [(4, .int r35), (3, .int (nI 0)), (2, .int r2), (0, .ref 22), (1, .int (nI x1))], [])) (fun _ => rfl) rfl (p_R_push L xs d (nI 0) M59 _ h) ?_
              clear h
              rintro _ M60 ⟨rfl, h⟩
              refine ⟨_, rfl, ?_⟩
              refine xG.eqf (f' := (123, [(4, .int r35), (3, .int (nI 0)), (2, .int r2), (0, .ref 22), (1, .int (nI x1))], [])) rfl ?_
              refine xG.seg 1 (f' := (190, [(4, .int r35), (3, .int (nI 0)), (2, .int r2), (0, .ref 22), (1, .int (nI x1))], [])) (x1 := M60) (fun _ => rfl) ?_
              exact xG.fin (fun _ => rfl) (⟨rfl, h⟩)
          · replace h := h.1 (Classical.not_not.mp k41)
            refine xG.lv (lv := [(0, .ref 22), (1, .int (nI x1)), (2, .int r2), (3, .int ((nI 0))), (4, .int r35)]) (lv' := [(4, .int r35), (3, .int ((nI 0))), (2, .int r2), (0, .ref 22), (1, .int (nI x1))]) rfl rfl rfl ?_
            exact p_R_shuffle_67 L xs d Q x1 r2 (nI 0) r35 M34 h
      · replace h := h.1 (Classical.not_not.mp k37)
        refine xG.seg 2 (f' := (44, [(4, .int r35), (3, .int (nI 0)), (2, .int r2), (0, .ref 22), (1, .int (nI x1))], [.int r2, .ref 22])) (x1 := M34) (fun _ => rfl) ?_
        refine xG.call (d := d) (vs := [.ref 22, .int r2]) (g := (44, [(4, .int r35), (3, .int (nI 0)), (2, .int r2), (0, .ref 22), (1, .int (nI x1))], [])) (fun _ => rfl) rfl (p_R_push L xs d r2 M34 _ h) ?_
        clear h
        rintro _ M61 ⟨rfl, h⟩
        refine ⟨_, rfl, ?_⟩
        refine xG.eqf (f' := (47, [(4, .int r35), (3, .int (nI 0)), (2, .int r2), (0, .ref 22), (1, .int (nI x1))], [])) rfl ?_
        refine xG.seg 2 (f' := (49, [(4, .int r35), (3, .int (nI 0)), (2, .int r2), (0, .ref 22), (1, .int (nI x1))], [.int r2, .ref 22])) (x1 := M61) (fun _ => rfl) ?_
        refine xG.call (d := d) (vs := [.ref 22, .int r2]) (g := (49, [(4, .int r35), (3, .int (nI 0)), (2, .int r2), (0, .ref 22), (1, .int (nI x1))], [])) (fun _ => rfl) rfl (p_R_push L xs d r2 M61 _ h) ?_
        clear h
        rintro _ M62 ⟨rfl, h⟩
        refine ⟨_, rfl, ?_⟩
        refine xG.eqf (f' := (52, [(4, .int r35), (3, .int (nI 0)), (2, .int r2), (0, .ref 22), (1, .int (nI x1))], [])) rfl ?_
        refine xG.seg 1 (f' := (190, [(4, .int r35), (3, .int (nI 0)), (2, .int r2), (0, .ref 22), (1, .int (nI x1))], [])) (x1 := M62) (fun _ => rfl) ?_
        exact xG.fin (fun _ => rfl) (⟨rfl, h⟩)
  · replace h := h.2 k4
    refine xG.seg 1 (f' := (12, [(2, .int r2), (0, .ref 22), (1, .int (nI x1))], [.ref 22])) (x1 := M1) (fun _ => rfl) ?_
    refine xG.call (d := d) (vs := [.ref 22]) (g := (12, [(2, .int r2), (0, .ref 22), (1, .int (nI x1))], [])) (fun _ => rfl) rfl (p_R_pop L xs d M1 _ h) ?_
    clear h
    rintro _ M63 ⟨r64, rfl, h⟩
    refine ⟨_, rfl, ?_⟩
    refine xG.eqf (f' := (15, [(2, .int r2), (0, .ref 22), (1, .int (nI x1))], [.int r64])) rfl ?_
    refine xG.seg 4 (f' := (23, [(3, .int r64), (2, .int r2), (0, .ref 22), (1, .int (nI x1))], [.int (nI 24), .int (nI x1)])) (x1 := M63) (fun _ => rfl) ?_
    obtain ⟨c65, h⟩ := h
    refine xG.icmp (t := 33) (A := ¬ (x1 = 24)) rfl rfl (xe_c (xt_N c65) (show ((nI 24) : Int32).toInt = 24 from by decide) (by dsimp only; omega)) (fun k66 => ?_) (fun k66 => ?_)
    · replace h := h.2 k66
      refine xG.seg 4 (f' := (39, [(4, .int (nI 0)), (3, .int r64), (2, .int r2), (0, .ref 22), (1, .int (nI x1))], [.int (nI 20), .int (nI x1)])) (x1 := M63) (fun _ => rfl) ?_
      obtain ⟨c67, h⟩ := h
      refine xG.icmp (t := 55) (A := ¬ (x1 = 20)) rfl rfl (xe_c (xt_N c67) (show ((nI 20) : Int32).toInt = 20 from by decide) (by dsimp only; omega)) (fun k68 => ?_) (fun k68 => ?_)
      · replace h := h.2 k68
        refine xG.seg 2 (f' := (58, [(4, .int (nI 0)), (3, .int r64), (2, .int r2), (0, .ref 22), (1, .int (nI x1))], [.int (nI 22), .int (nI x1)])) (x1 := M63) (fun _ => rfl) ?_
        obtain ⟨c69, h⟩ := h
        refine xG.icmp (t := 67) (A := x1 = 22) rfl rfl (xe_c (xt_N c69) (show ((nI 22) : Int32).toInt = 22 from by decide) (by dsimp only; omega)) (fun k70 => ?_) (fun k70 => ?_)
        · replace h := h.1 k70
          refine xG.lv (lv := [(0, .ref 22), (1, .int (nI x1)), (2, .int r2), (3, .int r64), (4, .int ((nI 0)))]) (lv' := [(4, .int ((nI 0))), (3, .int r64), (2, .int r2), (0, .ref 22), (1, .int (nI x1))]) rfl rfl rfl ?_
          exact p_R_shuffle_67 L xs d Q x1 r2 r64 (nI 0) M63 h
        · replace h := h.2 k70
          refine xG.seg 2 (f' := (64, [(4, .int (nI 0)), (3, .int r64), (2, .int r2), (0, .ref 22), (1, .int (nI x1))], [.int (nI 24), .int (nI x1)])) (x1 := M63) (fun _ => rfl) ?_
          obtain ⟨c71, h⟩ := h
          refine xG.icmp (t := 102) (A := ¬ (x1 = 24)) rfl rfl (xe_c (xt_N c71) (show ((nI 24) : Int32).toInt = 24 from by decide) (by dsimp only; omega)) (fun k72 => ?_) (fun k72 => ?_)
          · replace h := h.2 k72
            refine xG.seg 2 (f' := (105, [(4, .int (nI 0)), (3, .int r64), (2, .int r2), (0, .ref 22), (1, .int (nI x1))], [.int (nI 23), .int (nI x1)])) (x1 := M63) (fun _ => rfl) ?_
            obtain ⟨c73, h⟩ := h
            refine xG.icmp (t := 126) (A := ¬ (x1 = 23)) rfl rfl (xe_c (xt_N c73) (show ((nI 23) : Int32).toInt = 23 from by decide) (by dsimp only; omega)) (fun k74 => ?_) (fun k74 => ?_)
            · replace h := h.2 k74
              refine xG.seg 2 (f' := (129, [(4, .int (nI 0)), (3, .int r64), (2, .int r2), (0, .ref 22), (1, .int (nI x1))], [.int (nI 25), .int (nI x1)])) (x1 := M63) (fun _ => rfl) ?_
              obtain ⟨c75, h⟩ := h
              refine xG.icmp (t := 140) (A := ¬ (x1 = 25)) rfl rfl (xe_c (xt_N c75) (show ((nI 25) : Int32).toInt = 25 from by decide) (by dsimp only; omega)) (fun k76 => ?_) (fun k76 => ?_)
              · replace h := h.2 k76
                refine xG.seg 2 (f' := (143, [(4, .int (nI 0)), (3, .int r64), (2, .int r2), (0, .ref 22), (1, .int (nI x1))], [.int (nI 26), .int (nI x1)])) (x1 := M63) (fun _ => rfl) ?_
                obtain ⟨c77, h⟩ := h
                refine xG.icmp (t := 164) (A := ¬ (x1 = 26)) rfl rfl (xe_c (xt_N c77) (show ((nI 26) : Int32).toInt = 26 from by decide) (by dsimp only; omega)) (fun k78 => ?_) (fun k78 => ?_)
                · replace h := h.2 k78
                  refine xG.seg 2 (f' := (167, [(4, .int (nI 0)), (3, .int r64), (2, .int r2), (0, .ref 22), (1, .int (nI x1))], [.int (nI 27), .int (nI x1)])) (x1 := M63) (fun _ => rfl) ?_
                  obtain ⟨c79, h⟩ := h
                  refine xG.icmp (t := 190) (A := ¬ (x1 = 27)) rfl rfl (xe_c (xt_N c79) (show ((nI 27) : Int32).toInt = 27 from by decide) (by dsimp only; omega)) (fun k80 => ?_) (fun k80 => ?_)
                  · replace h := h.2 k80
                    exact xG.fin (fun _ => rfl) (⟨rfl, h⟩)
                  · replace h := h.1 (Classical.not_not.mp k80)
                    refine xG.seg 2 (f' := (172, [(4, .int (nI 0)), (3, .int r64), (2, .int r2), (0, .ref 22), (1, .int (nI x1))], [.int r64, .ref 22])) (x1 := M63) (fun _ => rfl) ?_
                    refine xG.call (d := d) (vs := [.ref 22, .int r64]) (g := (172, [(4, .int (nI 0)), (3, .int r64), (2, .int r2), (0, .ref 22), (1, .int (nI x1))], [])) (fun _ => rfl) rfl (p_R_push L xs d r64 M63 _ h) ?_
                    clear h
                    rintro _ M81 ⟨rfl, h⟩
                    refine ⟨_, rfl, ?_⟩
                    refine xG.eqf (f' := (175, [(4, .int (nI 0)), (3, .int r64), (2, .int r2), (0, .ref 22), (1, .int (nI x1))], [])) rfl ?_
                    refine xG.seg 2 (f' := (177, [(4, .int (nI 0)), (3, .int r64), (2, .int r2), (0, .ref 22), (1, .int (nI x1))], [.int r2, .ref 22])) (x1 := M81) (fun _ => rfl) ?_
                    refine xG.call (d := d) (vs := [.ref 22, .int r2]) (g := (177, [(4, .int (nI 0)), (3, .int r64), (2, .int r2), (0, .ref 22), (1, .int (nI x1))], [])) (fun _ => rfl) rfl (p_R_push L xs d r2 M81 _ h) ?_
                    clear h
                    rintro _ M82 ⟨rfl, h⟩
                    refine ⟨_, rfl, ?_⟩
                    refine xG.eqf (f' := (180, [(4, .int (nI 0)), (3, .int r64), (2, .int r2), (0, .ref 22), (1, .int (nI x1))], [])) rfl ?_
                    refine xG.seg 2 (f' := (182, [(4, .int (nI 0)), (3, .int r64), (2, .int r2), (0, .ref 22), (1, .int (nI x1))], [.int r64, .ref 22])) (x1 := M82) (fun _ => rfl) ?_
                    refine xG.call (d := d) (vs := [.ref 22, .int r64]) (g := (182, [(4, .int (nI 0)), (3, .int r64), (2, .int r2), (0, .ref 22), (1, .int (nI x1))], [])) (fun _ => rfl) rfl (p_R_push L xs d r64 M82 _ h) ?_
                    clear h
                    rintro _ M83 ⟨rfl, h⟩
                    refine ⟨_, rfl, ?_⟩
                    refine xG.eqf (f' := (185, [(4, .int (nI 0)), (3, .int r64), (2, .int r2), (0, .ref 22), (1, .int (nI x1))], [])) rfl ?_
                    refine xG.seg 2 (f' := (187, [(4, .int (nI 0)), (3, .int r64), (2, .int r2), (0, .ref 22), (1, .int (nI x1))], [.int r2, .ref 22])) (x1 := M83) (fun _ => rfl) ?_
                    refine xG.call (d := d) (vs := [.ref 22, .int r2]) (g := (187, [(4, .int (nI 0)), (3, .int r64), (2, .int r2), (0, .ref 22), (1, .int (nI x1))], [])) (fun _ => rfl) rfl (p_R_push L xs d r2 M83 _ h) ?_
                    clear h
                    rintro _ M84 ⟨rfl, h⟩
                    refine ⟨_, rfl, ?_⟩
                    refine xG.eqf (f' := (190, [(4, .int (nI 0)), (3, .int r64), (2, .int r2), (0, .ref 22), (1, .int (nI x1))], [])) rfl ?_
                    exact xG.fin (fun _ => rfl) (⟨rfl, h⟩)
                · replace h := h.1 (Classical.not_not.mp k78)
                  refine xG.seg 2 (f' := (148, [(4, .int (nI 0)), (3, .int r64), (2, .int r2), (0, .ref 22), (1, .int (nI x1))], [.int r2, .ref 22])) (x1 := M63) (fun _ => rfl) ?_
                  refine xG.call (d := d) (vs := [.ref 22, .int r2]) (g := (148, [(4, .int (nI 0)), (3, .int r64), (2, .int r2), (0, .ref 22), (1, .int (nI x1))], [])) (fun _ => rfl) rfl (p_R_push L xs d r2 M63 _ h) ?_
                  clear h
                  rintro _ M85 ⟨rfl, h⟩
                  refine ⟨_, rfl, ?_⟩
                  refine xG.eqf (f' := (151, [(4, .int (nI 0)), (3, .int r64), (2, .int r2), (0, .ref 22), (1, .int (nI x1))], [])) rfl ?_
                  refine xG.seg 2 (f' := (153, [(4, .int (nI 0)), (3, .int r64), (2, .int r2), (0, .ref 22), (1, .int (nI x1))], [.int r64, .ref 22])) (x1 := M85) (fun _ => rfl) ?_
                  refine xG.call (d := d) (vs := [.ref 22, .int r64]) (g := (153, [(4, .int (nI 0)), (3, .int r64), (2, .int r2), (0, .ref 22), (1, .int (nI x1))], [])) (fun _ => rfl) rfl (p_R_push L xs d r64 M85 _ h) ?_
                  clear h
                  rintro _ M86 ⟨rfl, h⟩
                  refine ⟨_, rfl, ?_⟩
                  refine xG.eqf (f' := (156, [(4, .int (nI 0)), (3, .int r64), (2, .int r2), (0, .ref 22), (1, .int (nI x1))], [])) rfl ?_
                  refine xG.seg 2 (f' := (158, [(4, .int (nI 0)), (3, .int r64), (2, .int r2), (0, .ref 22), (1, .int (nI x1))], [.int r2, .ref 22])) (x1 := M86) (fun _ => rfl) ?_
                  refine xG.call (d := d) (vs := [.ref 22, .int r2]) (g := (158, [(4, .int (nI 0)), (3, .int r64), (2, .int r2), (0, .ref 22), (1, .int (nI x1))], [])) (fun _ => rfl) rfl (p_R_push L xs d r2 M86 _ h) ?_
                  clear h
                  rintro _ M87 ⟨rfl, h⟩
                  refine ⟨_, rfl, ?_⟩
                  refine xG.eqf (f' := (161, [(4, .int (nI 0)), (3, .int r64), (2, .int r2), (0, .ref 22), (1, .int (nI x1))], [])) rfl ?_
                  refine xG.seg 1 (f' := (190, [(4, .int (nI 0)), (3, .int r64), (2, .int r2), (0, .ref 22), (1, .int (nI x1))], [])) (x1 := M87) (fun _ => rfl) ?_
                  exact xG.fin (fun _ => rfl) (⟨rfl, h⟩)
              · replace h := h.1 (Classical.not_not.mp k76)
                refine xG.seg 2 (f' := (134, [(4, .int (nI 0)), (3, .int r64), (2, .int r2), (0, .ref 22), (1, .int (nI x1))], [.int r2, .ref 22])) (x1 := M63) (fun _ => rfl) ?_
                refine xG.call (d := d) (vs := [.ref 22, .int r2]) (g := (134, [(4, .int (nI 0)), (3, .int r64), (2, .int r2), (0, .ref 22), (1, .int (nI x1))], [])) (fun _ => rfl) rfl (p_R_push L xs d r2 M63 _ h) ?_
                clear h
                rintro _ M88 ⟨rfl, h⟩
                refine ⟨_, rfl, ?_⟩
                refine xG.eqf (f' := (137, [(4, .int (nI 0)), (3, .int r64), (2, .int r2), (0, .ref 22), (1, .int (nI x1))], [])) rfl ?_
                refine xG.seg 1 (f' := (190, [(4, .int (nI 0)), (3, .int r64), (2, .int r2), (0, .ref 22), (1, .int (nI x1))], [])) (x1 := M88) (fun _ => rfl) ?_
                exact xG.fin (fun _ => rfl) (⟨rfl, h⟩)
            · replace h := h.1 (Classical.not_not.mp k74)
              refine xG.seg 2 (f' := (110, [(4, .int (nI 0)), (3, .int r64), (2, .int r2), (0, .ref 22), (1, .int (nI x1))], [.int r64, .ref 22])) (x1 := M63) (fun _ => rfl) ?_
              refine xG.call (d := d) (vs := [.ref 22, .int r64]) (g := (110, [(4, .int (nI 0)), (3, .int r64), (2, .int r2), (0, .ref 22), (1, .int (nI x1))], [])) (fun _ => rfl) rfl (p_R_push L xs d r64 M63 _ h) ?_
              clear h
              rintro _ M89 ⟨rfl, h⟩
              refine ⟨_, rfl, ?_⟩
              refine xG.eqf (f' := (113, [(4, .int (nI 0)), (3, .int r64), (2, .int r2), (0, .ref 22), (1, .int (nI x1))], [])) rfl ?_
              refine xG.seg 2 (f' := (115, [(4, .int (nI 0)), (3, .int r64), (2, .int r2), (0, .ref 22), (1, .int (nI x1))], [.int r2, .ref 22])) (x1 := M89) (fun _ => rfl) ?_
              refine xG.call (d := d) (vs := [.ref 22, .int r2]) (g := (115, [(4, .int (nI 0)), (3, .int r64), (2, .int r2), (0, .ref 22), (1, .int (nI x1))], [])) (fun _ => rfl) rfl (p_R_push L xs d r2 M89 _ h) ?_
              clear h
              rintro _ M90 ⟨rfl, h⟩
              refine ⟨_, rfl, ?_⟩
              refine xG.eqf (f' := (118, [(4, .int (nI 0)), (3, .int r64), (2, .int r2), (0, .ref 22), (1, .int (nI x1))], [])) rfl ?_
              refine xG.seg 2 (f' := (120, [(4, .int (nI 0)), (3, .int r64), (2, .int r2), (0, .ref 22), (1, .int (nI x1))], [.int r64, .ref 22])) (x1 := M90) (fun _ => rfl) ?_
              refine xG.call (d := d) (vs := [.ref 22, .int r64]) (g := (120, [(4, .int (nI 0)), (3, .int r64), (2, .int r2), (0, .ref 22), (1, .int (nI x1))], [])) (fun _ => rfl) rfl (p_R_push L xs d r64 M90 _ h) ?_
              clear h
              rintro _ M91 ⟨rfl, h⟩
              refine ⟨_, rfl, ?_⟩
              refine xG.eqf (f' := (123, [(4, .int (nI 0)), (3, .int r64), (2, .int r2), (0, .ref 22), (1, .int (nI x1))], [])) rfl ?_
              refine xG.seg 1 (f' := (190, [(4, .int (nI 0)), (3, .int r64), (2, .int r2), (0, .ref 22), (1, .int (nI x1))], [])) (x1 := M91) (fun _ => rfl) ?_
              exact xG.fin (fun _ => rfl) (⟨rfl, h⟩)
          · replace h := h.1 (Classical.not_not.mp k72)
            refine xG.lv (lv := [(0, .ref 22), (1, .int (nI x1)), (2, .int r2), (3, .int r64), (4, .int ((nI 0)))]) (lv' := [(4, .int ((nI 0))), (3, .int r64), (2, .int r2), (0, .ref 22), (1, .int (nI x1))]) rfl rfl rfl ?_
            exact p_R_shuffle_67 L xs d Q x1 r2 r64 (nI 0) M63 h
      · replace h := h.1 (Classical.not_not.mp k68)
        refine xG.seg 2 (f' := (44, [(4, .int (nI 0)), (3, .int r64), (2, .int r2), (0, .ref 22), (1, .int (nI x1))], [.int r2, .ref 22])) (x1 := M63) (fun _ => rfl) ?_
        refine xG.call (d := d) (vs := [.ref 22, .int r2]) (g := (44, [(4, .int (nI 0)), (3, .int r64), (2, .int r2), (0, .ref 22), (1, .int (nI x1))], [])) (fun _ => rfl) rfl (p_R_push L xs d r2 M63 _ h) ?_
        clear h
        rintro _ M92 ⟨rfl, h⟩
        refine ⟨_, rfl, ?_⟩
        refine xG.eqf (f' := (47, [(4, .int (nI 0)), (3, .int r64), (2, .int r2), (0, .ref 22), (1, .int (nI x1))], [])) rfl ?_
        refine xG.seg 2 (f' := (49, [(4, .int (nI 0)), (3, .int r64), (2, .int r2), (0, .ref 22), (1, .int (nI x1))], [.int r2, .ref 22])) (x1 := M92) (fun _ => rfl) ?_
        refine xG.call (d := d) (vs := [.ref 22, .int r2]) (g := (49, [(4, .int (nI 0)), (3, .int r64), (2, .int r2), (0, .ref 22), (1, .int (nI x1))], [])) (fun _ => rfl) rfl (p_R_push L xs d r2 M92 _ h) ?_
        clear h
        rintro _ M93 ⟨rfl, h⟩
        refine ⟨_, rfl, ?_⟩
        refine xG.eqf (f' := (52, [(4, .int (nI 0)), (3, .int r64), (2, .int r2), (0, .ref 22), (1, .int (nI x1))], [])) rfl ?_
        refine xG.seg 1 (f' := (190, [(4, .int (nI 0)), (3, .int r64), (2, .int r2), (0, .ref 22), (1, .int (nI x1))], [])) (x1 := M93) (fun _ => rfl) ?_
        exact xG.fin (fun _ => rfl) (⟨rfl, h⟩)
    · replace h := h.1 (Classical.not_not.mp k66)
      refine xG.seg 1 (f' := (27, [(3, .int r64), (2, .int r2), (0, .ref 22), (1, .int (nI x1))], [.ref 22])) (x1 := M63) (fun _ => rfl) ?_
      refine xG.call (d := d) (vs := [.ref 22]) (g := (27, [(3, .int r64), (2, .int r2), (0, .ref 22), (1, .int (nI x1))], [])) (fun _ => rfl) rfl (p_R_pop L xs d M63 _ h) ?_
      clear h
      rintro _ M94 ⟨r95, rfl, h⟩
      refine ⟨_, rfl, ?_⟩
      refine xG.eqf (f' := (30, [(3, .int r64), (2, .int r2), (0, .ref 22), (1, .int (nI x1))], [.int r95])) rfl ?_
      refine xG.seg 4 (f' := (39, [(4, .int r95), (3, .int r64), (2, .int r2), (0, .ref 22), (1, .int (nI x1))], [.int (nI 20), .int (nI x1)])) (x1 := M94) (fun _ => rfl) ?_
      obtain ⟨c96, h⟩ := h
      refine xG.icmp (t := 55) (A := ¬ (x1 = 20)) rfl rfl (xe_c (xt_N c96) (show ((nI 20) : Int32).toInt = 20 from by decide) (by dsimp only; omega)) (fun k97 => ?_) (fun k97 => ?_)
      · replace h := h.2 k97
        refine xG.seg 2 (f' := (58, [(4, .int r95), (3, .int r64), (2, .int r2), (0, .ref 22), (1, .int (nI x1))], [.int (nI 22), .int (nI x1)])) (x1 := M94) (fun _ => rfl) ?_
        obtain ⟨c98, h⟩ := h
        refine xG.icmp (t := 67) (A := x1 = 22) rfl rfl (xe_c (xt_N c98) (show ((nI 22) : Int32).toInt = 22 from by decide) (by dsimp only; omega)) (fun k99 => ?_) (fun k99 => ?_)
        · replace h := h.1 k99
          refine xG.lv (lv := [(0, .ref 22), (1, .int (nI x1)), (2, .int r2), (3, .int r64), (4, .int r95)]) (lv' := [(4, .int r95), (3, .int r64), (2, .int r2), (0, .ref 22), (1, .int (nI x1))]) rfl rfl rfl ?_
          exact p_R_shuffle_67 L xs d Q x1 r2 r64 r95 M94 h
        · replace h := h.2 k99
          refine xG.seg 2 (f' := (64, [(4, .int r95), (3, .int r64), (2, .int r2), (0, .ref 22), (1, .int (nI x1))], [.int (nI 24), .int (nI x1)])) (x1 := M94) (fun _ => rfl) ?_
          obtain ⟨c100, h⟩ := h
          refine xG.icmp (t := 102) (A := ¬ (x1 = 24)) rfl rfl (xe_c (xt_N c100) (show ((nI 24) : Int32).toInt = 24 from by decide) (by dsimp only; omega)) (fun k101 => ?_) (fun k101 => ?_)
          · replace h := h.2 k101
            refine xG.seg 2 (f' := (105, [(4, .int r95), (3, .int r64), (2, .int r2), (0, .ref 22), (1, .int (nI x1))], [.int (nI 23), .int (nI x1)])) (x1 := M94) (fun _ => rfl) ?_
            obtain ⟨c102, h⟩ := h
            refine xG.icmp (t := 126) (A := ¬ (x1 = 23)) rfl rfl (xe_c (xt_N c102) (show ((nI 23) : Int32).toInt = 23 from by decide) (by dsimp only; omega)) (fun k103 => ?_) (fun k103 => ?_)
            · replace h := h.2 k103
              refine xG.seg 2 (f' := (129, [(4, .int r95), (3, .int r64), (2, .int r2), (0, .ref 22), (1, .int (nI x1))], [.int (nI 25), .int (nI x1)])) (x1 := M94) (fun _ => rfl) ?_
              obtain ⟨c104, h⟩ := h
              refine xG.icmp (t := 140) (A := ¬ (x1 = 25)) rfl rfl (xe_c (xt_N c104) (show ((nI 25) : Int32).toInt = 25 from by decide) (by dsimp only; omega)) (fun k105 => ?_) (fun k105 => ?_)
              · replace h := h.2 k105
                refine xG.seg 2 (f' := (143, [(4, .int r95), (3, .int r64), (2, .int r2), (0, .ref 22), (1, .int (nI x1))], [.int (nI 26), .int (nI x1)])) (x1 := M94) (fun _ => rfl) ?_
                obtain ⟨c106, h⟩ := h
                refine xG.icmp (t := 164) (A := ¬ (x1 = 26)) rfl rfl (xe_c (xt_N c106) (show ((nI 26) : Int32).toInt = 26 from by decide) (by dsimp only; omega)) (fun k107 => ?_) (fun k107 => ?_)
                · replace h := h.2 k107
                  refine xG.seg 2 (f' := (167, [(4, .int r95), (3, .int r64), (2, .int r2), (0, .ref 22), (1, .int (nI x1))], [.int (nI 27), .int (nI x1)])) (x1 := M94) (fun _ => rfl) ?_
                  obtain ⟨c108, h⟩ := h
                  refine xG.icmp (t := 190) (A := ¬ (x1 = 27)) rfl rfl (xe_c (xt_N c108) (show ((nI 27) : Int32).toInt = 27 from by decide) (by dsimp only; omega)) (fun k109 => ?_) (fun k109 => ?_)
                  · replace h := h.2 k109
                    exact xG.fin (fun _ => rfl) (⟨rfl, h⟩)
                  · replace h := h.1 (Classical.not_not.mp k109)
                    refine xG.seg 2 (f' := (172, [(4, .int r95), (3, .int r64), (2, .int r2), (0, .ref 22), (1, .int (nI x1))], [.int r64, .ref 22])) (x1 := M94) (fun _ => rfl) ?_
                    refine xG.call (d := d) (vs := [.ref 22, .int r64]) (g := (172, [(4, .int r95), (3, .int r64), (2, .int r2), (0, .ref 22), (1, .int (nI x1))], [])) (fun _ => rfl) rfl (p_R_push L xs d r64 M94 _ h) ?_
                    clear h
                    rintro _ M110 ⟨rfl, h⟩
                    refine ⟨_, rfl, ?_⟩
                    refine xG.eqf (f' := (175, [(4, .int r95), (3, .int r64), (2, .int r2), (0, .ref 22), (1, .int (nI x1))], [])) rfl ?_
                    refine xG.seg 2 (f' := (177, [(4, .int r95), (3, .int r64), (2, .int r2), (0, .ref 22), (1, .int (nI x1))], [.int r2, .ref 22])) (x1 := M110) (fun _ => rfl) ?_
                    refine xG.call (d := d) (vs := [.ref 22, .int r2]) (g := (177, [(4, .int r95), (3, .int r64), (2, .int r2), (0, .ref 22), (1, .int (nI x1))], [])) (fun _ => rfl) rfl (p_R_push L xs d r2 M110 _ h) ?_
                    clear h
                    rintro _ M111 ⟨rfl, h⟩
                    refine ⟨_, rfl, ?_⟩
                    refine xG.eqf (f' := (180, [(4, .int r95), (3, .int r64), (2, .int r2), (0, .ref 22), (1, .int (nI x1))], [])) rfl ?_
                    refine xG.seg 2 (f' := (182, [(4, .int r95), (3, .int r64), (2, .int r2), (0, .ref 22), (1, .int (nI x1))], [.int r64, .ref 22])) (x1 := M111) (fun _ => rfl) ?_
                    refine xG.call (d := d) (vs := [.ref 22, .int r64]) (g := (182, [(4, .int r95), (3, .int r64), (2, .int r2), (0, .ref 22), (1, .int (nI x1))], [])) (fun _ => rfl) rfl (p_R_push L xs d r64 M111 _ h) ?_
                    clear h
                    rintro _ M112 ⟨rfl, h⟩
                    refine ⟨_, rfl, ?_⟩
                    refine xG.eqf (f' := (185, [(4, .int r95), (3, .int r64), (2, .int r2), (0, .ref 22), (1, .int (nI x1))], [])) rfl ?_
                    refine xG.seg 2 (f' := (187, [(4, .int r95), (3, .int r64), (2, .int r2), (0, .ref 22), (1, .int (nI x1))], [.int r2, .ref 22])) (x1 := M112) (fun _ => rfl) ?_
                    refine xG.call (d := d) (vs := [.ref 22, .int r2]) (g := (187, [(4, .int r95), (3, .int r64), (2, .int r2), (0, .ref 22), (1, .int (nI x1))], [])) (fun _ => rfl) rfl (p_R_push L xs d r2 M112 _ h) ?_
                    clear h
                    rintro _ M113 ⟨rfl, h⟩
                    refine ⟨_, rfl, ?_⟩
                    refine xG.eqf (f' := (190, [(4, .int r95), (3, .int r64), (2, .int r2), (0, .ref 22), (1, .int (nI x1))], [])) rfl ?_
                    exact xG.fin (fun _ => rfl) (⟨rfl, h⟩)
                · replace h := h.1 (Classical.not_not.mp k107)
                  refine xG.seg 2 (f' := (148, [(4, .int r95), (3, .int r64), (2, .int r2), (0, .ref 22), (1, .int (nI x1))], [.int r2, .ref 22])) (x1 := M94) (fun _ => rfl) ?_
                  refine xG.call (d := d) (vs := [.ref 22, .int r2]) (g := (148, [(4, .int r95), (3, .int r64), (2, .int r2), (0, .ref 22), (1, .int (nI x1))], [])) (fun _ => rfl) rfl (p_R_push L xs d r2 M94 _ h) ?_
                  clear h
                  rintro _ M114 ⟨rfl, h⟩
                  refine ⟨_, rfl, ?_⟩
                  refine xG.eqf (f' := (151, [(4, .int r95), (3, .int r64), (2, .int r2), (0, .ref 22), (1, .int (nI x1))], [])) rfl ?_
                  refine xG.seg 2 (f' := (153, [(4, .int r95), (3, .int r64), (2, .int r2), (0, .ref 22), (1, .int (nI x1))], [.int r64, .ref 22])) (x1 := M114) (fun _ => rfl) ?_
                  refine xG.call (d := d) (vs := [.ref 22, .int r64]) (g := (153, [(4, .int r95), (3, .int r64), (2, .int r2), (0, .ref 22), (1, .int (nI x1))], [])) (fun _ => rfl) rfl (p_R_push L xs d r64 M114 _ h) ?_
                  clear h
                  rintro _ M115 ⟨rfl, h⟩
                  refine ⟨_, rfl, ?_⟩
                  refine xG.eqf (f' := (156, [(4, .int r95), (3, .int r64), (2, .int r2), (0, .ref 22), (1, .int (nI x1))], [])) rfl ?_
                  refine xG.seg 2 (f' := (158, [(4, .int r95), (3, .int r64), (2, .int r2), (0, .ref 22), (1, .int (nI x1))], [.int r2, .ref 22])) (x1 := M115) (fun _ => rfl) ?_
                  refine xG.call (d := d) (vs := [.ref 22, .int r2]) (g := (158, [(4, .int r95), (3, .int r64), (2, .int r2), (0, .ref 22), (1, .int (nI x1))], [])) (fun _ => rfl) rfl (p_R_push L xs d r2 M115 _ h) ?_
                  clear h
                  rintro _ M116 ⟨rfl, h⟩
                  refine ⟨_, rfl, ?_⟩
                  refine xG.eqf (f' := (161, [(4, .int r95), (3, .int r64), (2, .int r2), (0, .ref 22), (1, .int (nI x1))], [])) rfl ?_
                  refine xG.seg 1 (f' := (190, [(4, .int r95), (3, .int r64), (2, .int r2), (0, .ref 22), (1, .int (nI x1))], [])) (x1 := M116) (fun _ => rfl) ?_
                  exact xG.fin (fun _ => rfl) (⟨rfl, h⟩)
              · replace h := h.1 (Classical.not_not.mp k105)
                refine xG.seg 2 (f' := (134, [(4, .int r95), (3, .int r64), (2, .int r2), (0, .ref 22), (1, .int (nI x1))], [.int r2, .ref 22])) (x1 := M94) (fun _ => rfl) ?_
                refine xG.call (d := d) (vs := [.ref 22, .int r2]) (g := (134, [(4, .int r95), (3, .int r64), (2, .int r2), (0, .ref 22), (1, .int (nI x1))], [])) (fun _ => rfl) rfl (p_R_push L xs d r2 M94 _ h) ?_
                clear h
                rintro _ M117 ⟨rfl, h⟩
                refine ⟨_, rfl, ?_⟩
                refine xG.eqf (f' := (137, [(4, .int r95), (3, .int r64), (2, .int r2), (0, .ref 22), (1, .int (nI x1))], [])) rfl ?_
                refine xG.seg 1 (f' := (190, [(4, .int r95), (3, .int r64), (2, .int r2), (0, .ref 22), (1, .int (nI x1))], [])) (x1 := M117) (fun _ => rfl) ?_
                exact xG.fin (fun _ => rfl) (⟨rfl, h⟩)
            · replace h := h.1 (Classical.not_not.mp k103)
              refine xG.seg 2 (f' := (110, [(4, .int r95), (3, .int r64), (2, .int r2), (0, .ref 22), (1, .int (nI x1))], [.int r64, .ref 22])) (x1 := M94) (fun _ => rfl) ?_
              refine xG.call (d := d) (vs := [.ref 22, .int r64]) (g := (110, [(4, .int r95), (3, .int r64), (2, .int r2), (0, .ref 22), (1, .int (nI x1))], [])) (fun _ => rfl) rfl (p_R_push L xs d r64 M94 _ h) ?_
              clear h
              rintro _ M118 ⟨rfl, h⟩
              refine ⟨_, rfl, ?_⟩
              refine xG.eqf (f' := (113, [(4, .int r95), (3, .int r64), (2, .int r2), (0, .ref 22), (1, .int (nI x1))], [])) rfl ?_
              refine xG.seg 2 (f' := (115, [(4, .int r95), (3, .int r64), (2, .int r2), (0, .ref 22), (1, .int (nI x1))], [.int r2, .ref 22])) (x1 := M118) (fun _ => rfl) ?_
              refine xG.call (d := d) (vs := [.ref 22, .int r2]) (g := (115, [(4, .int r95), (3, .int r64), (2, .int r2), (0, .ref 22), (1, .int (nI x1))], [])) (fun _ => rfl) rfl (p_R_push L xs d r2 M118 _ h) ?_
              clear h
              rintro _ M119 ⟨rfl, h⟩
              refine ⟨_, rfl, ?_⟩
              refine xG.eqf (f' := (118, [(4, .int r95), (3, .int r64), (2, .int r2), (0, .ref 22), (1, .int (nI x1))], [])) rfl ?_
              refine xG.seg 2 (f' := (120, [(4, .int r95), (3, .int r64), (2, .int r2), (0, .ref 22), (1, .int (nI x1))], [.int r64, .ref 22])) (x1 := M119) (fun _ => rfl) ?_
              refine xG.call (d := d) (vs := [.ref 22, .int r64]) (g := (120, [(4, .int r95), (3, .int r64), (2, .int r2), (0, .ref 22), (1, .int (nI x1))], [])) (fun _ => rfl) rfl (p_R_push L xs d r64 M119 _ h) ?_
              clear h
              rintro _ M120 ⟨rfl, h⟩
              refine ⟨_, rfl, ?_⟩
              refine xG.eqf (f' := (123, [(4, .int r95), (3, .int r64), (2, .int r2), (0, .ref 22), (1, .int (nI x1))], [])) rfl ?_
              refine xG.seg 1 (f' := (190, [(4, .int r95), (3, .int r64), (2, .int r2), (0, .ref 22), (1, .int (nI x1))], [])) (x1 := M120) (fun _ => rfl) ?_
              exact xG.fin (fun _ => rfl) (⟨rfl, h⟩)
          · replace h := h.1 (Classical.not_not.mp k101)
            refine xG.lv (lv := [(0, .ref 22), (1, .int (nI x1)), (2, .int r2), (3, .int r64), (4, .int r95)]) (lv' := [(4, .int r95), (3, .int r64), (2, .int r2), (0, .ref 22), (1, .int (nI x1))]) rfl rfl rfl ?_
            exact p_R_shuffle_67 L xs d Q x1 r2 r64 r95 M94 h
      · replace h := h.1 (Classical.not_not.mp k97)
        refine xG.seg 2 (f' := (44, [(4, .int r95), (3, .int r64), (2, .int r2), (0, .ref 22), (1, .int (nI x1))], [.int r2, .ref 22])) (x1 := M94) (fun _ => rfl) ?_
        refine xG.call (d := d) (vs := [.ref 22, .int r2]) (g := (44, [(4, .int r95), (3, .int r64), (2, .int r2), (0, .ref 22), (1, .int (nI x1))], [])) (fun _ => rfl) rfl (p_R_push L xs d r2 M94 _ h) ?_
        clear h
        rintro _ M121 ⟨rfl, h⟩
        refine ⟨_, rfl, ?_⟩
        refine xG.eqf (f' := (47, [(4, .int r95), (3, .int r64), (2, .int r2), (0, .ref 22), (1, .int (nI x1))], [])) rfl ?_
        refine xG.seg 2 (f' := (49, [(4, .int r95), (3, .int r64), (2, .int r2), (0, .ref 22), (1, .int (nI x1))], [.int r2, .ref 22])) (x1 := M121) (fun _ => rfl) ?_
        refine xG.call (d := d) (vs := [.ref 22, .int r2]) (g := (49, [(4, .int r95), (3, .int r64), (2, .int r2), (0, .ref 22), (1, .int (nI x1))], [])) (fun _ => rfl) rfl (p_R_push L xs d r2 M121 _ h) ?_
        clear h
        rintro _ M122 ⟨rfl, h⟩
        refine ⟨_, rfl, ?_⟩
        refine xG.eqf (f' := (52, [(4, .int r95), (3, .int r64), (2, .int r2), (0, .ref 22), (1, .int (nI x1))], [])) rfl ?_
        refine xG.seg 1 (f' := (190, [(4, .int r95), (3, .int r64), (2, .int r2), (0, .ref 22), (1, .int (nI x1))], [])) (x1 := M122) (fun _ => rfl) ?_
        exact xG.fin (fun _ => rfl) (⟨rfl, h⟩)

def w_R_single (x1 : Nat) (x2 : Int32) (M : xM) (Q : Int32 → xM → Prop) : Prop := (x1 < 2147483648 ∧ ((x1 = 14 → Q (-x2) M) ∧ (¬ x1 = 14 → ((x1 = 15 → Q (x2 ^^^ (-1)) M) ∧ (¬ x1 = 15 → ((x1 = 16 → ((0 ≤ x2 → Q x2 M) ∧ (¬ (0 ≤ x2) → Q (-x2) M))) ∧ (¬ x1 = 16 → ((x1 = 17 → Q (x2 + (nI 1)) M) ∧ (¬ x1 = 17 → ((x1 = 18 → ((x2 = 0 → Q (-1) M) ∧ (¬ (x2 = 0) → Q (nI 0) M))) ∧ (¬ x1 = 18 → ((0 ≤ x2 → Q (nI 0) M) ∧ (¬ (0 ≤ x2) → Q (-1) M)))))))))))))
set_option maxRecDepth 8000 in
set_option maxHeartbeats 4000000 in
theorem p_R_single (L : Nat) (xs : Nat → Int32) (d : Nat) (x1 : Nat) (x2 : Int32) (M : xM) (Q : Int32 → xM → Prop) (h : w_R_single x1 x2 M Q) : xG xem (xgt L xs) (d) xi_R_single (0, [(0, .int (nI x1)), (1, .int x2)], []) M (xPI Q) := by
  unfold w_R_single at h
  refine xG.seg 1 (f' := (1, [(0, .int (nI x1)), (1, .int x2)], [.int (nI x1)])) (x1 := M) (fun _ => rfl) ?_
  obtain ⟨c1, h⟩ := h
  by_cases k2 : x1 = 14
  · replace h := h.1 k2
    refine xG.tsw (t := 36) rfl c1 (by rw [k2]; rfl) ?_
    refine xG.seg 2 (f' := (38, [(0, .int (nI x1)), (1, .int x2)], [.int (-x2)])) (x1 := M) (fun _ => rfl) ?_
    exact xG.fin (fun _ => rfl) (⟨(-x2), rfl, h⟩)
  replace h := h.2 k2
  by_cases k3 : x1 = 15
  · replace h := h.1 k3
    refine xG.tsw (t := 39) rfl c1 (by rw [k3]; rfl) ?_
    refine xG.seg 3 (f' := (42, [(0, .int (nI x1)), (1, .int x2)], [.int (x2 ^^^ (-1))])) (x1 := M) (fun _ => rfl) ?_
    exact xG.fin (fun _ => rfl) (⟨(x2 ^^^ (-1)), rfl, h⟩)
  replace h := h.2 k3
  by_cases k4 : x1 = 16
  · replace h := h.1 k4
    refine xG.tsw (t := 43) rfl c1 (by rw [k4]; rfl) ?_
    refine xG.seg 1 (f' := (44, [(0, .int (nI x1)), (1, .int x2)], [.int x2])) (x1 := M) (fun _ => rfl) ?_
    refine xG.ifc (t := 52) (A := 0 ≤ x2) rfl rfl rfl (fun k5 => ?_) (fun k5 => ?_)
    · replace h := h.1 k5
      refine xG.seg 1 (f' := (53, [(0, .int (nI x1)), (1, .int x2)], [.int x2])) (x1 := M) (fun _ => rfl) ?_
      exact xG.fin (fun _ => rfl) (⟨x2, rfl, h⟩)
    · replace h := h.2 k5
      refine xG.seg 3 (f' := (53, [(0, .int (nI x1)), (1, .int x2)], [.int (-x2)])) (x1 := M) (fun _ => rfl) ?_
      exact xG.fin (fun _ => rfl) (⟨(-x2), rfl, h⟩)
  replace h := h.2 k4
  by_cases k6 : x1 = 17
  · replace h := h.1 k6
    refine xG.tsw (t := 54) rfl c1 (by rw [k6]; rfl) ?_
    refine xG.seg 3 (f' := (57, [(0, .int (nI x1)), (1, .int x2)], [.int (x2 + (nI 1))])) (x1 := M) (fun _ => rfl) ?_
    exact xG.fin (fun _ => rfl) (⟨(x2 + (nI 1)), rfl, h⟩)
  replace h := h.2 k6
  by_cases k7 : x1 = 18
  · replace h := h.1 k7
    refine xG.tsw (t := 58) rfl c1 (by rw [k7]; rfl) ?_
    refine xG.seg 1 (f' := (59, [(0, .int (nI x1)), (1, .int x2)], [.int x2])) (x1 := M) (fun _ => rfl) ?_
    refine xG.ifc (t := 66) (A := ¬ (x2 = 0)) rfl rfl (xe_rn _ _) (fun k8 => ?_) (fun k8 => ?_)
    · replace h := h.2 k8
      refine xG.seg 1 (f' := (67, [(0, .int (nI x1)), (1, .int x2)], [.int (nI 0)])) (x1 := M) (fun _ => rfl) ?_
      exact xG.fin (fun _ => rfl) (⟨(nI 0), rfl, h⟩)
    · replace h := h.1 (Classical.not_not.mp k8)
      refine xG.seg 2 (f' := (67, [(0, .int (nI x1)), (1, .int x2)], [.int (-1)])) (x1 := M) (fun _ => rfl) ?_
      exact xG.fin (fun _ => rfl) (⟨(-1), rfl, h⟩)
  replace h := h.2 k7
  refine xG.tsw (t := 68) rfl c1 (xtsw_d [14, 15, 16, 17, 18] rfl (by decide) rfl (by decide) (by simp only [List.mem_cons, List.not_mem_nil, or_false]; omega)) ?_
  refine xG.seg 1 (f' := (69, [(0, .int (nI x1)), (1, .int x2)], [.int x2])) (x1 := M) (fun _ => rfl) ?_
  refine xG.ifc (t := 76) (A := 0 ≤ x2) rfl rfl rfl (fun k9 => ?_) (fun k9 => ?_)
  · replace h := h.1 k9
    refine xG.seg 1 (f' := (77, [(0, .int (nI x1)), (1, .int x2)], [.int (nI 0)])) (x1 := M) (fun _ => rfl) ?_
    exact xG.fin (fun _ => rfl) (⟨(nI 0), rfl, h⟩)
  · replace h := h.2 k9
    refine xG.seg 2 (f' := (77, [(0, .int (nI x1)), (1, .int x2)], [.int (-1)])) (x1 := M) (fun _ => rfl) ?_
    exact xG.fin (fun _ => rfl) (⟨(-1), rfl, h⟩)

def w_R_arithmetic (x1 : Nat) (x2 : Int32) (x3 : Int32) (M : xM) (Q : Int32 → xM → Prop) : Prop := (x1 < 2147483648 ∧ ((x1 = 1 → Q (x2 + x3) M) ∧ (¬ x1 = 1 → ((x1 = 2 → Q (x2 - x3) M) ∧ (¬ x1 = 2 → ((x1 = 3 → Q (x2 * x3) M) ∧ (¬ x1 = 3 → ((x1 = 4 → Q (x2 &&& x3) M) ∧ (¬ x1 = 4 → ((x1 = 5 → Q (x2 ||| x3) M) ∧ (¬ x1 = 5 → ((x1 = 6 → Q (x2 ^^^ x3) M) ∧ (¬ x1 = 6 → ((x1 = 7 → ((x3 ≤ x2 → Q x3 M) ∧ (¬ (x3 ≤ x2) → Q x2 M))) ∧ (¬ x1 = 7 → ((x1 = 8 → ((x2 ≤ x3 → Q x3 M) ∧ (¬ (x2 ≤ x3) → Q x2 M))) ∧ (¬ x1 = 8 → ((x1 = 9 → ((x3 = 0 → Q (nI 0) M) ∧ (¬ (x3 = 0) → (¬ x3 = 0 ∧ Q (x2 / x3) M)))) ∧ (¬ x1 = 9 → ((x1 = 10 → ((x3 = 0 → Q (nI 0) M) ∧ (¬ (x3 = 0) → (¬ x3 = 0 ∧ Q (x2 - x2 / x3 * x3) M)))) ∧ (¬ x1 = 10 → ((x1 = 11 → ((x3 ≤ x2 → Q (nI 0) M) ∧ (¬ (x3 ≤ x2) → Q (-1) M))) ∧ (¬ x1 = 11 → ((x1 = 12 → ((x2 = x3 → Q (-1) M) ∧ (¬ (x2 = x3) → Q (nI 0) M))) ∧ (¬ x1 = 12 → ((x2 ≤ x3 → Q (nI 0) M) ∧ (¬ (x2 ≤ x3) → Q (-1) M)))))))))))))))))))))))))))
set_option maxRecDepth 8000 in
set_option maxHeartbeats 4000000 in
theorem p_R_arithmetic (L : Nat) (xs : Nat → Int32) (d : Nat) (x1 : Nat) (x2 : Int32) (x3 : Int32) (M : xM) (Q : Int32 → xM → Prop) (h : w_R_arithmetic x1 x2 x3 M Q) : xG xem (xgt L xs) (d) xi_R_arithmetic (0, [(0, .int (nI x1)), (1, .int x2), (2, .int x3)], []) M (xPI Q) := by
  unfold w_R_arithmetic at h
  refine xG.seg 1 (f' := (1, [(0, .int (nI x1)), (1, .int x2), (2, .int x3)], [.int (nI x1)])) (x1 := M) (fun _ => rfl) ?_
  obtain ⟨c1, h⟩ := h
  by_cases k2 : x1 = 1
  · replace h := h.1 k2
    refine xG.tsw (t := 64) rfl c1 (by rw [k2]; rfl) ?_
    refine xG.seg 3 (f' := (67, [(0, .int (nI x1)), (1, .int x2), (2, .int x3)], [.int (x2 + x3)])) (x1 := M) (fun _ => rfl) ?_
    exact xG.fin (fun _ => rfl) (⟨(x2 + x3), rfl, h⟩)
  replace h := h.2 k2
  by_cases k3 : x1 = 2
  · replace h := h.1 k3
    refine xG.tsw (t := 68) rfl c1 (by rw [k3]; rfl) ?_
    refine xG.seg 3 (f' := (71, [(0, .int (nI x1)), (1, .int x2), (2, .int x3)], [.int (x2 - x3)])) (x1 := M) (fun _ => rfl) ?_
    exact xG.fin (fun _ => rfl) (⟨(x2 - x3), rfl, h⟩)
  replace h := h.2 k3
  by_cases k4 : x1 = 3
  · replace h := h.1 k4
    refine xG.tsw (t := 72) rfl c1 (by rw [k4]; rfl) ?_
    refine xG.seg 3 (f' := (75, [(0, .int (nI x1)), (1, .int x2), (2, .int x3)], [.int (x2 * x3)])) (x1 := M) (fun _ => rfl) ?_
    exact xG.fin (fun _ => rfl) (⟨(x2 * x3), rfl, h⟩)
  replace h := h.2 k4
  by_cases k5 : x1 = 4
  · replace h := h.1 k5
    refine xG.tsw (t := 76) rfl c1 (by rw [k5]; rfl) ?_
    refine xG.seg 3 (f' := (79, [(0, .int (nI x1)), (1, .int x2), (2, .int x3)], [.int (x2 &&& x3)])) (x1 := M) (fun _ => rfl) ?_
    exact xG.fin (fun _ => rfl) (⟨(x2 &&& x3), rfl, h⟩)
  replace h := h.2 k5
  by_cases k6 : x1 = 5
  · replace h := h.1 k6
    refine xG.tsw (t := 80) rfl c1 (by rw [k6]; rfl) ?_
    refine xG.seg 3 (f' := (83, [(0, .int (nI x1)), (1, .int x2), (2, .int x3)], [.int (x2 ||| x3)])) (x1 := M) (fun _ => rfl) ?_
    exact xG.fin (fun _ => rfl) (⟨(x2 ||| x3), rfl, h⟩)
  replace h := h.2 k6
  by_cases k7 : x1 = 6
  · replace h := h.1 k7
    refine xG.tsw (t := 84) rfl c1 (by rw [k7]; rfl) ?_
    refine xG.seg 3 (f' := (87, [(0, .int (nI x1)), (1, .int x2), (2, .int x3)], [.int (x2 ^^^ x3)])) (x1 := M) (fun _ => rfl) ?_
    exact xG.fin (fun _ => rfl) (⟨(x2 ^^^ x3), rfl, h⟩)
  replace h := h.2 k7
  by_cases k8 : x1 = 7
  · replace h := h.1 k8
    refine xG.tsw (t := 88) rfl c1 (by rw [k8]; rfl) ?_
    refine xG.seg 2 (f' := (90, [(0, .int (nI x1)), (1, .int x2), (2, .int x3)], [.int x3, .int x2])) (x1 := M) (fun _ => rfl) ?_
    refine xG.icmp (t := 97) (A := x3 ≤ x2) rfl rfl rfl (fun k9 => ?_) (fun k9 => ?_)
    · replace h := h.1 k9
      refine xG.seg 1 (f' := (98, [(0, .int (nI x1)), (1, .int x2), (2, .int x3)], [.int x3])) (x1 := M) (fun _ => rfl) ?_
      exact xG.fin (fun _ => rfl) (⟨x3, rfl, h⟩)
    · replace h := h.2 k9
      refine xG.seg 2 (f' := (98, [(0, .int (nI x1)), (1, .int x2), (2, .int x3)], [.int x2])) (x1 := M) (fun _ => rfl) ?_
      exact xG.fin (fun _ => rfl) (⟨x2, rfl, h⟩)
  replace h := h.2 k8
  by_cases k10 : x1 = 8
  · replace h := h.1 k10
    refine xG.tsw (t := 99) rfl c1 (by rw [k10]; rfl) ?_
    refine xG.seg 2 (f' := (101, [(0, .int (nI x1)), (1, .int x2), (2, .int x3)], [.int x3, .int x2])) (x1 := M) (fun _ => rfl) ?_
    refine xG.icmp (t := 108) (A := x2 ≤ x3) rfl rfl rfl (fun k11 => ?_) (fun k11 => ?_)
    · replace h := h.1 k11
      refine xG.seg 1 (f' := (109, [(0, .int (nI x1)), (1, .int x2), (2, .int x3)], [.int x3])) (x1 := M) (fun _ => rfl) ?_
      exact xG.fin (fun _ => rfl) (⟨x3, rfl, h⟩)
    · replace h := h.2 k11
      refine xG.seg 2 (f' := (109, [(0, .int (nI x1)), (1, .int x2), (2, .int x3)], [.int x2])) (x1 := M) (fun _ => rfl) ?_
      exact xG.fin (fun _ => rfl) (⟨x2, rfl, h⟩)
  replace h := h.2 k10
  by_cases k12 : x1 = 9
  · replace h := h.1 k12
    refine xG.tsw (t := 110) rfl c1 (by rw [k12]; rfl) ?_
    refine xG.seg 1 (f' := (111, [(0, .int (nI x1)), (1, .int x2), (2, .int x3)], [.int x3])) (x1 := M) (fun _ => rfl) ?_
    refine xG.ifc (t := 118) (A := ¬ (x3 = 0)) rfl rfl (xe_rn _ _) (fun k13 => ?_) (fun k13 => ?_)
    · replace h := h.2 k13
      refine xG.seg 2 (f' := (120, [(0, .int (nI x1)), (1, .int x2), (2, .int x3)], [.int x3, .int x2])) (x1 := M) (fun _ => rfl) ?_
      obtain ⟨c14, h⟩ := h
      refine xG.idiv rfl c14 ?_
      refine xG.eqf (f' := (121, [(0, .int (nI x1)), (1, .int x2), (2, .int x3)], [.int (x2 / x3)])) rfl ?_
      exact xG.fin (fun _ => rfl) (⟨(x2 / x3), rfl, h⟩)
    · replace h := h.1 (Classical.not_not.mp k13)
      refine xG.seg 2 (f' := (121, [(0, .int (nI x1)), (1, .int x2), (2, .int x3)], [.int (nI 0)])) (x1 := M) (fun _ => rfl) ?_
      exact xG.fin (fun _ => rfl) (⟨(nI 0), rfl, h⟩)
  replace h := h.2 k12
  by_cases k15 : x1 = 10
  · replace h := h.1 k15
    refine xG.tsw (t := 122) rfl c1 (by rw [k15]; rfl) ?_
    refine xG.seg 1 (f' := (123, [(0, .int (nI x1)), (1, .int x2), (2, .int x3)], [.int x3])) (x1 := M) (fun _ => rfl) ?_
    refine xG.ifc (t := 130) (A := ¬ (x3 = 0)) rfl rfl (xe_rn _ _) (fun k16 => ?_) (fun k16 => ?_)
    · replace h := h.2 k16
      refine xG.seg 2 (f' := (132, [(0, .int (nI x1)), (1, .int x2), (2, .int x3)], [.int x3, .int x2])) (x1 := M) (fun _ => rfl) ?_
      obtain ⟨c17, h⟩ := h
      refine xG.irem rfl c17 ?_
      refine xG.eqf (f' := (133, [(0, .int (nI x1)), (1, .int x2), (2, .int x3)], [.int (x2 - x2 / x3 * x3)])) rfl ?_
      exact xG.fin (fun _ => rfl) (⟨(x2 - x2 / x3 * x3), rfl, h⟩)
    · replace h := h.1 (Classical.not_not.mp k16)
      refine xG.seg 2 (f' := (133, [(0, .int (nI x1)), (1, .int x2), (2, .int x3)], [.int (nI 0)])) (x1 := M) (fun _ => rfl) ?_
      exact xG.fin (fun _ => rfl) (⟨(nI 0), rfl, h⟩)
  replace h := h.2 k15
  by_cases k18 : x1 = 11
  · replace h := h.1 k18
    refine xG.tsw (t := 134) rfl c1 (by rw [k18]; rfl) ?_
    refine xG.seg 2 (f' := (136, [(0, .int (nI x1)), (1, .int x2), (2, .int x3)], [.int x3, .int x2])) (x1 := M) (fun _ => rfl) ?_
    refine xG.icmp (t := 143) (A := x3 ≤ x2) rfl rfl rfl (fun k19 => ?_) (fun k19 => ?_)
    · replace h := h.1 k19
      refine xG.seg 1 (f' := (144, [(0, .int (nI x1)), (1, .int x2), (2, .int x3)], [.int (nI 0)])) (x1 := M) (fun _ => rfl) ?_
      exact xG.fin (fun _ => rfl) (⟨(nI 0), rfl, h⟩)
    · replace h := h.2 k19
      refine xG.seg 2 (f' := (144, [(0, .int (nI x1)), (1, .int x2), (2, .int x3)], [.int (-1)])) (x1 := M) (fun _ => rfl) ?_
      exact xG.fin (fun _ => rfl) (⟨(-1), rfl, h⟩)
  replace h := h.2 k18
  by_cases k20 : x1 = 12
  · replace h := h.1 k20
    refine xG.tsw (t := 145) rfl c1 (by rw [k20]; rfl) ?_
    refine xG.seg 2 (f' := (147, [(0, .int (nI x1)), (1, .int x2), (2, .int x3)], [.int x3, .int x2])) (x1 := M) (fun _ => rfl) ?_
    refine xG.icmp (t := 154) (A := ¬ (x2 = x3)) rfl rfl (xe_rn _ _) (fun k21 => ?_) (fun k21 => ?_)
    · replace h := h.2 k21
      refine xG.seg 1 (f' := (155, [(0, .int (nI x1)), (1, .int x2), (2, .int x3)], [.int (nI 0)])) (x1 := M) (fun _ => rfl) ?_
      exact xG.fin (fun _ => rfl) (⟨(nI 0), rfl, h⟩)
    · replace h := h.1 (Classical.not_not.mp k21)
      refine xG.seg 2 (f' := (155, [(0, .int (nI x1)), (1, .int x2), (2, .int x3)], [.int (-1)])) (x1 := M) (fun _ => rfl) ?_
      exact xG.fin (fun _ => rfl) (⟨(-1), rfl, h⟩)
  replace h := h.2 k20
  refine xG.tsw (t := 156) rfl c1 (xtsw_d [1, 2, 3, 4, 5, 6, 7, 8, 9, 10, 11, 12] rfl (by decide) rfl (by decide) (by simp only [List.mem_cons, List.not_mem_nil, or_false]; omega)) ?_
  refine xG.seg 2 (f' := (158, [(0, .int (nI x1)), (1, .int x2), (2, .int x3)], [.int x3, .int x2])) (x1 := M) (fun _ => rfl) ?_
  refine xG.icmp (t := 165) (A := x2 ≤ x3) rfl rfl rfl (fun k22 => ?_) (fun k22 => ?_)
  · replace h := h.1 k22
    refine xG.seg 1 (f' := (166, [(0, .int (nI x1)), (1, .int x2), (2, .int x3)], [.int (nI 0)])) (x1 := M) (fun _ => rfl) ?_
    exact xG.fin (fun _ => rfl) (⟨(nI 0), rfl, h⟩)
  · replace h := h.2 k22
    refine xG.seg 2 (f' := (166, [(0, .int (nI x1)), (1, .int x2), (2, .int x3)], [.int (-1)])) (x1 := M) (fun _ => rfl) ?_
    exact xG.fin (fun _ => rfl) (⟨(-1), rfl, h⟩)

def w_R_does (x1 : Nat) (x2 : Int32) (M : xM) (Q : xM → Prop) : Prop := (x1 < 2147483648 ∧ ((x1 = 40 → w_R_push x2 M (fun M34 => Q M34)) ∧ (¬ (x1 = 40) → (x1 < 2147483648 ∧ ((14 ≤ x1 → (x1 < 2147483648 ∧ ((20 ≤ x1 → (x1 < 2147483648 ∧ ((29 ≤ x1 → (x1 < 2147483648 ∧ ((x1 = 29 → w_R_push (nI (M.1 9)) M (fun M20 => Q M20)) ∧ (¬ (x1 = 29) → (x1 < 2147483648 ∧ ((33 ≤ x1 → (x1 < 2147483648 ∧ ((36 ≤ x1 → w_R_pop M (fun r16 M15 => w_R_say r16 M15 (fun M17 => Q M17))) ∧ (¬ (36 ≤ x1) → w_R_returnStack x1 M (fun M18 => Q M18))))) ∧ (¬ (33 ≤ x1) → w_R_access x1 M (fun M19 => Q M19)))))))) ∧ (¬ (29 ≤ x1) → w_R_shuffle x1 M (fun M21 => Q M21))))) ∧ (¬ (20 ≤ x1) → w_R_pop M (fun r23 M22 => w_R_single x1 r23 M22 (fun r25 M24 => w_R_push r25 M24 (fun M26 => Q M26))))))) ∧ (¬ (14 ≤ x1) → w_R_pop M (fun r28 M27 => w_R_pop M27 (fun r30 M29 => w_R_arithmetic x1 r30 r28 M29 (fun r32 M31 => w_R_push r32 M31 (fun M33 => Q M33))))))))))
set_option maxRecDepth 8000 in
set_option maxHeartbeats 4000000 in
theorem p_R_does (L : Nat) (xs : Nat → Int32) (d : Nat) (x1 : Nat) (x2 : Int32) (M : xM) (Q : xM → Prop) (h : w_R_does x1 x2 M Q) : xG xem (xgt L xs) (d + 2) xi_R_does (0, [(0, .ref 22), (1, .int (nI x1)), (2, .int x2)], []) M (xPV Q) := by
  unfold w_R_does at h
  refine xG.seg 2 (f' := (3, [(0, .ref 22), (1, .int (nI x1)), (2, .int x2)], [.int (nI 40), .int (nI x1)])) (x1 := M) (fun _ => rfl) ?_
  obtain ⟨c1, h⟩ := h
  refine xG.icmp (t := 14) (A := ¬ (x1 = 40)) rfl rfl (xe_c (xt_N c1) (show ((nI 40) : Int32).toInt = 40 from by decide) (by dsimp only; omega)) (fun k2 => ?_) (fun k2 => ?_)
  · replace h := h.2 k2
    refine xG.seg 2 (f' := (17, [(0, .ref 22), (1, .int (nI x1)), (2, .int x2)], [.int (nI 14), .int (nI x1)])) (x1 := M) (fun _ => rfl) ?_
    obtain ⟨c3, h⟩ := h
    refine xG.icmp (t := 45) (A := 14 ≤ x1) rfl rfl (xe_c (xt_N c3) (show ((nI 14) : Int32).toInt = 14 from by decide) (by dsimp only; omega)) (fun k4 => ?_) (fun k4 => ?_)
    · replace h := h.1 k4
      refine xG.seg 2 (f' := (48, [(0, .ref 22), (1, .int (nI x1)), (2, .int x2)], [.int (nI 20), .int (nI x1)])) (x1 := M) (fun _ => rfl) ?_
      obtain ⟨c5, h⟩ := h
      refine xG.icmp (t := 66) (A := 20 ≤ x1) rfl rfl (xe_c (xt_N c5) (show ((nI 20) : Int32).toInt = 20 from by decide) (by dsimp only; omega)) (fun k6 => ?_) (fun k6 => ?_)
      · replace h := h.1 k6
        refine xG.seg 2 (f' := (69, [(0, .ref 22), (1, .int (nI x1)), (2, .int x2)], [.int (nI 29), .int (nI x1)])) (x1 := M) (fun _ => rfl) ?_
        obtain ⟨c7, h⟩ := h
        refine xG.icmp (t := 80) (A := 29 ≤ x1) rfl rfl (xe_c (xt_N c7) (show ((nI 29) : Int32).toInt = 29 from by decide) (by dsimp only; omega)) (fun k8 => ?_) (fun k8 => ?_)
        · replace h := h.1 k8
          refine xG.seg 2 (f' := (83, [(0, .ref 22), (1, .int (nI x1)), (2, .int x2)], [.int (nI 29), .int (nI x1)])) (x1 := M) (fun _ => rfl) ?_
          obtain ⟨c9, h⟩ := h
          refine xG.icmp (t := 97) (A := ¬ (x1 = 29)) rfl rfl (xe_c (xt_N c9) (show ((nI 29) : Int32).toInt = 29 from by decide) (by dsimp only; omega)) (fun k10 => ?_) (fun k10 => ?_)
          · replace h := h.2 k10
            refine xG.seg 2 (f' := (100, [(0, .ref 22), (1, .int (nI x1)), (2, .int x2)], [.int (nI 33), .int (nI x1)])) (x1 := M) (fun _ => rfl) ?_
            obtain ⟨c11, h⟩ := h
            refine xG.icmp (t := 111) (A := 33 ≤ x1) rfl rfl (xe_c (xt_N c11) (show ((nI 33) : Int32).toInt = 33 from by decide) (by dsimp only; omega)) (fun k12 => ?_) (fun k12 => ?_)
            · replace h := h.1 k12
              refine xG.seg 2 (f' := (114, [(0, .ref 22), (1, .int (nI x1)), (2, .int x2)], [.int (nI 36), .int (nI x1)])) (x1 := M) (fun _ => rfl) ?_
              obtain ⟨c13, h⟩ := h
              refine xG.icmp (t := 125) (A := 36 ≤ x1) rfl rfl (xe_c (xt_N c13) (show ((nI 36) : Int32).toInt = 36 from by decide) (by dsimp only; omega)) (fun k14 => ?_) (fun k14 => ?_)
              · replace h := h.1 k14
                refine xG.seg 2 (f' := (127, [(0, .ref 22), (1, .int (nI x1)), (2, .int x2)], [.ref 22, .ref 22])) (x1 := M) (fun _ => rfl) ?_
                refine xG.call (d := d + 1) (vs := [.ref 22]) (g := (127, [(0, .ref 22), (1, .int (nI x1)), (2, .int x2)], [.ref 22])) (fun _ => rfl) rfl (p_R_pop L xs (d + 1) M _ h) ?_
                clear h
                rintro _ M15 ⟨r16, rfl, h⟩
                refine ⟨_, rfl, ?_⟩
                refine xG.eqf (f' := (130, [(0, .ref 22), (1, .int (nI x1)), (2, .int x2)], [.int r16, .ref 22])) rfl ?_
                refine xG.call (d := d + 1) (vs := [.ref 22, .int r16]) (g := (130, [(0, .ref 22), (1, .int (nI x1)), (2, .int x2)], [])) (fun _ => rfl) rfl (p_R_say L xs (d + 1) r16 M15 _ h) ?_
                clear h
                rintro _ M17 ⟨rfl, h⟩
                refine ⟨_, rfl, ?_⟩
                refine xG.eqf (f' := (133, [(0, .ref 22), (1, .int (nI x1)), (2, .int x2)], [])) rfl ?_
                exact xG.fin (fun _ => rfl) (⟨rfl, h⟩)
              · replace h := h.2 k14
                refine xG.seg 2 (f' := (119, [(0, .ref 22), (1, .int (nI x1)), (2, .int x2)], [.int (nI x1), .ref 22])) (x1 := M) (fun _ => rfl) ?_
                refine xG.call (d := d + 1) (vs := [.ref 22, .int (nI x1)]) (g := (119, [(0, .ref 22), (1, .int (nI x1)), (2, .int x2)], [])) (fun _ => rfl) rfl (p_R_returnStack L xs d x1 M _ h) ?_
                clear h
                rintro _ M18 ⟨rfl, h⟩
                refine ⟨_, rfl, ?_⟩
                refine xG.eqf (f' := (122, [(0, .ref 22), (1, .int (nI x1)), (2, .int x2)], [])) rfl ?_
                refine xG.seg 1 (f' := (133, [(0, .ref 22), (1, .int (nI x1)), (2, .int x2)], [])) (x1 := M18) (fun _ => rfl) ?_
                exact xG.fin (fun _ => rfl) (⟨rfl, h⟩)
            · replace h := h.2 k12
              refine xG.seg 2 (f' := (105, [(0, .ref 22), (1, .int (nI x1)), (2, .int x2)], [.int (nI x1), .ref 22])) (x1 := M) (fun _ => rfl) ?_
              refine xG.call (d := d + 1) (vs := [.ref 22, .int (nI x1)]) (g := (105, [(0, .ref 22), (1, .int (nI x1)), (2, .int x2)], [])) (fun _ => rfl) rfl (p_R_access L xs d x1 M _ h) ?_
              clear h
              rintro _ M19 ⟨rfl, h⟩
              refine ⟨_, rfl, ?_⟩
              refine xG.eqf (f' := (108, [(0, .ref 22), (1, .int (nI x1)), (2, .int x2)], [])) rfl ?_
              refine xG.seg 1 (f' := (133, [(0, .ref 22), (1, .int (nI x1)), (2, .int x2)], [])) (x1 := M19) (fun _ => rfl) ?_
              exact xG.fin (fun _ => rfl) (⟨rfl, h⟩)
          · replace h := h.1 (Classical.not_not.mp k10)
            refine xG.seg 3 (f' := (91, [(0, .ref 22), (1, .int (nI x1)), (2, .int x2)], [.int (nI (M.1 9)), .ref 22])) (x1 := M) (fun _ => rfl) ?_
            refine xG.call (d := d + 1) (vs := [.ref 22, .int (nI (M.1 9))]) (g := (91, [(0, .ref 22), (1, .int (nI x1)), (2, .int x2)], [])) (fun _ => rfl) rfl (p_R_push L xs (d + 1) (nI (M.1 9)) M _ h) ?_
            clear h
            rintro _ M20 ⟨rfl, h⟩
            refine ⟨_, rfl, ?_⟩
            refine xG.eqf (f' := (94, [(0, .ref 22), (1, .int (nI x1)), (2, .int x2)], [])) rfl ?_
            refine xG.seg 1 (f' := (133, [(0, .ref 22), (1, .int (nI x1)), (2, .int x2)], [])) (x1 := M20) (fun _ => rfl) ?_
            exact xG.fin (fun _ => rfl) (⟨rfl, h⟩)
        · replace h := h.2 k8
          refine xG.seg 2 (f' := (74, [(0, .ref 22), (1, .int (nI x1)), (2, .int x2)], [.int (nI x1), .ref 22])) (x1 := M) (fun _ => rfl) ?_
          refine xG.call (d := d + 1) (vs := [.ref 22, .int (nI x1)]) (g := (74, [(0, .ref 22), (1, .int (nI x1)), (2, .int x2)], [])) (fun _ => rfl) rfl (p_R_shuffle L xs d x1 M _ h) ?_
          clear h
          rintro _ M21 ⟨rfl, h⟩
          refine ⟨_, rfl, ?_⟩
          refine xG.eqf (f' := (77, [(0, .ref 22), (1, .int (nI x1)), (2, .int x2)], [])) rfl ?_
          refine xG.seg 1 (f' := (133, [(0, .ref 22), (1, .int (nI x1)), (2, .int x2)], [])) (x1 := M21) (fun _ => rfl) ?_
          exact xG.fin (fun _ => rfl) (⟨rfl, h⟩)
      · replace h := h.2 k6
        refine xG.seg 3 (f' := (54, [(0, .ref 22), (1, .int (nI x1)), (2, .int x2)], [.ref 22, .int (nI x1), .ref 22])) (x1 := M) (fun _ => rfl) ?_
        refine xG.call (d := d + 1) (vs := [.ref 22]) (g := (54, [(0, .ref 22), (1, .int (nI x1)), (2, .int x2)], [.int (nI x1), .ref 22])) (fun _ => rfl) rfl (p_R_pop L xs (d + 1) M _ h) ?_
        clear h
        rintro _ M22 ⟨r23, rfl, h⟩
        refine ⟨_, rfl, ?_⟩
        refine xG.eqf (f' := (57, [(0, .ref 22), (1, .int (nI x1)), (2, .int x2)], [.int r23, .int (nI x1), .ref 22])) rfl ?_
        refine xG.call (d := d + 1) (vs := [.int (nI x1), .int r23]) (g := (57, [(0, .ref 22), (1, .int (nI x1)), (2, .int x2)], [.ref 22])) (fun _ => rfl) rfl (p_R_single L xs (d + 1) x1 r23 M22 _ h) ?_
        clear h
        rintro _ M24 ⟨r25, rfl, h⟩
        refine ⟨_, rfl, ?_⟩
        refine xG.eqf (f' := (60, [(0, .ref 22), (1, .int (nI x1)), (2, .int x2)], [.int r25, .ref 22])) rfl ?_
        refine xG.call (d := d + 1) (vs := [.ref 22, .int r25]) (g := (60, [(0, .ref 22), (1, .int (nI x1)), (2, .int x2)], [])) (fun _ => rfl) rfl (p_R_push L xs (d + 1) r25 M24 _ h) ?_
        clear h
        rintro _ M26 ⟨rfl, h⟩
        refine ⟨_, rfl, ?_⟩
        refine xG.eqf (f' := (63, [(0, .ref 22), (1, .int (nI x1)), (2, .int x2)], [])) rfl ?_
        refine xG.seg 1 (f' := (133, [(0, .ref 22), (1, .int (nI x1)), (2, .int x2)], [])) (x1 := M26) (fun _ => rfl) ?_
        exact xG.fin (fun _ => rfl) (⟨rfl, h⟩)
    · replace h := h.2 k4
      refine xG.seg 1 (f' := (21, [(0, .ref 22), (1, .int (nI x1)), (2, .int x2)], [.ref 22])) (x1 := M) (fun _ => rfl) ?_
      refine xG.call (d := d + 1) (vs := [.ref 22]) (g := (21, [(0, .ref 22), (1, .int (nI x1)), (2, .int x2)], [])) (fun _ => rfl) rfl (p_R_pop L xs (d + 1) M _ h) ?_
      clear h
      rintro _ M27 ⟨r28, rfl, h⟩
      refine ⟨_, rfl, ?_⟩
      refine xG.eqf (f' := (24, [(0, .ref 22), (1, .int (nI x1)), (2, .int x2)], [.int r28])) rfl ?_
      refine xG.seg 2 (f' := (26, [(3, .int r28), (0, .ref 22), (1, .int (nI x1)), (2, .int x2)], [.ref 22])) (x1 := M27) (fun _ => rfl) ?_
      refine xG.call (d := d + 1) (vs := [.ref 22]) (g := (26, [(3, .int r28), (0, .ref 22), (1, .int (nI x1)), (2, .int x2)], [])) (fun _ => rfl) rfl (p_R_pop L xs (d + 1) M27 _ h) ?_
      clear h
      rintro _ M29 ⟨r30, rfl, h⟩
      refine ⟨_, rfl, ?_⟩
      refine xG.eqf (f' := (29, [(3, .int r28), (0, .ref 22), (1, .int (nI x1)), (2, .int x2)], [.int r30])) rfl ?_
      refine xG.seg 5 (f' := (36, [(4, .int r30), (3, .int r28), (0, .ref 22), (1, .int (nI x1)), (2, .int x2)], [.int r28, .int r30, .int (nI x1), .ref 22])) (x1 := M29) (fun _ => rfl) ?_
      refine xG.call (d := d + 1) (vs := [.int (nI x1), .int r30, .int r28]) (g := (36, [(4, .int r30), (3, .int r28), (0, .ref 22), (1, .int (nI x1)), (2, .int x2)], [.ref 22])) (fun _ => rfl) rfl (p_R_arithmetic L xs (d + 1) x1 r30 r28 M29 _ h) ?_
      clear h
      rintro _ M31 ⟨r32, rfl, h⟩
      refine ⟨_, rfl, ?_⟩
      refine xG.eqf (f' := (39, [(4, .int r30), (3, .int r28), (0, .ref 22), (1, .int (nI x1)), (2, .int x2)], [.int r32, .ref 22])) rfl ?_
      refine xG.call (d := d + 1) (vs := [.ref 22, .int r32]) (g := (39, [(4, .int r30), (3, .int r28), (0, .ref 22), (1, .int (nI x1)), (2, .int x2)], [])) (fun _ => rfl) rfl (p_R_push L xs (d + 1) r32 M31 _ h) ?_
      clear h
      rintro _ M33 ⟨rfl, h⟩
      refine ⟨_, rfl, ?_⟩
      refine xG.eqf (f' := (42, [(4, .int r30), (3, .int r28), (0, .ref 22), (1, .int (nI x1)), (2, .int x2)], [])) rfl ?_
      refine xG.seg 1 (f' := (133, [(4, .int r30), (3, .int r28), (0, .ref 22), (1, .int (nI x1)), (2, .int x2)], [])) (x1 := M33) (fun _ => rfl) ?_
      exact xG.fin (fun _ => rfl) (⟨rfl, h⟩)
  · replace h := h.1 (Classical.not_not.mp k2)
    refine xG.seg 2 (f' := (8, [(0, .ref 22), (1, .int (nI x1)), (2, .int x2)], [.int x2, .ref 22])) (x1 := M) (fun _ => rfl) ?_
    refine xG.call (d := d + 1) (vs := [.ref 22, .int x2]) (g := (8, [(0, .ref 22), (1, .int (nI x1)), (2, .int x2)], [])) (fun _ => rfl) rfl (p_R_push L xs (d + 1) x2 M _ h) ?_
    clear h
    rintro _ M34 ⟨rfl, h⟩
    refine ⟨_, rfl, ?_⟩
    refine xG.eqf (f' := (11, [(0, .ref 22), (1, .int (nI x1)), (2, .int x2)], [])) rfl ?_
    refine xG.seg 1 (f' := (133, [(0, .ref 22), (1, .int (nI x1)), (2, .int x2)], [])) (x1 := M34) (fun _ => rfl) ?_
    exact xG.fin (fun _ => rfl) (⟨rfl, h⟩)

def w_R_perform_16 (l1 : Nat) (l2 : Int32) (M : xM) (Q : xM → Prop) : Prop := (M.1 1 < 2147483648 ∧ ((0 < M.1 1 → Q M) ∧ (¬ (0 < M.1 1) → w_R_fits l1 M (fun r2004 M2003 => (r2004 < 2147483648 ∧ ((r2004 = 0 → Q M2003) ∧ (¬ (r2004 = 0) → w_R_takes l1 M2003 (fun r2008 M2007 => w_R_gives l1 M2007 (fun r2010 M2009 => (M2003.1 9 + r2010 < 2147483648 ∧ (r2008 < 2147483648 ∧ ((M2003.1 9 + r2010 ≤ 24 + r2008 → w_R_does l1 l2 M2009 (fun M2014 => Q M2014)) ∧ (¬ (M2003.1 9 + r2010 ≤ 24 + r2008) → w_R_wrong 3 M2009 (fun M2015 => Q M2015))))))))))))))
set_option maxRecDepth 8000 in
set_option maxHeartbeats 4000000 in
theorem p_R_perform_16 (L : Nat) (xs : Nat → Int32) (d : Nat) (Q : xM → Prop) (l1 : Nat) (l2 : Int32) (M : xM) (h : w_R_perform_16 l1 l2 M Q) : xG xem (xgt L xs) (d + 3) xi_R_perform (16, [(0, .ref 22), (1, .int (nI l1)), (2, .int l2)], []) M (xPV Q) := by
  unfold w_R_perform_16 at h
  refine xG.seg 2 (f' := (20, [(0, .ref 22), (1, .int (nI l1)), (2, .int l2)], [.int (nI (M.1 1))])) (x1 := M) (fun _ => rfl) ?_
  obtain ⟨c2001, h⟩ := h
  refine xG.ifc (t := 31) (A := 0 < M.1 1) rfl rfl (xe_c (xt_N c2001) (show (0 : Int32).toInt = 0 from by decide) (by dsimp only; omega)) (fun k2002 => ?_) (fun k2002 => ?_)
  · replace h := h.1 k2002
    exact xG.fin (fun _ => rfl) (⟨rfl, h⟩)
  · replace h := h.2 k2002
    refine xG.seg 2 (f' := (25, [(0, .ref 22), (1, .int (nI l1)), (2, .int l2)], [.int (nI l1), .ref 22])) (x1 := M) (fun _ => rfl) ?_
    refine xG.call (d := d + 2) (vs := [.ref 22, .int (nI l1)]) (g := (25, [(0, .ref 22), (1, .int (nI l1)), (2, .int l2)], [])) (fun _ => rfl) rfl (p_R_fits L xs (d + 1) l1 M _ h) ?_
    clear h
    rintro _ M2003 ⟨r2004, rfl, h⟩
    refine ⟨_, rfl, ?_⟩
    refine xG.eqf (f' := (28, [(0, .ref 22), (1, .int (nI l1)), (2, .int l2)], [.int (nI r2004)])) rfl ?_
    obtain ⟨c2005, h⟩ := h
    refine xG.ifc (t := 32) (A := ¬ (r2004 = 0)) rfl rfl (xe_c (xt_N c2005) (show (0 : Int32).toInt = 0 from by decide) (by dsimp only; omega)) (fun k2006 => ?_) (fun k2006 => ?_)
    · replace h := h.2 k2006
      refine xG.seg 3 (f' := (37, [(0, .ref 22), (1, .int (nI l1)), (2, .int l2)], [.int (nI l1), .int (nI (M2003.1 9))])) (x1 := M2003) (fun _ => rfl) ?_
      refine xG.call (d := d + 2) (vs := [.int (nI l1)]) (g := (37, [(0, .ref 22), (1, .int (nI l1)), (2, .int l2)], [.int (nI (M2003.1 9))])) (fun _ => rfl) rfl (p_R_takes L xs (d + 2) l1 M2003 _ h) ?_
      clear h
      rintro _ M2007 ⟨r2008, rfl, h⟩
      refine ⟨_, rfl, ?_⟩
      refine xG.eqf (f' := (40, [(0, .ref 22), (1, .int (nI l1)), (2, .int l2)], [.int (nI r2008), .int (nI (M2003.1 9))])) rfl ?_
      refine xG.seg 2 (f' := (42, [(0, .ref 22), (1, .int (nI l1)), (2, .int l2)], [.int (nI l1), .int (nI (M2003.1 9) - nI r2008)])) (x1 := M2007) (fun _ => rfl) ?_
      refine xG.call (d := d + 2) (vs := [.int (nI l1)]) (g := (42, [(0, .ref 22), (1, .int (nI l1)), (2, .int l2)], [.int (nI (M2003.1 9) - nI r2008)])) (fun _ => rfl) rfl (p_R_gives L xs (d + 2) l1 M2007 _ h) ?_
      clear h
      rintro _ M2009 ⟨r2010, rfl, h⟩
      refine ⟨_, rfl, ?_⟩
      refine xG.eqf (f' := (45, [(0, .ref 22), (1, .int (nI l1)), (2, .int l2)], [.int (nI r2010), .int (nI (M2003.1 9) - nI r2008)])) rfl ?_
      refine xG.seg 1 (f' := (46, [(0, .ref 22), (1, .int (nI l1)), (2, .int l2)], [.int ((nI (M2003.1 9) - nI r2008) + (nI r2010))])) (x1 := M2009) (fun _ => rfl) ?_
      refine xG.conv (xe_zn _ _ _) ?_
      refine xG.eqf (f' := (46, [(0, .ref 22), (1, .int (nI l1)), (2, .int l2)], [.int (nI (M2003.1 9 + r2010) - nI r2008)])) rfl ?_
      refine xG.seg 1 (f' := (48, [(0, .ref 22), (1, .int (nI l1)), (2, .int l2)], [.int (nI 24), .int (nI (M2003.1 9 + r2010) - nI r2008)])) (x1 := M2009) (fun _ => rfl) ?_
      obtain ⟨c2011, h⟩ := h
      obtain ⟨c2012, h⟩ := h
      refine xG.icmp (t := 59) (A := M2003.1 9 + r2010 ≤ 24 + r2008) rfl rfl (xe_c (xt_Z c2011 c2012) (show ((nI 24) : Int32).toInt = 24 from by decide) (by dsimp only; omega)) (fun k2013 => ?_) (fun k2013 => ?_)
      · replace h := h.1 k2013
        refine xG.seg 3 (f' := (62, [(0, .ref 22), (1, .int (nI l1)), (2, .int l2)], [.int l2, .int (nI l1), .ref 22])) (x1 := M2009) (fun _ => rfl) ?_
        refine xG.call (d := d + 2) (vs := [.ref 22, .int (nI l1), .int l2]) (g := (62, [(0, .ref 22), (1, .int (nI l1)), (2, .int l2)], [])) (fun _ => rfl) rfl (p_R_does L xs d l1 l2 M2009 _ h) ?_
        clear h
        rintro _ M2014 ⟨rfl, h⟩
        refine ⟨_, rfl, ?_⟩
        refine xG.eqf (f' := (65, [(0, .ref 22), (1, .int (nI l1)), (2, .int l2)], [])) rfl ?_
        exact xG.fin (fun _ => rfl) (⟨rfl, h⟩)
      · replace h := h.2 k2013
        refine xG.seg 2 (f' := (53, [(0, .ref 22), (1, .int (nI l1)), (2, .int l2)], [.int (nI 3), .ref 22])) (x1 := M2009) (fun _ => rfl) ?_
        refine xG.call (d := d + 2) (vs := [.ref 22, .int (nI 3)]) (g := (53, [(0, .ref 22), (1, .int (nI l1)), (2, .int l2)], [])) (fun _ => rfl) rfl (p_R_wrong L xs (d + 2) 3 M2009 _ h) ?_
        clear h
        rintro _ M2015 ⟨rfl, h⟩
        refine ⟨_, rfl, ?_⟩
        refine xG.eqf (f' := (56, [(0, .ref 22), (1, .int (nI l1)), (2, .int l2)], [])) rfl ?_
        refine xG.seg 1 (f' := (65, [(0, .ref 22), (1, .int (nI l1)), (2, .int l2)], [])) (x1 := M2015) (fun _ => rfl) ?_
        exact xG.fin (fun _ => rfl) (⟨rfl, h⟩)
    · replace h := h.1 (Classical.not_not.mp k2006)
      exact xG.fin (fun _ => rfl) (⟨rfl, h⟩)

def w_R_perform (x1 : Nat) (x2 : Int32) (M : xM) (Q : xM → Prop) : Prop := w_R_takes x1 M (fun r2 M1 => (M.1 9 < 2147483648 ∧ (r2 < 2147483648 ∧ ((r2 ≤ M.1 9 → w_R_perform_16 x1 x2 M1 Q) ∧ (¬ (r2 ≤ M.1 9) → w_R_wrong 3 M1 (fun M6 => w_R_perform_16 x1 x2 M6 Q))))))
set_option maxRecDepth 8000 in
set_option maxHeartbeats 4000000 in
theorem p_R_perform (L : Nat) (xs : Nat → Int32) (d : Nat) (x1 : Nat) (x2 : Int32) (M : xM) (Q : xM → Prop) (h : w_R_perform x1 x2 M Q) : xG xem (xgt L xs) (d + 3) xi_R_perform (0, [(0, .ref 22), (1, .int (nI x1)), (2, .int x2)], []) M (xPV Q) := by
  unfold w_R_perform at h
  refine xG.seg 3 (f' := (5, [(0, .ref 22), (1, .int (nI x1)), (2, .int x2)], [.int (nI x1), .int (nI (M.1 9))])) (x1 := M) (fun _ => rfl) ?_
  refine xG.call (d := d + 2) (vs := [.int (nI x1)]) (g := (5, [(0, .ref 22), (1, .int (nI x1)), (2, .int x2)], [.int (nI (M.1 9))])) (fun _ => rfl) rfl (p_R_takes L xs (d + 2) x1 M _ h) ?_
  clear h
  rintro _ M1 ⟨r2, rfl, h⟩
  refine ⟨_, rfl, ?_⟩
  refine xG.eqf (f' := (8, [(0, .ref 22), (1, .int (nI x1)), (2, .int x2)], [.int (nI r2), .int (nI (M.1 9))])) rfl ?_
  obtain ⟨c3, h⟩ := h
  obtain ⟨c4, h⟩ := h
  refine xG.icmp (t := 16) (A := r2 ≤ M.1 9) rfl rfl (xe_c (xt_N c3) (xt_N c4) (by dsimp only; omega)) (fun k5 => ?_) (fun k5 => ?_)
  · replace h := h.1 k5
    refine xG.lv (lv := [(0, .ref 22), (1, .int (nI x1)), (2, .int x2)]) (lv' := [(0, .ref 22), (1, .int (nI x1)), (2, .int x2)]) rfl rfl rfl ?_
    exact p_R_perform_16 L xs d Q x1 x2 M1 h
  · replace h := h.2 k5
    refine xG.seg 2 (f' := (13, [(0, .ref 22), (1, .int (nI x1)), (2, .int x2)], [.int (nI 3), .ref 22])) (x1 := M1) (fun _ => rfl) ?_
    refine xG.call (d := d + 2) (vs := [.ref 22, .int (nI 3)]) (g := (13, [(0, .ref 22), (1, .int (nI x1)), (2, .int x2)], [])) (fun _ => rfl) rfl (p_R_wrong L xs (d + 2) 3 M1 _ h) ?_
    clear h
    rintro _ M6 ⟨rfl, h⟩
    refine ⟨_, rfl, ?_⟩
    refine xG.eqf (f' := (16, [(0, .ref 22), (1, .int (nI x1)), (2, .int x2)], [])) rfl ?_
    refine xG.lv (lv := [(0, .ref 22), (1, .int (nI x1)), (2, .int x2)]) (lv' := [(0, .ref 22), (1, .int (nI x1)), (2, .int x2)]) rfl rfl rfl ?_
    exact p_R_perform_16 L xs d Q x1 x2 M6 h

def w_R_name_29 (M : xM) (Q : Int64 → xM → Prop) : Prop := ((0 = 0 → w_R_wrong 2 M (fun M2005 => ((0 = 0 → Q ((Int64.ofNat 0)) M2005) ∧ (¬ (0 = 0) → w_R_packed M2005 (fun r2008 M2007 => Q r2008 M2007))))) ∧ (¬ (0 = 0) → ((0 = 0 → Q ((Int64.ofNat 0)) M) ∧ (¬ (0 = 0) → w_R_packed M (fun r2004 M2003 => Q r2004 M2003)))))
set_option maxRecDepth 8000 in
set_option maxHeartbeats 4000000 in
theorem p_R_name_29 (L : Nat) (xs : Nat → Int32) (d : Nat) (Q : Int64 → xM → Prop) (M : xM) (h : w_R_name_29 M Q) : xG xem (xgt L xs) (d + 1) xi_R_name (29, [(0, .ref 22)], []) M (xPL Q) := by
  unfold w_R_name_29 at h
  refine xG.seg 3 (f' := (32, [(1, .int (nI 0)), (0, .ref 22)], [.int (nI 0)])) (x1 := M) (fun _ => rfl) ?_
  refine xG.ifc (t := 40) (A := ¬ (0 = 0)) rfl rfl (xe_c (show ((nI 0) : Int32).toInt = 0 from by decide) (show (0 : Int32).toInt = 0 from by decide) (by dsimp only; omega)) (fun k2001 => ?_) (fun k2001 => ?_)
  · replace h := h.2 k2001
    refine xG.seg 1 (f' := (41, [(1, .int (nI 0)), (0, .ref 22)], [.int (nI 0)])) (x1 := M) (fun _ => rfl) ?_
    refine xG.ifc (t := 51) (A := 0 = 0) rfl rfl (xe_c (show ((nI 0) : Int32).toInt = 0 from by decide) (show (0 : Int32).toInt = 0 from by decide) (by dsimp only; omega)) (fun k2002 => ?_) (fun k2002 => ?_)
    · replace h := h.1 k2002
      refine xG.seg 1 (f' := (52, [(1, .int (nI 0)), (0, .ref 22)], [.long ((Int64.ofNat 0))])) (x1 := M) (fun _ => rfl) ?_
      exact xG.fin (fun _ => rfl) (⟨_, rfl, h⟩)
    · replace h := h.2 k2002
      refine xG.seg 1 (f' := (45, [(1, .int (nI 0)), (0, .ref 22)], [.ref 22])) (x1 := M) (fun _ => rfl) ?_
      refine xG.call (d := d) (vs := [.ref 22]) (g := (45, [(1, .int (nI 0)), (0, .ref 22)], [])) (fun _ => rfl) rfl (p_R_packed L xs d M _ h) ?_
      clear h
      rintro _ M2003 ⟨r2004, rfl, h⟩
      refine ⟨_, rfl, ?_⟩
      refine xG.eqf (f' := (48, [(1, .int (nI 0)), (0, .ref 22)], [.long r2004])) rfl ?_
      refine xG.seg 1 (f' := (52, [(1, .int (nI 0)), (0, .ref 22)], [.long r2004])) (x1 := M2003) (fun _ => rfl) ?_
      exact xG.fin (fun _ => rfl) (⟨_, rfl, h⟩)
  · replace h := h.1 (Classical.not_not.mp k2001)
    refine xG.seg 2 (f' := (37, [(1, .int (nI 0)), (0, .ref 22)], [.int (nI 2), .ref 22])) (x1 := M) (fun _ => rfl) ?_
    refine xG.call (d := d) (vs := [.ref 22, .int (nI 2)]) (g := (37, [(1, .int (nI 0)), (0, .ref 22)], [])) (fun _ => rfl) rfl (p_R_wrong L xs d 2 M _ h) ?_
    clear h
    rintro _ M2005 ⟨rfl, h⟩
    refine ⟨_, rfl, ?_⟩
    refine xG.eqf (f' := (40, [(1, .int (nI 0)), (0, .ref 22)], [])) rfl ?_
    refine xG.seg 1 (f' := (41, [(1, .int (nI 0)), (0, .ref 22)], [.int (nI 0)])) (x1 := M2005) (fun _ => rfl) ?_
    refine xG.ifc (t := 51) (A := 0 = 0) rfl rfl (xe_c (show ((nI 0) : Int32).toInt = 0 from by decide) (show (0 : Int32).toInt = 0 from by decide) (by dsimp only; omega)) (fun k2006 => ?_) (fun k2006 => ?_)
    · replace h := h.1 k2006
      refine xG.seg 1 (f' := (52, [(1, .int (nI 0)), (0, .ref 22)], [.long ((Int64.ofNat 0))])) (x1 := M2005) (fun _ => rfl) ?_
      exact xG.fin (fun _ => rfl) (⟨_, rfl, h⟩)
    · replace h := h.2 k2006
      refine xG.seg 1 (f' := (45, [(1, .int (nI 0)), (0, .ref 22)], [.ref 22])) (x1 := M2005) (fun _ => rfl) ?_
      refine xG.call (d := d) (vs := [.ref 22]) (g := (45, [(1, .int (nI 0)), (0, .ref 22)], [])) (fun _ => rfl) rfl (p_R_packed L xs d M2005 _ h) ?_
      clear h
      rintro _ M2007 ⟨r2008, rfl, h⟩
      refine ⟨_, rfl, ?_⟩
      refine xG.eqf (f' := (48, [(1, .int (nI 0)), (0, .ref 22)], [.long r2008])) rfl ?_
      refine xG.seg 1 (f' := (52, [(1, .int (nI 0)), (0, .ref 22)], [.long r2008])) (x1 := M2007) (fun _ => rfl) ?_
      exact xG.fin (fun _ => rfl) (⟨_, rfl, h⟩)

def w_R_name (M : xM) (Q : Int64 → xM → Prop) : Prop := w_R_word M (fun r2 M1 => (r2 < 2147483648 ∧ ((r2 = 0 → w_R_name_29 M1 Q) ∧ (¬ (r2 = 0) → (M1.1 17 < 2147483648 ∧ ((7 < M1.1 17 → w_R_name_29 M1 Q) ∧ (¬ (7 < M1.1 17) → (M1.1 4 < 2147483648 ∧ ((40 ≤ M1.1 4 → w_R_name_29 M1 Q) ∧ (¬ (40 ≤ M1.1 4) → ((1 = 0 → w_R_wrong 2 M1 (fun M13 => ((1 = 0 → Q ((Int64.ofNat 0)) M13) ∧ (¬ (1 = 0) → w_R_packed M13 (fun r16 M15 => Q r16 M15))))) ∧ (¬ (1 = 0) → ((1 = 0 → Q ((Int64.ofNat 0)) M1) ∧ (¬ (1 = 0) → w_R_packed M1 (fun r12 M11 => Q r12 M11)))))))))))))))
set_option maxRecDepth 8000 in
set_option maxHeartbeats 4000000 in
theorem p_R_name (L : Nat) (xs : Nat → Int32) (d : Nat) (M : xM) (Q : Int64 → xM → Prop) (h : w_R_name M Q) : xG xem (xgt L xs) (d + 1) xi_R_name (0, [(0, .ref 22)], []) M (xPL Q) := by
  unfold w_R_name at h
  refine xG.seg 1 (f' := (1, [(0, .ref 22)], [.ref 22])) (x1 := M) (fun _ => rfl) ?_
  refine xG.call (d := d) (vs := [.ref 22]) (g := (1, [(0, .ref 22)], [])) (fun _ => rfl) rfl (p_R_word L xs d M _ h) ?_
  clear h
  rintro _ M1 ⟨r2, rfl, h⟩
  refine ⟨_, rfl, ?_⟩
  refine xG.eqf (f' := (4, [(0, .ref 22)], [.int (nI r2)])) rfl ?_
  obtain ⟨c3, h⟩ := h
  refine xG.ifc (t := 29) (A := r2 = 0) rfl rfl (xe_c (xt_N c3) (show (0 : Int32).toInt = 0 from by decide) (by dsimp only; omega)) (fun k4 => ?_) (fun k4 => ?_)
  · replace h := h.1 k4
    refine xG.lv (lv := [(0, .ref 22)]) (lv' := [(0, .ref 22)]) rfl rfl rfl ?_
    exact p_R_name_29 L xs d Q M1 h
  · replace h := h.2 k4
    refine xG.seg 3 (f' := (13, [(0, .ref 22)], [.int (nI 7), .int (nI (M1.1 17))])) (x1 := M1) (fun _ => rfl) ?_
    obtain ⟨c5, h⟩ := h
    refine xG.icmp (t := 29) (A := 7 < M1.1 17) rfl rfl (xe_c (xt_N c5) (show ((nI 7) : Int32).toInt = 7 from by decide) (by dsimp only; omega)) (fun k6 => ?_) (fun k6 => ?_)
    · replace h := h.1 k6
      refine xG.lv (lv := [(0, .ref 22)]) (lv' := [(0, .ref 22)]) rfl rfl rfl ?_
      exact p_R_name_29 L xs d Q M1 h
    · replace h := h.2 k6
      refine xG.seg 3 (f' := (22, [(0, .ref 22)], [.int (nI 40), .int (nI (M1.1 4))])) (x1 := M1) (fun _ => rfl) ?_
      obtain ⟨c7, h⟩ := h
      refine xG.icmp (t := 29) (A := 40 ≤ M1.1 4) rfl rfl (xe_c (xt_N c7) (show ((nI 40) : Int32).toInt = 40 from by decide) (by dsimp only; omega)) (fun k8 => ?_) (fun k8 => ?_)
      · replace h := h.1 k8
        refine xG.lv (lv := [(0, .ref 22)]) (lv' := [(0, .ref 22)]) rfl rfl rfl ?_
        exact p_R_name_29 L xs d Q M1 h
      · replace h := h.2 k8
        refine xG.seg 4 (f' := (32, [(1, .int (nI 1)), (0, .ref 22)], [.int (nI 1)])) (x1 := M1) (fun _ => rfl) ?_
        refine xG.ifc (t := 40) (A := ¬ (1 = 0)) rfl rfl (xe_c (show ((nI 1) : Int32).toInt = 1 from by decide) (show (0 : Int32).toInt = 0 from by decide) (by dsimp only; omega)) (fun k9 => ?_) (fun k9 => ?_)
        · replace h := h.2 k9
          refine xG.seg 1 (f' := (41, [(1, .int (nI 1)), (0, .ref 22)], [.int (nI 1)])) (x1 := M1) (fun _ => rfl) ?_
          refine xG.ifc (t := 51) (A := 1 = 0) rfl rfl (xe_c (show ((nI 1) : Int32).toInt = 1 from by decide) (show (0 : Int32).toInt = 0 from by decide) (by dsimp only; omega)) (fun k10 => ?_) (fun k10 => ?_)
          · replace h := h.1 k10
            refine xG.seg 1 (f' := (52, [(1, .int (nI 1)), (0, .ref 22)], [.long ((Int64.ofNat 0))])) (x1 := M1) (fun _ => rfl) ?_
            exact xG.fin (fun _ => rfl) (⟨_, rfl, h⟩)
          · replace h := h.2 k10
            refine xG.seg 1 (f' := (45, [(1, .int (nI 1)), (0, .ref 22)], [.ref 22])) (x1 := M1) (fun _ => rfl) ?_
            refine xG.call (d := d) (vs := [.ref 22]) (g := (45, [(1, .int (nI 1)), (0, .ref 22)], [])) (fun _ => rfl) rfl (p_R_packed L xs d M1 _ h) ?_
            clear h
            rintro _ M11 ⟨r12, rfl, h⟩
            refine ⟨_, rfl, ?_⟩
            refine xG.eqf (f' := (48, [(1, .int (nI 1)), (0, .ref 22)], [.long r12])) rfl ?_
            refine xG.seg 1 (f' := (52, [(1, .int (nI 1)), (0, .ref 22)], [.long r12])) (x1 := M11) (fun _ => rfl) ?_
            exact xG.fin (fun _ => rfl) (⟨_, rfl, h⟩)
        · replace h := h.1 (Classical.not_not.mp k9)
          refine xG.seg 2 (f' := (37, [(1, .int (nI 1)), (0, .ref 22)], [.int (nI 2), .ref 22])) (x1 := M1) (fun _ => rfl) ?_
          refine xG.call (d := d) (vs := [.ref 22, .int (nI 2)]) (g := (37, [(1, .int (nI 1)), (0, .ref 22)], [])) (fun _ => rfl) rfl (p_R_wrong L xs d 2 M1 _ h) ?_
          clear h
          rintro _ M13 ⟨rfl, h⟩
          refine ⟨_, rfl, ?_⟩
          refine xG.eqf (f' := (40, [(1, .int (nI 1)), (0, .ref 22)], [])) rfl ?_
          refine xG.seg 1 (f' := (41, [(1, .int (nI 1)), (0, .ref 22)], [.int (nI 1)])) (x1 := M13) (fun _ => rfl) ?_
          refine xG.ifc (t := 51) (A := 1 = 0) rfl rfl (xe_c (show ((nI 1) : Int32).toInt = 1 from by decide) (show (0 : Int32).toInt = 0 from by decide) (by dsimp only; omega)) (fun k14 => ?_) (fun k14 => ?_)
          · replace h := h.1 k14
            refine xG.seg 1 (f' := (52, [(1, .int (nI 1)), (0, .ref 22)], [.long ((Int64.ofNat 0))])) (x1 := M13) (fun _ => rfl) ?_
            exact xG.fin (fun _ => rfl) (⟨_, rfl, h⟩)
          · replace h := h.2 k14
            refine xG.seg 1 (f' := (45, [(1, .int (nI 1)), (0, .ref 22)], [.ref 22])) (x1 := M13) (fun _ => rfl) ?_
            refine xG.call (d := d) (vs := [.ref 22]) (g := (45, [(1, .int (nI 1)), (0, .ref 22)], [])) (fun _ => rfl) rfl (p_R_packed L xs d M13 _ h) ?_
            clear h
            rintro _ M15 ⟨r16, rfl, h⟩
            refine ⟨_, rfl, ?_⟩
            refine xG.eqf (f' := (48, [(1, .int (nI 1)), (0, .ref 22)], [.long r16])) rfl ?_
            refine xG.seg 1 (f' := (52, [(1, .int (nI 1)), (0, .ref 22)], [.long r16])) (x1 := M15) (fun _ => rfl) ?_
            exact xG.fin (fun _ => rfl) (⟨_, rfl, h⟩)

def w_R_begin (x1 : Int64) (M : xM) (Q : xM → Prop) : Prop := (M.1 4 < 41 ∧ (M.1 4 < 41 ∧ Q (dN (dN (dB (dL M (M.1 4) x1) 1 (M.1 4) 0) 7 0) 8 0)))
set_option maxRecDepth 8000 in
set_option maxHeartbeats 4000000 in
theorem p_R_begin (L : Nat) (xs : Nat → Int32) (d : Nat) (x1 : Int64) (M : xM) (Q : xM → Prop) (h : w_R_begin x1 M Q) : xG xem (xgt L xs) (d) xi_R_begin (0, [(0, .ref 22), (1, .long x1)], []) M (xPV Q) := by
  unfold w_R_begin at h
  refine xG.seg 5 (f' := (9, [(0, .ref 22), (1, .long x1)], [.long x1, .int (nI (M.1 4)), .ref 24])) (x1 := M) (fun _ => rfl) ?_
  obtain ⟨c1, h⟩ := h
  refine xG.last (x1 := (dL M (M.1 4) x1)) rfl (by decide) (fun _ => rfl) (by decide) c1 (fun _ => rfl) ?_
  refine xG.eqf (f' := (10, [(0, .ref 22), (1, .long x1)], [])) rfl ?_
  refine xG.seg 5 (f' := (19, [(0, .ref 22), (1, .long x1)], [.int (nI 0), .int (nI (M.1 4)), .ref 25])) (x1 := (dL M (M.1 4) x1)) (fun _ => rfl) ?_
  obtain ⟨c2, h⟩ := h
  refine xG.iast (x1 := (dB (dL M (M.1 4) x1) 1 (M.1 4) 0)) rfl (by decide) (fun _ => rfl) (by decide) c2 (fun _ => by rw [xu_nI]; rfl) ?_
  refine xG.eqf (f' := (20, [(0, .ref 22), (1, .long x1)], [])) rfl ?_
  refine xG.seg 6 (f' := (30, [(0, .ref 22), (1, .long x1)], [])) (x1 := (dN (dN (dB (dL M (M.1 4) x1) 1 (M.1 4) 0) 7 0) 8 0)) (fun _ => rfl) ?_
  exact xG.fin (fun _ => rfl) (⟨rfl, h⟩)

def w_R_flushes (x1 : Nat) (M : xM) (Q : Nat → xM → Prop) : Prop := (x1 < 2147483648 ∧ ((x1 = 41 → Q 1 M) ∧ (¬ (x1 = 41) → (x1 < 2147483648 ∧ ((x1 = 42 → Q 1 M) ∧ (¬ (x1 = 42) → (x1 < 2147483648 ∧ ((x1 = 46 → Q 1 M) ∧ (¬ (x1 = 46) → (x1 < 2147483648 ∧ ((x1 = 48 → Q 1 M) ∧ (¬ (x1 = 48) → Q 0 M))))))))))))
set_option maxRecDepth 8000 in
set_option maxHeartbeats 4000000 in
theorem p_R_flushes (L : Nat) (xs : Nat → Int32) (d : Nat) (x1 : Nat) (M : xM) (Q : Nat → xM → Prop) (h : w_R_flushes x1 M Q) : xG xem (xgt L xs) (d) xi_R_flushes (0, [(0, .int (nI x1))], []) M (xPN Q) := by
  unfold w_R_flushes at h
  refine xG.seg 2 (f' := (3, [(0, .int (nI x1))], [.int (nI 41), .int (nI x1)])) (x1 := M) (fun _ => rfl) ?_
  obtain ⟨c1, h⟩ := h
  refine xG.icmp (t := 24) (A := x1 = 41) rfl rfl (xe_c (xt_N c1) (show ((nI 41) : Int32).toInt = 41 from by decide) (by dsimp only; omega)) (fun k2 => ?_) (fun k2 => ?_)
  · replace h := h.1 k2
    refine xG.seg 2 (f' := (29, [(0, .int (nI x1))], [.int (nI 1)])) (x1 := M) (fun _ => rfl) ?_
    exact xG.fin (fun _ => rfl) (⟨_, rfl, h⟩)
  · replace h := h.2 k2
    refine xG.seg 2 (f' := (9, [(0, .int (nI x1))], [.int (nI 42), .int (nI x1)])) (x1 := M) (fun _ => rfl) ?_
    obtain ⟨c3, h⟩ := h
    refine xG.icmp (t := 24) (A := x1 = 42) rfl rfl (xe_c (xt_N c3) (show ((nI 42) : Int32).toInt = 42 from by decide) (by dsimp only; omega)) (fun k4 => ?_) (fun k4 => ?_)
    · replace h := h.1 k4
      refine xG.seg 2 (f' := (29, [(0, .int (nI x1))], [.int (nI 1)])) (x1 := M) (fun _ => rfl) ?_
      exact xG.fin (fun _ => rfl) (⟨_, rfl, h⟩)
    · replace h := h.2 k4
      refine xG.seg 2 (f' := (15, [(0, .int (nI x1))], [.int (nI 46), .int (nI x1)])) (x1 := M) (fun _ => rfl) ?_
      obtain ⟨c5, h⟩ := h
      refine xG.icmp (t := 24) (A := x1 = 46) rfl rfl (xe_c (xt_N c5) (show ((nI 46) : Int32).toInt = 46 from by decide) (by dsimp only; omega)) (fun k6 => ?_) (fun k6 => ?_)
      · replace h := h.1 k6
        refine xG.seg 2 (f' := (29, [(0, .int (nI x1))], [.int (nI 1)])) (x1 := M) (fun _ => rfl) ?_
        exact xG.fin (fun _ => rfl) (⟨_, rfl, h⟩)
      · replace h := h.2 k6
        refine xG.seg 2 (f' := (21, [(0, .int (nI x1))], [.int (nI 48), .int (nI x1)])) (x1 := M) (fun _ => rfl) ?_
        obtain ⟨c7, h⟩ := h
        refine xG.icmp (t := 28) (A := ¬ (x1 = 48)) rfl rfl (xe_c (xt_N c7) (show ((nI 48) : Int32).toInt = 48 from by decide) (by dsimp only; omega)) (fun k8 => ?_) (fun k8 => ?_)
        · replace h := h.2 k8
          refine xG.seg 1 (f' := (29, [(0, .int (nI x1))], [.int (nI 0)])) (x1 := M) (fun _ => rfl) ?_
          exact xG.fin (fun _ => rfl) (⟨_, rfl, h⟩)
        · replace h := h.1 (Classical.not_not.mp k8)
          refine xG.seg 2 (f' := (29, [(0, .int (nI x1))], [.int (nI 1)])) (x1 := M) (fun _ => rfl) ?_
          exact xG.fin (fun _ => rfl) (⟨_, rfl, h⟩)

def w_R_flush (M : xM) (Q : xM → Prop) : Prop := (M.1 4 < 41 ∧ (M.2.1 1 (M.1 4) < 2147483648 ∧ ((M.2.1 1 (M.1 4) ≤ 0 → Q (dN M 7 0)) ∧ (¬ (M.2.1 1 (M.1 4) ≤ 0) → (1 ≤ 60 * (M.1 4) + (M.2.1 1 (M.1 4)) ∧ (60 * (M.1 4) + (M.2.1 1 (M.1 4)) - 1 < 2460 ∧ (1 ≤ 60 * (M.1 4) + (M.2.1 1 (M.1 4)) ∧ (60 * (M.1 4) + (M.2.1 1 (M.1 4)) - 1 < 2460 ∧ Q (dN (dB M 3 (60 * (M.1 4) + (M.2.1 1 (M.1 4)) - 1) ((M.2.1 3 (60 * (M.1 4) + (M.2.1 1 (M.1 4)) - 1)) + (M.1 7))) 7 0)))))))))
set_option maxRecDepth 8000 in
set_option maxHeartbeats 4000000 in
theorem p_R_flush (L : Nat) (xs : Nat → Int32) (d : Nat) (M : xM) (Q : xM → Prop) (h : w_R_flush M Q) : xG xem (xgt L xs) (d) xi_R_flush (0, [(0, .ref 22)], []) M (xPV Q) := by
  unfold w_R_flush at h
  refine xG.seg 4 (f' := (8, [(0, .ref 22)], [.int (nI (M.1 4)), .ref 25])) (x1 := M) (fun _ => rfl) ?_
  obtain ⟨c1, h⟩ := h
  refine xG.iald rfl (Or.inl ⟨rfl, rfl⟩) (by decide) (fun _ => rfl) (by decide) c1 ?_
  refine xG.eqf (f' := (9, [(0, .ref 22)], [.int (nI (M.2.1 1 (M.1 4)))])) rfl ?_
  refine xG.seg 2 (f' := (11, [(1, .int (nI (M.2.1 1 (M.1 4)))), (0, .ref 22)], [.int (nI (M.2.1 1 (M.1 4)))])) (x1 := M) (fun _ => rfl) ?_
  obtain ⟨c2, h⟩ := h
  refine xG.ifc (t := 37) (A := M.2.1 1 (M.1 4) ≤ 0) rfl rfl (xe_c (xt_N c2) (show (0 : Int32).toInt = 0 from by decide) (by dsimp only; omega)) (fun k3 => ?_) (fun k3 => ?_)
  · replace h := h.1 k3
    refine xG.seg 3 (f' := (42, [(1, .int (nI (M.2.1 1 (M.1 4)))), (0, .ref 22)], [])) (x1 := (dN M 7 0)) (fun _ => rfl) ?_
    exact xG.fin (fun _ => rfl) (⟨rfl, h⟩)
  · replace h := h.2 k3
    refine xG.seg 6 (f' := (25, [(1, .int (nI (M.2.1 1 (M.1 4)))), (0, .ref 22)], [.int ((nI 60) * (nI (M.1 4))), .ref 28])) (x1 := M) (fun _ => rfl) ?_
    refine xG.conv (xe_mul _ _) ?_
    refine xG.seg 2 (f' := (27, [(1, .int (nI (M.2.1 1 (M.1 4)))), (0, .ref 22)], [.int ((nI (60 * (M.1 4))) + (nI (M.2.1 1 (M.1 4)))), .ref 28])) (x1 := M) (fun _ => rfl) ?_
    refine xG.conv (xe_add (60 * (M.1 4)) (M.2.1 1 (M.1 4))) ?_
    refine xG.eqf (f' := (27, [(1, .int (nI (M.2.1 1 (M.1 4)))), (0, .ref 22)], [.int (nI (60 * (M.1 4) + (M.2.1 1 (M.1 4)))), .ref 28])) rfl ?_
    refine xG.seg 3 (f' := (30, [(1, .int (nI (M.2.1 1 (M.1 4)))), (0, .ref 22)], [.int (nI (60 * (M.1 4) + (M.2.1 1 (M.1 4))) - nI 1), .ref 28, .int (nI (60 * (M.1 4) + (M.2.1 1 (M.1 4))) - nI 1), .ref 28])) (x1 := M) (fun _ => rfl) ?_
    obtain ⟨c4, h⟩ := h
    refine xG.conv (xe_cut c4) ?_
    obtain ⟨c5, h⟩ := h
    refine xG.iald rfl (Or.inl ⟨rfl, rfl⟩) (by decide) (fun _ => rfl) (by decide) c5 ?_
    refine xG.eqf (f' := (31, [(1, .int (nI (M.2.1 1 (M.1 4)))), (0, .ref 22)], [.int (nI (M.2.1 3 (60 * (M.1 4) + (M.2.1 1 (M.1 4)) - 1))), .int (nI (60 * (M.1 4) + (M.2.1 1 (M.1 4))) - nI 1), .ref 28])) rfl ?_
    refine xG.seg 3 (f' := (36, [(1, .int (nI (M.2.1 1 (M.1 4)))), (0, .ref 22)], [.int ((nI (M.2.1 3 (60 * (M.1 4) + (M.2.1 1 (M.1 4)) - 1))) + (nI (M.1 7))), .int (nI (60 * (M.1 4) + (M.2.1 1 (M.1 4))) - nI 1), .ref 28])) (x1 := M) (fun _ => rfl) ?_
    refine xG.conv (xe_add (M.2.1 3 (60 * (M.1 4) + (M.2.1 1 (M.1 4)) - 1)) (M.1 7)) ?_
    refine xG.eqf (f' := (36, [(1, .int (nI (M.2.1 1 (M.1 4)))), (0, .ref 22)], [.int (nI ((M.2.1 3 (60 * (M.1 4) + (M.2.1 1 (M.1 4)) - 1)) + (M.1 7))), .int (nI (60 * (M.1 4) + (M.2.1 1 (M.1 4))) - nI 1), .ref 28])) rfl ?_
    obtain ⟨c6, h⟩ := h
    refine xG.eqf (f' := (36, [(1, .int (nI (M.2.1 1 (M.1 4)))), (0, .ref 22)], [.int (nI ((M.2.1 3 (60 * (M.1 4) + (M.2.1 1 (M.1 4)) - 1)) + (M.1 7))), .int (nI (60 * (M.1 4) + (M.2.1 1 (M.1 4)) - 1)), .ref 28])) (by rw [xe_cut c6]) ?_
    obtain ⟨c7, h⟩ := h
    refine xG.iast (x1 := (dB M 3 (60 * (M.1 4) + (M.2.1 1 (M.1 4)) - 1) ((M.2.1 3 (60 * (M.1 4) + (M.2.1 1 (M.1 4)) - 1)) + (M.1 7)))) rfl (by decide) (fun _ => rfl) (by decide) c7 (fun _ => by rw [xu_nI]; rfl) ?_
    refine xG.eqf (f' := (37, [(1, .int (nI (M.2.1 1 (M.1 4)))), (0, .ref 22)], [])) rfl ?_
    refine xG.seg 3 (f' := (42, [(1, .int (nI (M.2.1 1 (M.1 4)))), (0, .ref 22)], [])) (x1 := (dN (dB M 3 (60 * (M.1 4) + (M.2.1 1 (M.1 4)) - 1) ((M.2.1 3 (60 * (M.1 4) + (M.2.1 1 (M.1 4)) - 1)) + (M.1 7))) 7 0)) (fun _ => rfl) ?_
    exact xG.fin (fun _ => rfl) (⟨rfl, h⟩)

def w_R_add_112 (l1 : Nat) (l2 : Int32) (l3 : Nat) (l4 : Nat) (M : xM) (Q : xM → Prop) : Prop := (M.1 7 ≤ M.1 7 ∧ (60 * (M.1 4) + l3 < 2460 ∧ (60 * (M.1 4) + l3 < 2460 ∧ (60 * (M.1 4) + l3 < 2460 ∧ (M.1 4 < 41 ∧ (M.1 4 < 41 ∧ Q (dB (dB (dA (dB (dN M 7 (M.1 7 - (M.1 7))) 2 (60 * (M.1 4) + l3) l1) 0 (60 * (M.1 4) + l3) l2) 3 (60 * (M.1 4) + l3) (16 * l4 + (M.1 7))) 1 (M.1 4) (M.2.1 1 (M.1 4) + 1))))))))
set_option maxRecDepth 8000 in
set_option maxHeartbeats 4000000 in
theorem p_R_add_112 (L : Nat) (xs : Nat → Int32) (d : Nat) (Q : xM → Prop) (l1 : Nat) (l2 : Int32) (l3 : Nat) (l4 : Nat) (M : xM) (h : w_R_add_112 l1 l2 l3 l4 M Q) : xG xem (xgt L xs) (d + 1) xi_R_add (112, [(0, .ref 22), (1, .int (nI l1)), (2, .int l2), (3, .int (nI l3)), (4, .int (nI l4))], []) M (xPV Q) := by
  unfold w_R_add_112 at h
  refine xG.seg 9 (f' := (131, [(5, .int (nI (M.1 7))), (0, .ref 22), (1, .int (nI l1)), (2, .int l2), (3, .int (nI l3)), (4, .int (nI l4))], [.int (nI (M.1 7) - nI (M.1 7)), .ref 22])) (x1 := M) (fun _ => rfl) ?_
  obtain ⟨c3001, h⟩ := h
  refine xG.conv (xe_cut c3001) ?_
  refine xG.seg 5 (f' := (141, [(5, .int (nI (M.1 7))), (0, .ref 22), (1, .int (nI l1)), (2, .int l2), (3, .int (nI l3)), (4, .int (nI l4))], [.int ((nI 60) * (nI (M.1 4)))])) (x1 := (dN M 7 (M.1 7 - (M.1 7)))) (fun _ => rfl) ?_
  refine xG.conv (xe_mul _ _) ?_
  refine xG.seg 2 (f' := (143, [(5, .int (nI (M.1 7))), (0, .ref 22), (1, .int (nI l1)), (2, .int l2), (3, .int (nI l3)), (4, .int (nI l4))], [.int ((nI (60 * (M.1 4))) + (nI l3))])) (x1 := (dN M 7 (M.1 7 - (M.1 7)))) (fun _ => rfl) ?_
  refine xG.conv (xe_add (60 * (M.1 4)) l3) ?_
  refine xG.eqf (f' := (143, [(5, .int (nI (M.1 7))), (0, .ref 22), (1, .int (nI l1)), (2, .int l2), (3, .int (nI l3)), (4, .int (nI l4))], [.int (nI (60 * (M.1 4) + l3))])) rfl ?_
  refine xG.seg 5 (f' := (152, [(6, .int (nI (60 * (M.1 4) + l3))), (5, .int (nI (M.1 7))), (0, .ref 22), (1, .int (nI l1)), (2, .int l2), (3, .int (nI l3)), (4, .int (nI l4))], [.int (nI l1), .int (nI (60 * (M.1 4) + l3)), .ref 26])) (x1 := (dN M 7 (M.1 7 - (M.1 7)))) (fun _ => rfl) ?_
  obtain ⟨c3002, h⟩ := h
  refine xG.iast (x1 := (dB (dN M 7 (M.1 7 - (M.1 7))) 2 (60 * (M.1 4) + l3) l1)) rfl (by decide) (fun _ => rfl) (by decide) c3002 (fun _ => by rw [xu_nI]; rfl) ?_
  refine xG.eqf (f' := (153, [(6, .int (nI (60 * (M.1 4) + l3))), (5, .int (nI (M.1 7))), (0, .ref 22), (1, .int (nI l1)), (2, .int l2), (3, .int (nI l3)), (4, .int (nI l4))], [])) rfl ?_
  refine xG.seg 4 (f' := (160, [(6, .int (nI (60 * (M.1 4) + l3))), (5, .int (nI (M.1 7))), (0, .ref 22), (1, .int (nI l1)), (2, .int l2), (3, .int (nI l3)), (4, .int (nI l4))], [.int l2, .int (nI (60 * (M.1 4) + l3)), .ref 27])) (x1 := (dB (dN M 7 (M.1 7 - (M.1 7))) 2 (60 * (M.1 4) + l3) l1)) (fun _ => rfl) ?_
  obtain ⟨c3003, h⟩ := h
  refine xG.iast (x1 := (dA (dB (dN M 7 (M.1 7 - (M.1 7))) 2 (60 * (M.1 4) + l3) l1) 0 (60 * (M.1 4) + l3) l2)) rfl (by decide) (fun _ => rfl) (by decide) c3003 (fun _ => rfl) ?_
  refine xG.eqf (f' := (161, [(6, .int (nI (60 * (M.1 4) + l3))), (5, .int (nI (M.1 7))), (0, .ref 22), (1, .int (nI l1)), (2, .int l2), (3, .int (nI l3)), (4, .int (nI l4))], [])) rfl ?_
  refine xG.seg 6 (f' := (172, [(6, .int (nI (60 * (M.1 4) + l3))), (5, .int (nI (M.1 7))), (0, .ref 22), (1, .int (nI l1)), (2, .int l2), (3, .int (nI l3)), (4, .int (nI l4))], [.int ((nI 16) * (nI l4)), .int (nI (60 * (M.1 4) + l3)), .ref 28])) (x1 := (dA (dB (dN M 7 (M.1 7 - (M.1 7))) 2 (60 * (M.1 4) + l3) l1) 0 (60 * (M.1 4) + l3) l2)) (fun _ => rfl) ?_
  refine xG.conv (xe_mul _ _) ?_
  refine xG.seg 2 (f' := (175, [(6, .int (nI (60 * (M.1 4) + l3))), (5, .int (nI (M.1 7))), (0, .ref 22), (1, .int (nI l1)), (2, .int l2), (3, .int (nI l3)), (4, .int (nI l4))], [.int ((nI (16 * l4)) + (nI (M.1 7))), .int (nI (60 * (M.1 4) + l3)), .ref 28])) (x1 := (dA (dB (dN M 7 (M.1 7 - (M.1 7))) 2 (60 * (M.1 4) + l3) l1) 0 (60 * (M.1 4) + l3) l2)) (fun _ => rfl) ?_
  refine xG.conv (xe_add (16 * l4) (M.1 7)) ?_
  refine xG.eqf (f' := (175, [(6, .int (nI (60 * (M.1 4) + l3))), (5, .int (nI (M.1 7))), (0, .ref 22), (1, .int (nI l1)), (2, .int l2), (3, .int (nI l3)), (4, .int (nI l4))], [.int (nI (16 * l4 + (M.1 7))), .int (nI (60 * (M.1 4) + l3)), .ref 28])) rfl ?_
  obtain ⟨c3004, h⟩ := h
  refine xG.iast (x1 := (dB (dA (dB (dN M 7 (M.1 7 - (M.1 7))) 2 (60 * (M.1 4) + l3) l1) 0 (60 * (M.1 4) + l3) l2) 3 (60 * (M.1 4) + l3) (16 * l4 + (M.1 7)))) rfl (by decide) (fun _ => rfl) (by decide) c3004 (fun _ => by rw [xu_nI]; rfl) ?_
  refine xG.eqf (f' := (176, [(6, .int (nI (60 * (M.1 4) + l3))), (5, .int (nI (M.1 7))), (0, .ref 22), (1, .int (nI l1)), (2, .int l2), (3, .int (nI l3)), (4, .int (nI l4))], [])) rfl ?_
  refine xG.seg 5 (f' := (185, [(6, .int (nI (60 * (M.1 4) + l3))), (5, .int (nI (M.1 7))), (0, .ref 22), (1, .int (nI l1)), (2, .int l2), (3, .int (nI l3)), (4, .int (nI l4))], [.int (nI (M.1 4)), .ref 25, .int (nI (M.1 4)), .ref 25])) (x1 := (dB (dA (dB (dN M 7 (M.1 7 - (M.1 7))) 2 (60 * (M.1 4) + l3) l1) 0 (60 * (M.1 4) + l3) l2) 3 (60 * (M.1 4) + l3) (16 * l4 + (M.1 7)))) (fun _ => rfl) ?_
  obtain ⟨c3005, h⟩ := h
  refine xG.iald rfl (Or.inl ⟨rfl, rfl⟩) (by decide) (fun _ => rfl) (by decide) c3005 ?_
  refine xG.eqf (f' := (186, [(6, .int (nI (60 * (M.1 4) + l3))), (5, .int (nI (M.1 7))), (0, .ref 22), (1, .int (nI l1)), (2, .int l2), (3, .int (nI l3)), (4, .int (nI l4))], [.int (nI (M.2.1 1 (M.1 4))), .int (nI (M.1 4)), .ref 25])) rfl ?_
  refine xG.seg 2 (f' := (188, [(6, .int (nI (60 * (M.1 4) + l3))), (5, .int (nI (M.1 7))), (0, .ref 22), (1, .int (nI l1)), (2, .int l2), (3, .int (nI l3)), (4, .int (nI l4))], [.int ((nI (M.2.1 1 (M.1 4))) + (nI 1)), .int (nI (M.1 4)), .ref 25])) (x1 := (dB (dA (dB (dN M 7 (M.1 7 - (M.1 7))) 2 (60 * (M.1 4) + l3) l1) 0 (60 * (M.1 4) + l3) l2) 3 (60 * (M.1 4) + l3) (16 * l4 + (M.1 7)))) (fun _ => rfl) ?_
  refine xG.conv (xe_add (M.2.1 1 (M.1 4)) 1) ?_
  refine xG.eqf (f' := (188, [(6, .int (nI (60 * (M.1 4) + l3))), (5, .int (nI (M.1 7))), (0, .ref 22), (1, .int (nI l1)), (2, .int l2), (3, .int (nI l3)), (4, .int (nI l4))], [.int (nI (M.2.1 1 (M.1 4) + 1)), .int (nI (M.1 4)), .ref 25])) rfl ?_
  obtain ⟨c3006, h⟩ := h
  refine xG.iast (x1 := (dB (dB (dA (dB (dN M 7 (M.1 7 - (M.1 7))) 2 (60 * (M.1 4) + l3) l1) 0 (60 * (M.1 4) + l3) l2) 3 (60 * (M.1 4) + l3) (16 * l4 + (M.1 7))) 1 (M.1 4) (M.2.1 1 (M.1 4) + 1))) rfl (by decide) (fun _ => rfl) (by decide) c3006 (fun _ => by rw [xu_nI]; rfl) ?_
  refine xG.eqf (f' := (189, [(6, .int (nI (60 * (M.1 4) + l3))), (5, .int (nI (M.1 7))), (0, .ref 22), (1, .int (nI l1)), (2, .int l2), (3, .int (nI l3)), (4, .int (nI l4))], [])) rfl ?_
  exact xG.fin (fun _ => rfl) (⟨rfl, h⟩)

def w_R_add_33 (l1 : Nat) (l2 : Int32) (l3 : Nat) (M : xM) (Q : xM → Prop) : Prop := w_R_takes l1 M (fun r2002 M2001 => (r2002 < 2147483648 ∧ (M2001.1 7 < 2147483648 ∧ ((r2002 ≤ M2001.1 7 → w_R_takes l1 M2001 (fun r2007 M2006 => w_R_gives l1 M2006 (fun r2009 M2008 => (r2007 ≤ M2001.1 7 + r2009 ∧ (M2001.1 7 + r2009 - r2007 < 2147483648 ∧ ((M2001.1 7 + r2009 - r2007 ≤ 3 → (l1 < 2147483648 ∧ ((l1 = 45 → w_R_add_112 l1 l2 l3 0 (dN M2008 7 (M2001.1 7 + r2009 - r2007)) Q) ∧ (¬ (l1 = 45) → (l1 < 2147483648 ∧ ((l1 = 47 → w_R_add_112 l1 l2 l3 0 (dN M2008 7 (M2001.1 7 + r2009 - r2007)) Q) ∧ (¬ (l1 = 47) → (0 ≤ M2001.1 7 + r2009 - r2007 ∧ (60 * (M2008.1 4) + l3 < 2460 ∧ (60 * (M2008.1 4) + l3 < 2460 ∧ (60 * (M2008.1 4) + l3 < 2460 ∧ (M2008.1 4 < 41 ∧ (M2008.1 4 < 41 ∧ Q (dB (dB (dA (dB (dN M2008 7 (M2001.1 7 + r2009 - r2007 - 0)) 2 (60 * (M2008.1 4) + l3) l1) 0 (60 * (M2008.1 4) + l3) l2) 3 (60 * (M2008.1 4) + l3) (16 * 0)) 1 (M2008.1 4) (M2008.2.1 1 (M2008.1 4) + 1))))))))))))))) ∧ (¬ (M2001.1 7 + r2009 - r2007 ≤ 3) → (l1 < 2147483648 ∧ ((l1 = 45 → w_R_add_112 l1 l2 l3 0 (dN M2008 7 (M2001.1 7 + r2009 - r2007)) Q) ∧ (¬ (l1 = 45) → (l1 < 2147483648 ∧ ((l1 = 47 → w_R_add_112 l1 l2 l3 0 (dN M2008 7 (M2001.1 7 + r2009 - r2007)) Q) ∧ (¬ (l1 = 47) → (M2001.1 7 + r2009 - r2007 ≤ (M2001.1 7 + r2009 - r2007) + 3 ∧ (60 * (M2008.1 4) + l3 < 2460 ∧ (60 * (M2008.1 4) + l3 < 2460 ∧ (3 ≤ 16 * 0 + (M2001.1 7 + r2009 - r2007) ∧ (60 * (M2008.1 4) + l3 < 2460 ∧ (M2008.1 4 < 41 ∧ (M2008.1 4 < 41 ∧ Q (dB (dB (dA (dB (dN M2008 7 ((M2001.1 7 + r2009 - r2007) + 3 - (M2001.1 7 + r2009 - r2007))) 2 (60 * (M2008.1 4) + l3) l1) 0 (60 * (M2008.1 4) + l3) l2) 3 (60 * (M2008.1 4) + l3) (16 * 0 + (M2001.1 7 + r2009 - r2007) - 3)) 1 (M2008.1 4) (M2008.2.1 1 (M2008.1 4) + 1)))))))))))))))))))))) ∧ (¬ (r2002 ≤ M2001.1 7) → w_R_takes l1 M2001 (fun r2035 M2034 => w_R_takes l1 M2034 (fun r2037 M2036 => w_R_gives l1 M2036 (fun r2039 M2038 => (M2034.1 7 + r2037 ≤ M2034.1 7 + r2035 + r2039 ∧ (M2034.1 7 + r2035 + r2039 - (M2034.1 7 + r2037) < 2147483648 ∧ ((M2034.1 7 + r2035 + r2039 - (M2034.1 7 + r2037) ≤ 3 → (l1 < 2147483648 ∧ ((l1 = 45 → (M2034.1 7 ≤ r2035 ∧ w_R_add_112 l1 l2 l3 (r2035 - (M2034.1 7)) (dN M2038 7 (M2034.1 7 + r2035 + r2039 - (M2034.1 7 + r2037))) Q)) ∧ (¬ (l1 = 45) → (l1 < 2147483648 ∧ ((l1 = 47 → (M2034.1 7 ≤ r2035 ∧ w_R_add_112 l1 l2 l3 (r2035 - (M2034.1 7)) (dN M2038 7 (M2034.1 7 + r2035 + r2039 - (M2034.1 7 + r2037))) Q)) ∧ (¬ (l1 = 47) → (0 ≤ M2034.1 7 + r2035 + r2039 - (M2034.1 7 + r2037) ∧ (60 * (M2038.1 4) + l3 < 2460 ∧ (60 * (M2038.1 4) + l3 < 2460 ∧ (M2034.1 7 ≤ r2035 ∧ (60 * (M2038.1 4) + l3 < 2460 ∧ (M2038.1 4 < 41 ∧ (M2038.1 4 < 41 ∧ Q (dB (dB (dA (dB (dN M2038 7 (M2034.1 7 + r2035 + r2039 - (M2034.1 7 + r2037) - 0)) 2 (60 * (M2038.1 4) + l3) l1) 0 (60 * (M2038.1 4) + l3) l2) 3 (60 * (M2038.1 4) + l3) (16 * (r2035 - (M2034.1 7)))) 1 (M2038.1 4) (M2038.2.1 1 (M2038.1 4) + 1)))))))))))))))) ∧ (¬ (M2034.1 7 + r2035 + r2039 - (M2034.1 7 + r2037) ≤ 3) → (l1 < 2147483648 ∧ ((l1 = 45 → (M2034.1 7 ≤ r2035 ∧ w_R_add_112 l1 l2 l3 (r2035 - (M2034.1 7)) (dN M2038 7 (M2034.1 7 + r2035 + r2039 - (M2034.1 7 + r2037))) Q)) ∧ (¬ (l1 = 45) → (l1 < 2147483648 ∧ ((l1 = 47 → (M2034.1 7 ≤ r2035 ∧ w_R_add_112 l1 l2 l3 (r2035 - (M2034.1 7)) (dN M2038 7 (M2034.1 7 + r2035 + r2039 - (M2034.1 7 + r2037))) Q)) ∧ (¬ (l1 = 47) → (M2034.1 7 + r2035 + r2039 - (M2034.1 7 + r2037) ≤ (M2034.1 7 + r2035 + r2039 - (M2034.1 7 + r2037)) + 3 ∧ (60 * (M2038.1 4) + l3 < 2460 ∧ (60 * (M2038.1 4) + l3 < 2460 ∧ (M2034.1 7 ≤ r2035 ∧ (3 ≤ (16 * (r2035 - (M2034.1 7))) + (M2034.1 7 + r2035 + r2039 - (M2034.1 7 + r2037)) ∧ (60 * (M2038.1 4) + l3 < 2460 ∧ (M2038.1 4 < 41 ∧ (M2038.1 4 < 41 ∧ Q (dB (dB (dA (dB (dN M2038 7 ((M2034.1 7 + r2035 + r2039 - (M2034.1 7 + r2037)) + 3 - (M2034.1 7 + r2035 + r2039 - (M2034.1 7 + r2037)))) 2 (60 * (M2038.1 4) + l3) l1) 0 (60 * (M2038.1 4) + l3) l2) 3 (60 * (M2038.1 4) + l3) ((16 * (r2035 - (M2034.1 7))) + (M2034.1 7 + r2035 + r2039 - (M2034.1 7 + r2037)) - 3)) 1 (M2038.1 4) (M2038.2.1 1 (M2038.1 4) + 1))))))))))))))))))))))))))))
set_option maxRecDepth 8000 in
set_option maxHeartbeats 4000000 in
theorem p_R_add_33 (L : Nat) (xs : Nat → Int32) (d : Nat) (Q : xM → Prop) (l1 : Nat) (l2 : Int32) (l3 : Nat) (M : xM) (h : w_R_add_33 l1 l2 l3 M Q) : xG xem (xgt L xs) (d + 1) xi_R_add (33, [(0, .ref 22), (1, .int (nI l1)), (2, .int l2), (3, .int (nI l3))], []) M (xPV Q) := by
  unfold w_R_add_33 at h
  refine xG.seg 1 (f' := (34, [(0, .ref 22), (1, .int (nI l1)), (2, .int l2), (3, .int (nI l3))], [.int (nI l1)])) (x1 := M) (fun _ => rfl) ?_
  refine xG.call (d := d) (vs := [.int (nI l1)]) (g := (34, [(0, .ref 22), (1, .int (nI l1)), (2, .int l2), (3, .int (nI l3))], [])) (fun _ => rfl) rfl (p_R_takes L xs d l1 M _ h) ?_
  clear h
  rintro _ M2001 ⟨r2002, rfl, h⟩
  refine ⟨_, rfl, ?_⟩
  refine xG.eqf (f' := (37, [(0, .ref 22), (1, .int (nI l1)), (2, .int l2), (3, .int (nI l3))], [.int (nI r2002)])) rfl ?_
  refine xG.seg 2 (f' := (41, [(0, .ref 22), (1, .int (nI l1)), (2, .int l2), (3, .int (nI l3))], [.int (nI (M2001.1 7)), .int (nI r2002)])) (x1 := M2001) (fun _ => rfl) ?_
  obtain ⟨c2003, h⟩ := h
  obtain ⟨c2004, h⟩ := h
  refine xG.icmp (t := 56) (A := r2002 ≤ M2001.1 7) rfl rfl (xe_c (xt_N c2003) (xt_N c2004) (by dsimp only; omega)) (fun k2005 => ?_) (fun k2005 => ?_)
  · replace h := h.1 k2005
    refine xG.seg 7 (f' := (67, [(4, .int (nI 0)), (0, .ref 22), (1, .int (nI l1)), (2, .int l2), (3, .int (nI l3))], [.int ((nI (M2001.1 7)) + (nI 0)), .ref 22])) (x1 := M2001) (fun _ => rfl) ?_
    refine xG.conv (xe_add (M2001.1 7) 0) ?_
    refine xG.eqf (f' := (67, [(4, .int (nI 0)), (0, .ref 22), (1, .int (nI l1)), (2, .int l2), (3, .int (nI l3))], [.int (nI (M2001.1 7)), .ref 22])) rfl ?_
    refine xG.seg 1 (f' := (68, [(4, .int (nI 0)), (0, .ref 22), (1, .int (nI l1)), (2, .int l2), (3, .int (nI l3))], [.int (nI l1), .int (nI (M2001.1 7)), .ref 22])) (x1 := M2001) (fun _ => rfl) ?_
    refine xG.call (d := d) (vs := [.int (nI l1)]) (g := (68, [(4, .int (nI 0)), (0, .ref 22), (1, .int (nI l1)), (2, .int l2), (3, .int (nI l3))], [.int (nI (M2001.1 7)), .ref 22])) (fun _ => rfl) rfl (p_R_takes L xs d l1 M2001 _ h) ?_
    clear h
    rintro _ M2006 ⟨r2007, rfl, h⟩
    refine ⟨_, rfl, ?_⟩
    refine xG.eqf (f' := (71, [(4, .int (nI 0)), (0, .ref 22), (1, .int (nI l1)), (2, .int l2), (3, .int (nI l3))], [.int (nI r2007), .int (nI (M2001.1 7)), .ref 22])) rfl ?_
    refine xG.seg 2 (f' := (73, [(4, .int (nI 0)), (0, .ref 22), (1, .int (nI l1)), (2, .int l2), (3, .int (nI l3))], [.int (nI l1), .int (nI (M2001.1 7) - nI r2007), .ref 22])) (x1 := M2006) (fun _ => rfl) ?_
    refine xG.call (d := d) (vs := [.int (nI l1)]) (g := (73, [(4, .int (nI 0)), (0, .ref 22), (1, .int (nI l1)), (2, .int l2), (3, .int (nI l3))], [.int (nI (M2001.1 7) - nI r2007), .ref 22])) (fun _ => rfl) rfl (p_R_gives L xs d l1 M2006 _ h) ?_
    clear h
    rintro _ M2008 ⟨r2009, rfl, h⟩
    refine ⟨_, rfl, ?_⟩
    refine xG.eqf (f' := (76, [(4, .int (nI 0)), (0, .ref 22), (1, .int (nI l1)), (2, .int l2), (3, .int (nI l3))], [.int (nI r2009), .int (nI (M2001.1 7) - nI r2007), .ref 22])) rfl ?_
    refine xG.seg 1 (f' := (77, [(4, .int (nI 0)), (0, .ref 22), (1, .int (nI l1)), (2, .int l2), (3, .int (nI l3))], [.int ((nI (M2001.1 7) - nI r2007) + (nI r2009)), .ref 22])) (x1 := M2008) (fun _ => rfl) ?_
    refine xG.conv (xe_zn _ _ _) ?_
    refine xG.eqf (f' := (77, [(4, .int (nI 0)), (0, .ref 22), (1, .int (nI l1)), (2, .int l2), (3, .int (nI l3))], [.int (nI (M2001.1 7 + r2009) - nI r2007), .ref 22])) rfl ?_
    obtain ⟨c2010, h⟩ := h
    refine xG.conv (xe_cut c2010) ?_
    refine xG.seg 4 (f' := (85, [(4, .int (nI 0)), (0, .ref 22), (1, .int (nI l1)), (2, .int l2), (3, .int (nI l3))], [.int (nI 3), .int (nI (M2001.1 7 + r2009 - r2007))])) (x1 := (dN M2008 7 (M2001.1 7 + r2009 - r2007))) (fun _ => rfl) ?_
    obtain ⟨c2011, h⟩ := h
    refine xG.icmp (t := 97) (A := M2001.1 7 + r2009 - r2007 ≤ 3) rfl rfl (xe_c (xt_N c2011) (show ((nI 3) : Int32).toInt = 3 from by decide) (by dsimp only; omega)) (fun k2012 => ?_) (fun k2012 => ?_)
    · replace h := h.1 k2012
      refine xG.seg 4 (f' := (103, [(5, .int (nI 0)), (4, .int (nI 0)), (0, .ref 22), (1, .int (nI l1)), (2, .int l2), (3, .int (nI l3))], [.int (nI 45), .int (nI l1)])) (x1 := (dN M2008 7 (M2001.1 7 + r2009 - r2007))) (fun _ => rfl) ?_
      obtain ⟨c2013, h⟩ := h
      refine xG.icmp (t := 112) (A := l1 = 45) rfl rfl (xe_c (xt_N c2013) (show ((nI 45) : Int32).toInt = 45 from by decide) (by dsimp only; omega)) (fun k2014 => ?_) (fun k2014 => ?_)
      · replace h := h.1 k2014
        refine xG.lv (lv := [(0, .ref 22), (1, .int (nI l1)), (2, .int l2), (3, .int (nI l3)), (4, .int (nI 0))]) (lv' := [(5, .int (nI 0)), (4, .int (nI 0)), (0, .ref 22), (1, .int (nI l1)), (2, .int l2), (3, .int (nI l3))]) rfl rfl rfl ?_
        exact p_R_add_112 L xs d Q l1 l2 l3 0 (dN M2008 7 (M2001.1 7 + r2009 - r2007)) h
      · replace h := h.2 k2014
        refine xG.seg 2 (f' := (109, [(5, .int (nI 0)), (4, .int (nI 0)), (0, .ref 22), (1, .int (nI l1)), (2, .int l2), (3, .int (nI l3))], [.int (nI 47), .int (nI l1)])) (x1 := (dN M2008 7 (M2001.1 7 + r2009 - r2007))) (fun _ => rfl) ?_
        obtain ⟨c2015, h⟩ := h
        refine xG.icmp (t := 119) (A := ¬ (l1 = 47)) rfl rfl (xe_c (xt_N c2015) (show ((nI 47) : Int32).toInt = 47 from by decide) (by dsimp only; omega)) (fun k2016 => ?_) (fun k2016 => ?_)
        · replace h := h.2 k2016
          refine xG.seg 7 (f' := (131, [(5, .int (nI 0)), (4, .int (nI 0)), (0, .ref 22), (1, .int (nI l1)), (2, .int l2), (3, .int (nI l3))], [.int (nI (M2001.1 7 + r2009 - r2007) - nI 0), .ref 22])) (x1 := (dN M2008 7 (M2001.1 7 + r2009 - r2007))) (fun _ => rfl) ?_
          obtain ⟨c2017, h⟩ := h
          refine xG.conv (xe_cut c2017) ?_
          refine xG.seg 5 (f' := (141, [(5, .int (nI 0)), (4, .int (nI 0)), (0, .ref 22), (1, .int (nI l1)), (2, .int l2), (3, .int (nI l3))], [.int ((nI 60) * (nI (M2008.1 4)))])) (x1 := (dN M2008 7 (M2001.1 7 + r2009 - r2007 - 0))) (fun _ => rfl) ?_
          refine xG.conv (xe_mul _ _) ?_
          refine xG.seg 2 (f' := (143, [(5, .int (nI 0)), (4, .int (nI 0)), (0, .ref 22), (1, .int (nI l1)), (2, .int l2), (3, .int (nI l3))], [.int ((nI (60 * (M2008.1 4))) + (nI l3))])) (x1 := (dN M2008 7 (M2001.1 7 + r2009 - r2007 - 0))) (fun _ => rfl) ?_
          refine xG.conv (xe_add (60 * (M2008.1 4)) l3) ?_
          refine xG.eqf (f' := (143, [(5, .int (nI 0)), (4, .int (nI 0)), (0, .ref 22), (1, .int (nI l1)), (2, .int l2), (3, .int (nI l3))], [.int (nI (60 * (M2008.1 4) + l3))])) rfl ?_
          refine xG.seg 5 (f' := (152, [(6, .int (nI (60 * (M2008.1 4) + l3))), (5, .int (nI 0)), (4, .int (nI 0)), (0, .ref 22), (1, .int (nI l1)), (2, .int l2), (3, .int (nI l3))], [.int (nI l1), .int (nI (60 * (M2008.1 4) + l3)), .ref 26])) (x1 := (dN M2008 7 (M2001.1 7 + r2009 - r2007 - 0))) (fun _ => rfl) ?_
          obtain ⟨c2018, h⟩ := h
          refine xG.iast (x1 := (dB (dN M2008 7 (M2001.1 7 + r2009 - r2007 - 0)) 2 (60 * (M2008.1 4) + l3) l1)) rfl (by decide) (fun _ => rfl) (by decide) c2018 (fun _ => by rw [xu_nI]; rfl) ?_
          refine xG.eqf (f' := (153, [(6, .int (nI (60 * (M2008.1 4) + l3))), (5, .int (nI 0)), (4, .int (nI 0)), (0, .ref 22), (1, .int (nI l1)), (2, .int l2), (3, .int (nI l3))], [])) rfl ?_
          refine xG.seg 4 (f' := (160, [(6, .int (nI (60 * (M2008.1 4) + l3))), (5, .int (nI 0)), (4, .int (nI 0)), (0, .ref 22), (1, .int (nI l1)), (2, .int l2), (3, .int (nI l3))], [.int l2, .int (nI (60 * (M2008.1 4) + l3)), .ref 27])) (x1 := (dB (dN M2008 7 (M2001.1 7 + r2009 - r2007 - 0)) 2 (60 * (M2008.1 4) + l3) l1)) (fun _ => rfl) ?_
          obtain ⟨c2019, h⟩ := h
          refine xG.iast (x1 := (dA (dB (dN M2008 7 (M2001.1 7 + r2009 - r2007 - 0)) 2 (60 * (M2008.1 4) + l3) l1) 0 (60 * (M2008.1 4) + l3) l2)) rfl (by decide) (fun _ => rfl) (by decide) c2019 (fun _ => rfl) ?_
          refine xG.eqf (f' := (161, [(6, .int (nI (60 * (M2008.1 4) + l3))), (5, .int (nI 0)), (4, .int (nI 0)), (0, .ref 22), (1, .int (nI l1)), (2, .int l2), (3, .int (nI l3))], [])) rfl ?_
          refine xG.seg 6 (f' := (172, [(6, .int (nI (60 * (M2008.1 4) + l3))), (5, .int (nI 0)), (4, .int (nI 0)), (0, .ref 22), (1, .int (nI l1)), (2, .int l2), (3, .int (nI l3))], [.int ((nI 16) * (nI 0)), .int (nI (60 * (M2008.1 4) + l3)), .ref 28])) (x1 := (dA (dB (dN M2008 7 (M2001.1 7 + r2009 - r2007 - 0)) 2 (60 * (M2008.1 4) + l3) l1) 0 (60 * (M2008.1 4) + l3) l2)) (fun _ => rfl) ?_
          refine xG.conv (xe_mul _ _) ?_
          refine xG.seg 2 (f' := (175, [(6, .int (nI (60 * (M2008.1 4) + l3))), (5, .int (nI 0)), (4, .int (nI 0)), (0, .ref 22), (1, .int (nI l1)), (2, .int l2), (3, .int (nI l3))], [.int ((nI (16 * 0)) + (nI 0)), .int (nI (60 * (M2008.1 4) + l3)), .ref 28])) (x1 := (dA (dB (dN M2008 7 (M2001.1 7 + r2009 - r2007 - 0)) 2 (60 * (M2008.1 4) + l3) l1) 0 (60 * (M2008.1 4) + l3) l2)) (fun _ => rfl) ?_
          refine xG.conv (xe_add (16 * 0) 0) ?_
          refine xG.eqf (f' := (175, [(6, .int (nI (60 * (M2008.1 4) + l3))), (5, .int (nI 0)), (4, .int (nI 0)), (0, .ref 22), (1, .int (nI l1)), (2, .int l2), (3, .int (nI l3))], [.int (nI (16 * 0)), .int (nI (60 * (M2008.1 4) + l3)), .ref 28])) rfl ?_
          obtain ⟨c2020, h⟩ := h
          refine xG.iast (x1 := (dB (dA (dB (dN M2008 7 (M2001.1 7 + r2009 - r2007 - 0)) 2 (60 * (M2008.1 4) + l3) l1) 0 (60 * (M2008.1 4) + l3) l2) 3 (60 * (M2008.1 4) + l3) (16 * 0))) rfl (by decide) (fun _ => rfl) (by decide) c2020 (fun _ => by rw [xu_nI]; rfl) ?_
          refine xG.eqf (f' := (176, [(6, .int (nI (60 * (M2008.1 4) + l3))), (5, .int (nI 0)), (4, .int (nI 0)), (0, .ref 22), (1, .int (nI l1)), (2, .int l2), (3, .int (nI l3))], [])) rfl ?_
          refine xG.seg 5 (f' := (185, [(6, .int (nI (60 * (M2008.1 4) + l3))), (5, .int (nI 0)), (4, .int (nI 0)), (0, .ref 22), (1, .int (nI l1)), (2, .int l2), (3, .int (nI l3))], [.int (nI (M2008.1 4)), .ref 25, .int (nI (M2008.1 4)), .ref 25])) (x1 := (dB (dA (dB (dN M2008 7 (M2001.1 7 + r2009 - r2007 - 0)) 2 (60 * (M2008.1 4) + l3) l1) 0 (60 * (M2008.1 4) + l3) l2) 3 (60 * (M2008.1 4) + l3) (16 * 0))) (fun _ => rfl) ?_
          obtain ⟨c2021, h⟩ := h
          refine xG.iald rfl (Or.inl ⟨rfl, rfl⟩) (by decide) (fun _ => rfl) (by decide) c2021 ?_
          refine xG.eqf (f' := (186, [(6, .int (nI (60 * (M2008.1 4) + l3))), (5, .int (nI 0)), (4, .int (nI 0)), (0, .ref 22), (1, .int (nI l1)), (2, .int l2), (3, .int (nI l3))], [.int (nI (M2008.2.1 1 (M2008.1 4))), .int (nI (M2008.1 4)), .ref 25])) rfl ?_
          refine xG.seg 2 (f' := (188, [(6, .int (nI (60 * (M2008.1 4) + l3))), (5, .int (nI 0)), (4, .int (nI 0)), (0, .ref 22), (1, .int (nI l1)), (2, .int l2), (3, .int (nI l3))], [.int ((nI (M2008.2.1 1 (M2008.1 4))) + (nI 1)), .int (nI (M2008.1 4)), .ref 25])) (x1 := (dB (dA (dB (dN M2008 7 (M2001.1 7 + r2009 - r2007 - 0)) 2 (60 * (M2008.1 4) + l3) l1) 0 (60 * (M2008.1 4) + l3) l2) 3 (60 * (M2008.1 4) + l3) (16 * 0))) (fun _ => rfl) ?_
          refine xG.conv (xe_add (M2008.2.1 1 (M2008.1 4)) 1) ?_
          refine xG.eqf (f' := (188, [(6, .int (nI (60 * (M2008.1 4) + l3))), (5, .int (nI 0)), (4, .int (nI 0)), (0, .ref 22), (1, .int (nI l1)), (2, .int l2), (3, .int (nI l3))], [.int (nI (M2008.2.1 1 (M2008.1 4) + 1)), .int (nI (M2008.1 4)), .ref 25])) rfl ?_
          obtain ⟨c2022, h⟩ := h
          refine xG.iast (x1 := (dB (dB (dA (dB (dN M2008 7 (M2001.1 7 + r2009 - r2007 - 0)) 2 (60 * (M2008.1 4) + l3) l1) 0 (60 * (M2008.1 4) + l3) l2) 3 (60 * (M2008.1 4) + l3) (16 * 0)) 1 (M2008.1 4) (M2008.2.1 1 (M2008.1 4) + 1))) rfl (by decide) (fun _ => rfl) (by decide) c2022 (fun _ => by rw [xu_nI]; rfl) ?_
          refine xG.eqf (f' := (189, [(6, .int (nI (60 * (M2008.1 4) + l3))), (5, .int (nI 0)), (4, .int (nI 0)), (0, .ref 22), (1, .int (nI l1)), (2, .int l2), (3, .int (nI l3))], [])) rfl ?_
          exact xG.fin (fun _ => rfl) (⟨rfl, h⟩)
        · replace h := h.1 (Classical.not_not.mp k2016)
          refine xG.lv (lv := [(0, .ref 22), (1, .int (nI l1)), (2, .int l2), (3, .int (nI l3)), (4, .int (nI 0))]) (lv' := [(5, .int (nI 0)), (4, .int (nI 0)), (0, .ref 22), (1, .int (nI l1)), (2, .int l2), (3, .int (nI l3))]) rfl rfl rfl ?_
          exact p_R_add_112 L xs d Q l1 l2 l3 0 (dN M2008 7 (M2001.1 7 + r2009 - r2007)) h
    · replace h := h.2 k2012
      refine xG.seg 8 (f' := (103, [(5, .int (nI (M2001.1 7 + r2009 - r2007) - nI 3)), (4, .int (nI 0)), (0, .ref 22), (1, .int (nI l1)), (2, .int l2), (3, .int (nI l3))], [.int (nI 45), .int (nI l1)])) (x1 := (dN M2008 7 (M2001.1 7 + r2009 - r2007))) (fun _ => rfl) ?_
      obtain ⟨c2023, h⟩ := h
      refine xG.icmp (t := 112) (A := l1 = 45) rfl rfl (xe_c (xt_N c2023) (show ((nI 45) : Int32).toInt = 45 from by decide) (by dsimp only; omega)) (fun k2024 => ?_) (fun k2024 => ?_)
      · replace h := h.1 k2024
        refine xG.lv (lv := [(0, .ref 22), (1, .int (nI l1)), (2, .int l2), (3, .int (nI l3)), (4, .int (nI 0))]) (lv' := [(5, .int (nI (M2001.1 7 + r2009 - r2007) - nI 3)), (4, .int (nI 0)), (0, .ref 22), (1, .int (nI l1)), (2, .int l2), (3, .int (nI l3))]) rfl rfl rfl ?_
        exact p_R_add_112 L xs d Q l1 l2 l3 0 (dN M2008 7 (M2001.1 7 + r2009 - r2007)) h
      · replace h := h.2 k2024
        refine xG.seg 2 (f' := (109, [(5, .int (nI (M2001.1 7 + r2009 - r2007) - nI 3)), (4, .int (nI 0)), (0, .ref 22), (1, .int (nI l1)), (2, .int l2), (3, .int (nI l3))], [.int (nI 47), .int (nI l1)])) (x1 := (dN M2008 7 (M2001.1 7 + r2009 - r2007))) (fun _ => rfl) ?_
        obtain ⟨c2025, h⟩ := h
        refine xG.icmp (t := 119) (A := ¬ (l1 = 47)) rfl rfl (xe_c (xt_N c2025) (show ((nI 47) : Int32).toInt = 47 from by decide) (by dsimp only; omega)) (fun k2026 => ?_) (fun k2026 => ?_)
        · replace h := h.2 k2026
          refine xG.seg 7 (f' := (131, [(5, .int (nI (M2001.1 7 + r2009 - r2007) - nI 3)), (4, .int (nI 0)), (0, .ref 22), (1, .int (nI l1)), (2, .int l2), (3, .int (nI l3))], [.int ((nI (M2001.1 7 + r2009 - r2007)) - (nI (M2001.1 7 + r2009 - r2007) - nI 3)), .ref 22])) (x1 := (dN M2008 7 (M2001.1 7 + r2009 - r2007))) (fun _ => rfl) ?_
          refine xG.conv (xe_nsz _ _ _) ?_
          refine xG.eqf (f' := (131, [(5, .int (nI (M2001.1 7 + r2009 - r2007) - nI 3)), (4, .int (nI 0)), (0, .ref 22), (1, .int (nI l1)), (2, .int l2), (3, .int (nI l3))], [.int (nI ((M2001.1 7 + r2009 - r2007) + 3) - nI (M2001.1 7 + r2009 - r2007)), .ref 22])) rfl ?_
          obtain ⟨c2027, h⟩ := h
          refine xG.conv (xe_cut c2027) ?_
          refine xG.seg 5 (f' := (141, [(5, .int (nI (M2001.1 7 + r2009 - r2007) - nI 3)), (4, .int (nI 0)), (0, .ref 22), (1, .int (nI l1)), (2, .int l2), (3, .int (nI l3))], [.int ((nI 60) * (nI (M2008.1 4)))])) (x1 := (dN M2008 7 ((M2001.1 7 + r2009 - r2007) + 3 - (M2001.1 7 + r2009 - r2007)))) (fun _ => rfl) ?_
          refine xG.conv (xe_mul _ _) ?_
          refine xG.seg 2 (f' := (143, [(5, .int (nI (M2001.1 7 + r2009 - r2007) - nI 3)), (4, .int (nI 0)), (0, .ref 22), (1, .int (nI l1)), (2, .int l2), (3, .int (nI l3))], [.int ((nI (60 * (M2008.1 4))) + (nI l3))])) (x1 := (dN M2008 7 ((M2001.1 7 + r2009 - r2007) + 3 - (M2001.1 7 + r2009 - r2007)))) (fun _ => rfl) ?_
          refine xG.conv (xe_add (60 * (M2008.1 4)) l3) ?_
          refine xG.eqf (f' := (143, [(5, .int (nI (M2001.1 7 + r2009 - r2007) - nI 3)), (4, .int (nI 0)), (0, .ref 22), (1, .int (nI l1)), (2, .int l2), (3, .int (nI l3))], [.int (nI (60 * (M2008.1 4) + l3))])) rfl ?_
          refine xG.seg 5 (f' := (152, [(6, .int (nI (60 * (M2008.1 4) + l3))), (5, .int (nI (M2001.1 7 + r2009 - r2007) - nI 3)), (4, .int (nI 0)), (0, .ref 22), (1, .int (nI l1)), (2, .int l2), (3, .int (nI l3))], [.int (nI l1), .int (nI (60 * (M2008.1 4) + l3)), .ref 26])) (x1 := (dN M2008 7 ((M2001.1 7 + r2009 - r2007) + 3 - (M2001.1 7 + r2009 - r2007)))) (fun _ => rfl) ?_
          obtain ⟨c2028, h⟩ := h
          refine xG.iast (x1 := (dB (dN M2008 7 ((M2001.1 7 + r2009 - r2007) + 3 - (M2001.1 7 + r2009 - r2007))) 2 (60 * (M2008.1 4) + l3) l1)) rfl (by decide) (fun _ => rfl) (by decide) c2028 (fun _ => by rw [xu_nI]; rfl) ?_
          refine xG.eqf (f' := (153, [(6, .int (nI (60 * (M2008.1 4) + l3))), (5, .int (nI (M2001.1 7 + r2009 - r2007) - nI 3)), (4, .int (nI 0)), (0, .ref 22), (1, .int (nI l1)), (2, .int l2), (3, .int (nI l3))], [])) rfl ?_
          refine xG.seg 4 (f' := (160, [(6, .int (nI (60 * (M2008.1 4) + l3))), (5, .int (nI (M2001.1 7 + r2009 - r2007) - nI 3)), (4, .int (nI 0)), (0, .ref 22), (1, .int (nI l1)), (2, .int l2), (3, .int (nI l3))], [.int l2, .int (nI (60 * (M2008.1 4) + l3)), .ref 27])) (x1 := (dB (dN M2008 7 ((M2001.1 7 + r2009 - r2007) + 3 - (M2001.1 7 + r2009 - r2007))) 2 (60 * (M2008.1 4) + l3) l1)) (fun _ => rfl) ?_
          obtain ⟨c2029, h⟩ := h
          refine xG.iast (x1 := (dA (dB (dN M2008 7 ((M2001.1 7 + r2009 - r2007) + 3 - (M2001.1 7 + r2009 - r2007))) 2 (60 * (M2008.1 4) + l3) l1) 0 (60 * (M2008.1 4) + l3) l2)) rfl (by decide) (fun _ => rfl) (by decide) c2029 (fun _ => rfl) ?_
          refine xG.eqf (f' := (161, [(6, .int (nI (60 * (M2008.1 4) + l3))), (5, .int (nI (M2001.1 7 + r2009 - r2007) - nI 3)), (4, .int (nI 0)), (0, .ref 22), (1, .int (nI l1)), (2, .int l2), (3, .int (nI l3))], [])) rfl ?_
          refine xG.seg 6 (f' := (172, [(6, .int (nI (60 * (M2008.1 4) + l3))), (5, .int (nI (M2001.1 7 + r2009 - r2007) - nI 3)), (4, .int (nI 0)), (0, .ref 22), (1, .int (nI l1)), (2, .int l2), (3, .int (nI l3))], [.int ((nI 16) * (nI 0)), .int (nI (60 * (M2008.1 4) + l3)), .ref 28])) (x1 := (dA (dB (dN M2008 7 ((M2001.1 7 + r2009 - r2007) + 3 - (M2001.1 7 + r2009 - r2007))) 2 (60 * (M2008.1 4) + l3) l1) 0 (60 * (M2008.1 4) + l3) l2)) (fun _ => rfl) ?_
          refine xG.conv (xe_mul _ _) ?_
          refine xG.seg 2 (f' := (175, [(6, .int (nI (60 * (M2008.1 4) + l3))), (5, .int (nI (M2001.1 7 + r2009 - r2007) - nI 3)), (4, .int (nI 0)), (0, .ref 22), (1, .int (nI l1)), (2, .int l2), (3, .int (nI l3))], [.int ((nI (16 * 0)) + (nI (M2001.1 7 + r2009 - r2007) - nI 3)), .int (nI (60 * (M2008.1 4) + l3)), .ref 28])) (x1 := (dA (dB (dN M2008 7 ((M2001.1 7 + r2009 - r2007) + 3 - (M2001.1 7 + r2009 - r2007))) 2 (60 * (M2008.1 4) + l3) l1) 0 (60 * (M2008.1 4) + l3) l2)) (fun _ => rfl) ?_
          refine xG.conv (xe_nz _ _ _) ?_
          refine xG.eqf (f' := (175, [(6, .int (nI (60 * (M2008.1 4) + l3))), (5, .int (nI (M2001.1 7 + r2009 - r2007) - nI 3)), (4, .int (nI 0)), (0, .ref 22), (1, .int (nI l1)), (2, .int l2), (3, .int (nI l3))], [.int (nI (16 * 0 + (M2001.1 7 + r2009 - r2007)) - nI 3), .int (nI (60 * (M2008.1 4) + l3)), .ref 28])) rfl ?_
          obtain ⟨c2030, h⟩ := h
          refine xG.conv (xe_cut c2030) ?_
          obtain ⟨c2031, h⟩ := h
          refine xG.iast (x1 := (dB (dA (dB (dN M2008 7 ((M2001.1 7 + r2009 - r2007) + 3 - (M2001.1 7 + r2009 - r2007))) 2 (60 * (M2008.1 4) + l3) l1) 0 (60 * (M2008.1 4) + l3) l2) 3 (60 * (M2008.1 4) + l3) (16 * 0 + (M2001.1 7 + r2009 - r2007) - 3))) rfl (by decide) (fun _ => rfl) (by decide) c2031 (fun _ => by rw [xu_nI]; rfl) ?_
          refine xG.eqf (f' := (176, [(6, .int (nI (60 * (M2008.1 4) + l3))), (5, .int (nI (M2001.1 7 + r2009 - r2007) - nI 3)), (4, .int (nI 0)), (0, .ref 22), (1, .int (nI l1)), (2, .int l2), (3, .int (nI l3))], [])) rfl ?_
          refine xG.seg 5 (f' := (185, [(6, .int (nI (60 * (M2008.1 4) + l3))), (5, .int (nI (M2001.1 7 + r2009 - r2007) - nI 3)), (4, .int (nI 0)), (0, .ref 22), (1, .int (nI l1)), (2, .int l2), (3, .int (nI l3))], [.int (nI (M2008.1 4)), .ref 25, .int (nI (M2008.1 4)), .ref 25])) (x1 := (dB (dA (dB (dN M2008 7 ((M2001.1 7 + r2009 - r2007) + 3 - (M2001.1 7 + r2009 - r2007))) 2 (60 * (M2008.1 4) + l3) l1) 0 (60 * (M2008.1 4) + l3) l2) 3 (60 * (M2008.1 4) + l3) (16 * 0 + (M2001.1 7 + r2009 - r2007) - 3))) (fun _ => rfl) ?_
          obtain ⟨c2032, h⟩ := h
          refine xG.iald rfl (Or.inl ⟨rfl, rfl⟩) (by decide) (fun _ => rfl) (by decide) c2032 ?_
          refine xG.eqf (f' := (186, [(6, .int (nI (60 * (M2008.1 4) + l3))), (5, .int (nI (M2001.1 7 + r2009 - r2007) - nI 3)), (4, .int (nI 0)), (0, .ref 22), (1, .int (nI l1)), (2, .int l2), (3, .int (nI l3))], [.int (nI (M2008.2.1 1 (M2008.1 4))), .int (nI (M2008.1 4)), .ref 25])) rfl ?_
          refine xG.seg 2 (f' := (188, [(6, .int (nI (60 * (M2008.1 4) + l3))), (5, .int (nI (M2001.1 7 + r2009 - r2007) - nI 3)), (4, .int (nI 0)), (0, .ref 22), (1, .int (nI l1)), (2, .int l2), (3, .int (nI l3))], [.int ((nI (M2008.2.1 1 (M2008.1 4))) + (nI 1)), .int (nI (M2008.1 4)), .ref 25])) (x1 := (dB (dA (dB (dN M2008 7 ((M2001.1 7 + r2009 - r2007) + 3 - (M2001.1 7 + r2009 - r2007))) 2 (60 * (M2008.1 4) + l3) l1) 0 (60 * (M2008.1 4) + l3) l2) 3 (60 * (M2008.1 4) + l3) (16 * 0 + (M2001.1 7 + r2009 - r2007) - 3))) (fun _ => rfl) ?_
          refine xG.conv (xe_add (M2008.2.1 1 (M2008.1 4)) 1) ?_
          refine xG.eqf (f' := (188, [(6, .int (nI (60 * (M2008.1 4) + l3))), (5, .int (nI (M2001.1 7 + r2009 - r2007) - nI 3)), (4, .int (nI 0)), (0, .ref 22), (1, .int (nI l1)), (2, .int l2), (3, .int (nI l3))], [.int (nI (M2008.2.1 1 (M2008.1 4) + 1)), .int (nI (M2008.1 4)), .ref 25])) rfl ?_
          obtain ⟨c2033, h⟩ := h
          refine xG.iast (x1 := (dB (dB (dA (dB (dN M2008 7 ((M2001.1 7 + r2009 - r2007) + 3 - (M2001.1 7 + r2009 - r2007))) 2 (60 * (M2008.1 4) + l3) l1) 0 (60 * (M2008.1 4) + l3) l2) 3 (60 * (M2008.1 4) + l3) (16 * 0 + (M2001.1 7 + r2009 - r2007) - 3)) 1 (M2008.1 4) (M2008.2.1 1 (M2008.1 4) + 1))) rfl (by decide) (fun _ => rfl) (by decide) c2033 (fun _ => by rw [xu_nI]; rfl) ?_
          refine xG.eqf (f' := (189, [(6, .int (nI (60 * (M2008.1 4) + l3))), (5, .int (nI (M2001.1 7 + r2009 - r2007) - nI 3)), (4, .int (nI 0)), (0, .ref 22), (1, .int (nI l1)), (2, .int l2), (3, .int (nI l3))], [])) rfl ?_
          exact xG.fin (fun _ => rfl) (⟨rfl, h⟩)
        · replace h := h.1 (Classical.not_not.mp k2026)
          refine xG.lv (lv := [(0, .ref 22), (1, .int (nI l1)), (2, .int l2), (3, .int (nI l3)), (4, .int (nI 0))]) (lv' := [(5, .int (nI (M2001.1 7 + r2009 - r2007) - nI 3)), (4, .int (nI 0)), (0, .ref 22), (1, .int (nI l1)), (2, .int l2), (3, .int (nI l3))]) rfl rfl rfl ?_
          exact p_R_add_112 L xs d Q l1 l2 l3 0 (dN M2008 7 (M2001.1 7 + r2009 - r2007)) h
  · replace h := h.2 k2005
    refine xG.seg 1 (f' := (45, [(0, .ref 22), (1, .int (nI l1)), (2, .int l2), (3, .int (nI l3))], [.int (nI l1)])) (x1 := M2001) (fun _ => rfl) ?_
    refine xG.call (d := d) (vs := [.int (nI l1)]) (g := (45, [(0, .ref 22), (1, .int (nI l1)), (2, .int l2), (3, .int (nI l3))], [])) (fun _ => rfl) rfl (p_R_takes L xs d l1 M2001 _ h) ?_
    clear h
    rintro _ M2034 ⟨r2035, rfl, h⟩
    refine ⟨_, rfl, ?_⟩
    refine xG.eqf (f' := (48, [(0, .ref 22), (1, .int (nI l1)), (2, .int l2), (3, .int (nI l3))], [.int (nI r2035)])) rfl ?_
    refine xG.seg 10 (f' := (67, [(4, .int (nI r2035 - nI (M2034.1 7))), (0, .ref 22), (1, .int (nI l1)), (2, .int l2), (3, .int (nI l3))], [.int ((nI (M2034.1 7)) + (nI r2035 - nI (M2034.1 7))), .ref 22])) (x1 := M2034) (fun _ => rfl) ?_
    refine xG.conv (xe_nz _ _ _) ?_
    refine xG.eqf (f' := (67, [(4, .int (nI r2035 - nI (M2034.1 7))), (0, .ref 22), (1, .int (nI l1)), (2, .int l2), (3, .int (nI l3))], [.int (nI (M2034.1 7 + r2035) - nI (M2034.1 7)), .ref 22])) rfl ?_
    refine xG.seg 1 (f' := (68, [(4, .int (nI r2035 - nI (M2034.1 7))), (0, .ref 22), (1, .int (nI l1)), (2, .int l2), (3, .int (nI l3))], [.int (nI l1), .int (nI (M2034.1 7 + r2035) - nI (M2034.1 7)), .ref 22])) (x1 := M2034) (fun _ => rfl) ?_
    refine xG.call (d := d) (vs := [.int (nI l1)]) (g := (68, [(4, .int (nI r2035 - nI (M2034.1 7))), (0, .ref 22), (1, .int (nI l1)), (2, .int l2), (3, .int (nI l3))], [.int (nI (M2034.1 7 + r2035) - nI (M2034.1 7)), .ref 22])) (fun _ => rfl) rfl (p_R_takes L xs d l1 M2034 _ h) ?_
    clear h
    rintro _ M2036 ⟨r2037, rfl, h⟩
    refine ⟨_, rfl, ?_⟩
    refine xG.eqf (f' := (71, [(4, .int (nI r2035 - nI (M2034.1 7))), (0, .ref 22), (1, .int (nI l1)), (2, .int l2), (3, .int (nI l3))], [.int (nI r2037), .int (nI (M2034.1 7 + r2035) - nI (M2034.1 7)), .ref 22])) rfl ?_
    refine xG.seg 1 (f' := (72, [(4, .int (nI r2035 - nI (M2034.1 7))), (0, .ref 22), (1, .int (nI l1)), (2, .int l2), (3, .int (nI l3))], [.int ((nI (M2034.1 7 + r2035) - nI (M2034.1 7)) - (nI r2037)), .ref 22])) (x1 := M2036) (fun _ => rfl) ?_
    refine xG.conv (xe_zsn _ _ _) ?_
    refine xG.eqf (f' := (72, [(4, .int (nI r2035 - nI (M2034.1 7))), (0, .ref 22), (1, .int (nI l1)), (2, .int l2), (3, .int (nI l3))], [.int (nI (M2034.1 7 + r2035) - nI (M2034.1 7 + r2037)), .ref 22])) rfl ?_
    refine xG.seg 1 (f' := (73, [(4, .int (nI r2035 - nI (M2034.1 7))), (0, .ref 22), (1, .int (nI l1)), (2, .int l2), (3, .int (nI l3))], [.int (nI l1), .int (nI (M2034.1 7 + r2035) - nI (M2034.1 7 + r2037)), .ref 22])) (x1 := M2036) (fun _ => rfl) ?_
    refine xG.call (d := d) (vs := [.int (nI l1)]) (g := (73, [(4, .int (nI r2035 - nI (M2034.1 7))), (0, .ref 22), (1, .int (nI l1)), (2, .int l2), (3, .int (nI l3))], [.int (nI (M2034.1 7 + r2035) - nI (M2034.1 7 + r2037)), .ref 22])) (fun _ => rfl) rfl (p_R_gives L xs d l1 M2036 _ h) ?_
    clear h
    rintro _ M2038 ⟨r2039, rfl, h⟩
    refine ⟨_, rfl, ?_⟩
    refine xG.eqf (f' := (76, [(4, .int (nI r2035 - nI (M2034.1 7))), (0, .ref 22), (1, .int (nI l1)), (2, .int l2), (3, .int (nI l3))], [.int (nI r2039), .int (nI (M2034.1 7 + r2035) - nI (M2034.1 7 + r2037)), .ref 22])) rfl ?_
    refine xG.seg 1 (f' := (77, [(4, .int (nI r2035 - nI (M2034.1 7))), (0, .ref 22), (1, .int (nI l1)), (2, .int l2), (3, .int (nI l3))], [.int ((nI (M2034.1 7 + r2035) - nI (M2034.1 7 + r2037)) + (nI r2039)), .ref 22])) (x1 := M2038) (fun _ => rfl) ?_
    refine xG.conv (xe_zn _ _ _) ?_
    refine xG.eqf (f' := (77, [(4, .int (nI r2035 - nI (M2034.1 7))), (0, .ref 22), (1, .int (nI l1)), (2, .int l2), (3, .int (nI l3))], [.int (nI (M2034.1 7 + r2035 + r2039) - nI (M2034.1 7 + r2037)), .ref 22])) rfl ?_
    obtain ⟨c2040, h⟩ := h
    refine xG.conv (xe_cut c2040) ?_
    refine xG.seg 4 (f' := (85, [(4, .int (nI r2035 - nI (M2034.1 7))), (0, .ref 22), (1, .int (nI l1)), (2, .int l2), (3, .int (nI l3))], [.int (nI 3), .int (nI (M2034.1 7 + r2035 + r2039 - (M2034.1 7 + r2037)))])) (x1 := (dN M2038 7 (M2034.1 7 + r2035 + r2039 - (M2034.1 7 + r2037)))) (fun _ => rfl) ?_
    obtain ⟨c2041, h⟩ := h
    refine xG.icmp (t := 97) (A := M2034.1 7 + r2035 + r2039 - (M2034.1 7 + r2037) ≤ 3) rfl rfl (xe_c (xt_N c2041) (show ((nI 3) : Int32).toInt = 3 from by decide) (by dsimp only; omega)) (fun k2042 => ?_) (fun k2042 => ?_)
    · replace h := h.1 k2042
      refine xG.seg 4 (f' := (103, [(5, .int (nI 0)), (4, .int (nI r2035 - nI (M2034.1 7))), (0, .ref 22), (1, .int (nI l1)), (2, .int l2), (3, .int (nI l3))], [.int (nI 45), .int (nI l1)])) (x1 := (dN M2038 7 (M2034.1 7 + r2035 + r2039 - (M2034.1 7 + r2037)))) (fun _ => rfl) ?_
      obtain ⟨c2043, h⟩ := h
      refine xG.icmp (t := 112) (A := l1 = 45) rfl rfl (xe_c (xt_N c2043) (show ((nI 45) : Int32).toInt = 45 from by decide) (by dsimp only; omega)) (fun k2044 => ?_) (fun k2044 => ?_)
      · replace h := h.1 k2044
        obtain ⟨c2045, h⟩ := h
        refine xG.eqf (f' := (112, [(5, .int (nI 0)), (4, .int (nI (r2035 - (M2034.1 7)))), (0, .ref 22), (1, .int (nI l1)), (2, .int l2), (3, .int (nI l3))], [])) (by rw [xe_cut c2045]) ?_
        refine xG.lv (lv := [(0, .ref 22), (1, .int (nI l1)), (2, .int l2), (3, .int (nI l3)), (4, .int (nI (r2035 - (M2034.1 7))))]) (lv' := [(5, .int (nI 0)), (4, .int (nI (r2035 - (M2034.1 7)))), (0, .ref 22), (1, .int (nI l1)), (2, .int l2), (3, .int (nI l3))]) rfl rfl rfl ?_
        exact p_R_add_112 L xs d Q l1 l2 l3 (r2035 - (M2034.1 7)) (dN M2038 7 (M2034.1 7 + r2035 + r2039 - (M2034.1 7 + r2037))) h
      · replace h := h.2 k2044
        refine xG.seg 2 (f' := (109, [(5, .int (nI 0)), (4, .int (nI r2035 - nI (M2034.1 7))), (0, .ref 22), (1, .int (nI l1)), (2, .int l2), (3, .int (nI l3))], [.int (nI 47), .int (nI l1)])) (x1 := (dN M2038 7 (M2034.1 7 + r2035 + r2039 - (M2034.1 7 + r2037)))) (fun _ => rfl) ?_
        obtain ⟨c2046, h⟩ := h
        refine xG.icmp (t := 119) (A := ¬ (l1 = 47)) rfl rfl (xe_c (xt_N c2046) (show ((nI 47) : Int32).toInt = 47 from by decide) (by dsimp only; omega)) (fun k2047 => ?_) (fun k2047 => ?_)
        · replace h := h.2 k2047
          refine xG.seg 7 (f' := (131, [(5, .int (nI 0)), (4, .int (nI r2035 - nI (M2034.1 7))), (0, .ref 22), (1, .int (nI l1)), (2, .int l2), (3, .int (nI l3))], [.int (nI (M2034.1 7 + r2035 + r2039 - (M2034.1 7 + r2037)) - nI 0), .ref 22])) (x1 := (dN M2038 7 (M2034.1 7 + r2035 + r2039 - (M2034.1 7 + r2037)))) (fun _ => rfl) ?_
          obtain ⟨c2048, h⟩ := h
          refine xG.conv (xe_cut c2048) ?_
          refine xG.seg 5 (f' := (141, [(5, .int (nI 0)), (4, .int (nI r2035 - nI (M2034.1 7))), (0, .ref 22), (1, .int (nI l1)), (2, .int l2), (3, .int (nI l3))], [.int ((nI 60) * (nI (M2038.1 4)))])) (x1 := (dN M2038 7 (M2034.1 7 + r2035 + r2039 - (M2034.1 7 + r2037) - 0))) (fun _ => rfl) ?_
          refine xG.conv (xe_mul _ _) ?_
          refine xG.seg 2 (f' := (143, [(5, .int (nI 0)), (4, .int (nI r2035 - nI (M2034.1 7))), (0, .ref 22), (1, .int (nI l1)), (2, .int l2), (3, .int (nI l3))], [.int ((nI (60 * (M2038.1 4))) + (nI l3))])) (x1 := (dN M2038 7 (M2034.1 7 + r2035 + r2039 - (M2034.1 7 + r2037) - 0))) (fun _ => rfl) ?_
          refine xG.conv (xe_add (60 * (M2038.1 4)) l3) ?_
          refine xG.eqf (f' := (143, [(5, .int (nI 0)), (4, .int (nI r2035 - nI (M2034.1 7))), (0, .ref 22), (1, .int (nI l1)), (2, .int l2), (3, .int (nI l3))], [.int (nI (60 * (M2038.1 4) + l3))])) rfl ?_
          refine xG.seg 5 (f' := (152, [(6, .int (nI (60 * (M2038.1 4) + l3))), (5, .int (nI 0)), (4, .int (nI r2035 - nI (M2034.1 7))), (0, .ref 22), (1, .int (nI l1)), (2, .int l2), (3, .int (nI l3))], [.int (nI l1), .int (nI (60 * (M2038.1 4) + l3)), .ref 26])) (x1 := (dN M2038 7 (M2034.1 7 + r2035 + r2039 - (M2034.1 7 + r2037) - 0))) (fun _ => rfl) ?_
          obtain ⟨c2049, h⟩ := h
          refine xG.iast (x1 := (dB (dN M2038 7 (M2034.1 7 + r2035 + r2039 - (M2034.1 7 + r2037) - 0)) 2 (60 * (M2038.1 4) + l3) l1)) rfl (by decide) (fun _ => rfl) (by decide) c2049 (fun _ => by rw [xu_nI]; rfl) ?_
          refine xG.eqf (f' := (153, [(6, .int (nI (60 * (M2038.1 4) + l3))), (5, .int (nI 0)), (4, .int (nI r2035 - nI (M2034.1 7))), (0, .ref 22), (1, .int (nI l1)), (2, .int l2), (3, .int (nI l3))], [])) rfl ?_
          refine xG.seg 4 (f' := (160, [(6, .int (nI (60 * (M2038.1 4) + l3))), (5, .int (nI 0)), (4, .int (nI r2035 - nI (M2034.1 7))), (0, .ref 22), (1, .int (nI l1)), (2, .int l2), (3, .int (nI l3))], [.int l2, .int (nI (60 * (M2038.1 4) + l3)), .ref 27])) (x1 := (dB (dN M2038 7 (M2034.1 7 + r2035 + r2039 - (M2034.1 7 + r2037) - 0)) 2 (60 * (M2038.1 4) + l3) l1)) (fun _ => rfl) ?_
          obtain ⟨c2050, h⟩ := h
          refine xG.iast (x1 := (dA (dB (dN M2038 7 (M2034.1 7 + r2035 + r2039 - (M2034.1 7 + r2037) - 0)) 2 (60 * (M2038.1 4) + l3) l1) 0 (60 * (M2038.1 4) + l3) l2)) rfl (by decide) (fun _ => rfl) (by decide) c2050 (fun _ => rfl) ?_
          refine xG.eqf (f' := (161, [(6, .int (nI (60 * (M2038.1 4) + l3))), (5, .int (nI 0)), (4, .int (nI r2035 - nI (M2034.1 7))), (0, .ref 22), (1, .int (nI l1)), (2, .int l2), (3, .int (nI l3))], [])) rfl ?_
          refine xG.seg 5 (f' := (171, [(6, .int (nI (60 * (M2038.1 4) + l3))), (5, .int (nI 0)), (4, .int (nI r2035 - nI (M2034.1 7))), (0, .ref 22), (1, .int (nI l1)), (2, .int l2), (3, .int (nI l3))], [.int (nI r2035 - nI (M2034.1 7)), .int (nI 16), .int (nI (60 * (M2038.1 4) + l3)), .ref 28])) (x1 := (dA (dB (dN M2038 7 (M2034.1 7 + r2035 + r2039 - (M2034.1 7 + r2037) - 0)) 2 (60 * (M2038.1 4) + l3) l1) 0 (60 * (M2038.1 4) + l3) l2)) (fun _ => rfl) ?_
          obtain ⟨c2051, h⟩ := h
          refine xG.conv (xe_cut c2051) ?_
          refine xG.seg 1 (f' := (172, [(6, .int (nI (60 * (M2038.1 4) + l3))), (5, .int (nI 0)), (4, .int (nI r2035 - nI (M2034.1 7))), (0, .ref 22), (1, .int (nI l1)), (2, .int l2), (3, .int (nI l3))], [.int ((nI 16) * (nI (r2035 - (M2034.1 7)))), .int (nI (60 * (M2038.1 4) + l3)), .ref 28])) (x1 := (dA (dB (dN M2038 7 (M2034.1 7 + r2035 + r2039 - (M2034.1 7 + r2037) - 0)) 2 (60 * (M2038.1 4) + l3) l1) 0 (60 * (M2038.1 4) + l3) l2)) (fun _ => rfl) ?_
          refine xG.conv (xe_mul _ _) ?_
          refine xG.seg 2 (f' := (175, [(6, .int (nI (60 * (M2038.1 4) + l3))), (5, .int (nI 0)), (4, .int (nI r2035 - nI (M2034.1 7))), (0, .ref 22), (1, .int (nI l1)), (2, .int l2), (3, .int (nI l3))], [.int ((nI (16 * (r2035 - (M2034.1 7)))) + (nI 0)), .int (nI (60 * (M2038.1 4) + l3)), .ref 28])) (x1 := (dA (dB (dN M2038 7 (M2034.1 7 + r2035 + r2039 - (M2034.1 7 + r2037) - 0)) 2 (60 * (M2038.1 4) + l3) l1) 0 (60 * (M2038.1 4) + l3) l2)) (fun _ => rfl) ?_
          refine xG.conv (xe_add (16 * (r2035 - (M2034.1 7))) 0) ?_
          refine xG.eqf (f' := (175, [(6, .int (nI (60 * (M2038.1 4) + l3))), (5, .int (nI 0)), (4, .int (nI r2035 - nI (M2034.1 7))), (0, .ref 22), (1, .int (nI l1)), (2, .int l2), (3, .int (nI l3))], [.int (nI (16 * (r2035 - (M2034.1 7)))), .int (nI (60 * (M2038.1 4) + l3)), .ref 28])) rfl ?_
          obtain ⟨c2052, h⟩ := h
          refine xG.iast (x1 := (dB (dA (dB (dN M2038 7 (M2034.1 7 + r2035 + r2039 - (M2034.1 7 + r2037) - 0)) 2 (60 * (M2038.1 4) + l3) l1) 0 (60 * (M2038.1 4) + l3) l2) 3 (60 * (M2038.1 4) + l3) (16 * (r2035 - (M2034.1 7))))) rfl (by decide) (fun _ => rfl) (by decide) c2052 (fun _ => by rw [xu_nI]; rfl) ?_
          refine xG.eqf (f' := (176, [(6, .int (nI (60 * (M2038.1 4) + l3))), (5, .int (nI 0)), (4, .int (nI r2035 - nI (M2034.1 7))), (0, .ref 22), (1, .int (nI l1)), (2, .int l2), (3, .int (nI l3))], [])) rfl ?_
          refine xG.seg 5 (f' := (185, [(6, .int (nI (60 * (M2038.1 4) + l3))), (5, .int (nI 0)), (4, .int (nI r2035 - nI (M2034.1 7))), (0, .ref 22), (1, .int (nI l1)), (2, .int l2), (3, .int (nI l3))], [.int (nI (M2038.1 4)), .ref 25, .int (nI (M2038.1 4)), .ref 25])) (x1 := (dB (dA (dB (dN M2038 7 (M2034.1 7 + r2035 + r2039 - (M2034.1 7 + r2037) - 0)) 2 (60 * (M2038.1 4) + l3) l1) 0 (60 * (M2038.1 4) + l3) l2) 3 (60 * (M2038.1 4) + l3) (16 * (r2035 - (M2034.1 7))))) (fun _ => rfl) ?_
          obtain ⟨c2053, h⟩ := h
          refine xG.iald rfl (Or.inl ⟨rfl, rfl⟩) (by decide) (fun _ => rfl) (by decide) c2053 ?_
          refine xG.eqf (f' := (186, [(6, .int (nI (60 * (M2038.1 4) + l3))), (5, .int (nI 0)), (4, .int (nI r2035 - nI (M2034.1 7))), (0, .ref 22), (1, .int (nI l1)), (2, .int l2), (3, .int (nI l3))], [.int (nI (M2038.2.1 1 (M2038.1 4))), .int (nI (M2038.1 4)), .ref 25])) rfl ?_
          refine xG.seg 2 (f' := (188, [(6, .int (nI (60 * (M2038.1 4) + l3))), (5, .int (nI 0)), (4, .int (nI r2035 - nI (M2034.1 7))), (0, .ref 22), (1, .int (nI l1)), (2, .int l2), (3, .int (nI l3))], [.int ((nI (M2038.2.1 1 (M2038.1 4))) + (nI 1)), .int (nI (M2038.1 4)), .ref 25])) (x1 := (dB (dA (dB (dN M2038 7 (M2034.1 7 + r2035 + r2039 - (M2034.1 7 + r2037) - 0)) 2 (60 * (M2038.1 4) + l3) l1) 0 (60 * (M2038.1 4) + l3) l2) 3 (60 * (M2038.1 4) + l3) (16 * (r2035 - (M2034.1 7))))) (fun _ => rfl) ?_
          refine xG.conv (xe_add (M2038.2.1 1 (M2038.1 4)) 1) ?_
          refine xG.eqf (f' := (188, [(6, .int (nI (60 * (M2038.1 4) + l3))), (5, .int (nI 0)), (4, .int (nI r2035 - nI (M2034.1 7))), (0, .ref 22), (1, .int (nI l1)), (2, .int l2), (3, .int (nI l3))], [.int (nI (M2038.2.1 1 (M2038.1 4) + 1)), .int (nI (M2038.1 4)), .ref 25])) rfl ?_
          obtain ⟨c2054, h⟩ := h
          refine xG.iast (x1 := (dB (dB (dA (dB (dN M2038 7 (M2034.1 7 + r2035 + r2039 - (M2034.1 7 + r2037) - 0)) 2 (60 * (M2038.1 4) + l3) l1) 0 (60 * (M2038.1 4) + l3) l2) 3 (60 * (M2038.1 4) + l3) (16 * (r2035 - (M2034.1 7)))) 1 (M2038.1 4) (M2038.2.1 1 (M2038.1 4) + 1))) rfl (by decide) (fun _ => rfl) (by decide) c2054 (fun _ => by rw [xu_nI]; rfl) ?_
          refine xG.eqf (f' := (189, [(6, .int (nI (60 * (M2038.1 4) + l3))), (5, .int (nI 0)), (4, .int (nI r2035 - nI (M2034.1 7))), (0, .ref 22), (1, .int (nI l1)), (2, .int l2), (3, .int (nI l3))], [])) rfl ?_
          exact xG.fin (fun _ => rfl) (⟨rfl, h⟩)
        · replace h := h.1 (Classical.not_not.mp k2047)
          obtain ⟨c2055, h⟩ := h
          refine xG.eqf (f' := (112, [(5, .int (nI 0)), (4, .int (nI (r2035 - (M2034.1 7)))), (0, .ref 22), (1, .int (nI l1)), (2, .int l2), (3, .int (nI l3))], [])) (by rw [xe_cut c2055]) ?_
          refine xG.lv (lv := [(0, .ref 22), (1, .int (nI l1)), (2, .int l2), (3, .int (nI l3)), (4, .int (nI (r2035 - (M2034.1 7))))]) (lv' := [(5, .int (nI 0)), (4, .int (nI (r2035 - (M2034.1 7)))), (0, .ref 22), (1, .int (nI l1)), (2, .int l2), (3, .int (nI l3))]) rfl rfl rfl ?_
          exact p_R_add_112 L xs d Q l1 l2 l3 (r2035 - (M2034.1 7)) (dN M2038 7 (M2034.1 7 + r2035 + r2039 - (M2034.1 7 + r2037))) h
    · replace h := h.2 k2042
      refine xG.seg 8 (f' := (103, [(5, .int (nI (M2034.1 7 + r2035 + r2039 - (M2034.1 7 + r2037)) - nI 3)), (4, .int (nI r2035 - nI (M2034.1 7))), (0, .ref 22), (1, .int (nI l1)), (2, .int l2), (3, .int (nI l3))], [.int (nI 45), .int (nI l1)])) (x1 := (dN M2038 7 (M2034.1 7 + r2035 + r2039 - (M2034.1 7 + r2037)))) (fun _ => rfl) ?_
      obtain ⟨c2056, h⟩ := h
      refine xG.icmp (t := 112) (A := l1 = 45) rfl rfl (xe_c (xt_N c2056) (show ((nI 45) : Int32).toInt = 45 from by decide) (by dsimp only; omega)) (fun k2057 => ?_) (fun k2057 => ?_)
      · replace h := h.1 k2057
        obtain ⟨c2058, h⟩ := h
        refine xG.eqf (f' := (112, [(5, .int (nI (M2034.1 7 + r2035 + r2039 - (M2034.1 7 + r2037)) - nI 3)), (4, .int (nI (r2035 - (M2034.1 7)))), (0, .ref 22), (1, .int (nI l1)), (2, .int l2), (3, .int (nI l3))], [])) (by rw [xe_cut c2058]) ?_
        refine xG.lv (lv := [(0, .ref 22), (1, .int (nI l1)), (2, .int l2), (3, .int (nI l3)), (4, .int (nI (r2035 - (M2034.1 7))))]) (lv' := [(5, .int (nI (M2034.1 7 + r2035 + r2039 - (M2034.1 7 + r2037)) - nI 3)), (4, .int (nI (r2035 - (M2034.1 7)))), (0, .ref 22), (1, .int (nI l1)), (2, .int l2), (3, .int (nI l3))]) rfl rfl rfl ?_
        exact p_R_add_112 L xs d Q l1 l2 l3 (r2035 - (M2034.1 7)) (dN M2038 7 (M2034.1 7 + r2035 + r2039 - (M2034.1 7 + r2037))) h
      · replace h := h.2 k2057
        refine xG.seg 2 (f' := (109, [(5, .int (nI (M2034.1 7 + r2035 + r2039 - (M2034.1 7 + r2037)) - nI 3)), (4, .int (nI r2035 - nI (M2034.1 7))), (0, .ref 22), (1, .int (nI l1)), (2, .int l2), (3, .int (nI l3))], [.int (nI 47), .int (nI l1)])) (x1 := (dN M2038 7 (M2034.1 7 + r2035 + r2039 - (M2034.1 7 + r2037)))) (fun _ => rfl) ?_
        obtain ⟨c2059, h⟩ := h
        refine xG.icmp (t := 119) (A := ¬ (l1 = 47)) rfl rfl (xe_c (xt_N c2059) (show ((nI 47) : Int32).toInt = 47 from by decide) (by dsimp only; omega)) (fun k2060 => ?_) (fun k2060 => ?_)
        · replace h := h.2 k2060
          refine xG.seg 7 (f' := (131, [(5, .int (nI (M2034.1 7 + r2035 + r2039 - (M2034.1 7 + r2037)) - nI 3)), (4, .int (nI r2035 - nI (M2034.1 7))), (0, .ref 22), (1, .int (nI l1)), (2, .int l2), (3, .int (nI l3))], [.int ((nI (M2034.1 7 + r2035 + r2039 - (M2034.1 7 + r2037))) - (nI (M2034.1 7 + r2035 + r2039 - (M2034.1 7 + r2037)) - nI 3)), .ref 22])) (x1 := (dN M2038 7 (M2034.1 7 + r2035 + r2039 - (M2034.1 7 + r2037)))) (fun _ => rfl) ?_
          refine xG.conv (xe_nsz _ _ _) ?_
          refine xG.eqf (f' := (131, [(5, .int (nI (M2034.1 7 + r2035 + r2039 - (M2034.1 7 + r2037)) - nI 3)), (4, .int (nI r2035 - nI (M2034.1 7))), (0, .ref 22), (1, .int (nI l1)), (2, .int l2), (3, .int (nI l3))], [.int (nI ((M2034.1 7 + r2035 + r2039 - (M2034.1 7 + r2037)) + 3) - nI (M2034.1 7 + r2035 + r2039 - (M2034.1 7 + r2037))), .ref 22])) rfl ?_
          obtain ⟨c2061, h⟩ := h
          refine xG.conv (xe_cut c2061) ?_
          refine xG.seg 5 (f' := (141, [(5, .int (nI (M2034.1 7 + r2035 + r2039 - (M2034.1 7 + r2037)) - nI 3)), (4, .int (nI r2035 - nI (M2034.1 7))), (0, .ref 22), (1, .int (nI l1)), (2, .int l2), (3, .int (nI l3))], [.int ((nI 60) * (nI (M2038.1 4)))])) (x1 := (dN M2038 7 ((M2034.1 7 + r2035 + r2039 - (M2034.1 7 + r2037)) + 3 - (M2034.1 7 + r2035 + r2039 - (M2034.1 7 + r2037))))) (fun _ => rfl) ?_
          refine xG.conv (xe_mul _ _) ?_
          refine xG.seg 2 (f' := (143, [(5, .int (nI (M2034.1 7 + r2035 + r2039 - (M2034.1 7 + r2037)) - nI 3)), (4, .int (nI r2035 - nI (M2034.1 7))), (0, .ref 22), (1, .int (nI l1)), (2, .int l2), (3, .int (nI l3))], [.int ((nI (60 * (M2038.1 4))) + (nI l3))])) (x1 := (dN M2038 7 ((M2034.1 7 + r2035 + r2039 - (M2034.1 7 + r2037)) + 3 - (M2034.1 7 + r2035 + r2039 - (M2034.1 7 + r2037))))) (fun _ => rfl) ?_
          refine xG.conv (xe_add (60 * (M2038.1 4)) l3) ?_
          refine xG.eqf (f' := (143, [(5, .int (nI (M2034.1 7 + r2035 + r2039 - (M2034.1 7 + r2037)) - nI 3)), (4, .int (nI r2035 - nI (M2034.1 7))), (0, .ref 22), (1, .int (nI l1)), (2, .int l2), (3, .int (nI l3))], [.int (nI (60 * (M2038.1 4) + l3))])) rfl ?_
          refine xG.seg 5 (f' := (152, [(6, .int (nI (60 * (M2038.1 4) + l3))), (5, .int (nI (M2034.1 7 + r2035 + r2039 - (M2034.1 7 + r2037)) - nI 3)), (4, .int (nI r2035 - nI (M2034.1 7))), (0, .ref 22), (1, .int (nI l1)), (2, .int l2), (3, .int (nI l3))], [.int (nI l1), .int (nI (60 * (M2038.1 4) + l3)), .ref 26])) (x1 := (dN M2038 7 ((M2034.1 7 + r2035 + r2039 - (M2034.1 7 + r2037)) + 3 - (M2034.1 7 + r2035 + r2039 - (M2034.1 7 + r2037))))) (fun _ => rfl) ?_
          obtain ⟨c2062, h⟩ := h
          refine xG.iast (x1 := (dB (dN M2038 7 ((M2034.1 7 + r2035 + r2039 - (M2034.1 7 + r2037)) + 3 - (M2034.1 7 + r2035 + r2039 - (M2034.1 7 + r2037)))) 2 (60 * (M2038.1 4) + l3) l1)) rfl (by decide) (fun _ => rfl) (by decide) c2062 (fun _ => by rw [xu_nI]; rfl) ?_
          refine xG.eqf (f' := (153, [(6, .int (nI (60 * (M2038.1 4) + l3))), (5, .int (nI (M2034.1 7 + r2035 + r2039 - (M2034.1 7 + r2037)) - nI 3)), (4, .int (nI r2035 - nI (M2034.1 7))), (0, .ref 22), (1, .int (nI l1)), (2, .int l2), (3, .int (nI l3))], [])) rfl ?_
          refine xG.seg 4 (f' := (160, [(6, .int (nI (60 * (M2038.1 4) + l3))), (5, .int (nI (M2034.1 7 + r2035 + r2039 - (M2034.1 7 + r2037)) - nI 3)), (4, .int (nI r2035 - nI (M2034.1 7))), (0, .ref 22), (1, .int (nI l1)), (2, .int l2), (3, .int (nI l3))], [.int l2, .int (nI (60 * (M2038.1 4) + l3)), .ref 27])) (x1 := (dB (dN M2038 7 ((M2034.1 7 + r2035 + r2039 - (M2034.1 7 + r2037)) + 3 - (M2034.1 7 + r2035 + r2039 - (M2034.1 7 + r2037)))) 2 (60 * (M2038.1 4) + l3) l1)) (fun _ => rfl) ?_
          obtain ⟨c2063, h⟩ := h
          refine xG.iast (x1 := (dA (dB (dN M2038 7 ((M2034.1 7 + r2035 + r2039 - (M2034.1 7 + r2037)) + 3 - (M2034.1 7 + r2035 + r2039 - (M2034.1 7 + r2037)))) 2 (60 * (M2038.1 4) + l3) l1) 0 (60 * (M2038.1 4) + l3) l2)) rfl (by decide) (fun _ => rfl) (by decide) c2063 (fun _ => rfl) ?_
          refine xG.eqf (f' := (161, [(6, .int (nI (60 * (M2038.1 4) + l3))), (5, .int (nI (M2034.1 7 + r2035 + r2039 - (M2034.1 7 + r2037)) - nI 3)), (4, .int (nI r2035 - nI (M2034.1 7))), (0, .ref 22), (1, .int (nI l1)), (2, .int l2), (3, .int (nI l3))], [])) rfl ?_
          refine xG.seg 5 (f' := (171, [(6, .int (nI (60 * (M2038.1 4) + l3))), (5, .int (nI (M2034.1 7 + r2035 + r2039 - (M2034.1 7 + r2037)) - nI 3)), (4, .int (nI r2035 - nI (M2034.1 7))), (0, .ref 22), (1, .int (nI l1)), (2, .int l2), (3, .int (nI l3))], [.int (nI r2035 - nI (M2034.1 7)), .int (nI 16), .int (nI (60 * (M2038.1 4) + l3)), .ref 28])) (x1 := (dA (dB (dN M2038 7 ((M2034.1 7 + r2035 + r2039 - (M2034.1 7 + r2037)) + 3 - (M2034.1 7 + r2035 + r2039 - (M2034.1 7 + r2037)))) 2 (60 * (M2038.1 4) + l3) l1) 0 (60 * (M2038.1 4) + l3) l2)) (fun _ => rfl) ?_
          obtain ⟨c2064, h⟩ := h
          refine xG.conv (xe_cut c2064) ?_
          refine xG.seg 1 (f' := (172, [(6, .int (nI (60 * (M2038.1 4) + l3))), (5, .int (nI (M2034.1 7 + r2035 + r2039 - (M2034.1 7 + r2037)) - nI 3)), (4, .int (nI r2035 - nI (M2034.1 7))), (0, .ref 22), (1, .int (nI l1)), (2, .int l2), (3, .int (nI l3))], [.int ((nI 16) * (nI (r2035 - (M2034.1 7)))), .int (nI (60 * (M2038.1 4) + l3)), .ref 28])) (x1 := (dA (dB (dN M2038 7 ((M2034.1 7 + r2035 + r2039 - (M2034.1 7 + r2037)) + 3 - (M2034.1 7 + r2035 + r2039 - (M2034.1 7 + r2037)))) 2 (60 * (M2038.1 4) + l3) l1) 0 (60 * (M2038.1 4) + l3) l2)) (fun _ => rfl) ?_
          refine xG.conv (xe_mul _ _) ?_
          refine xG.seg 2 (f' := (175, [(6, .int (nI (60 * (M2038.1 4) + l3))), (5, .int (nI (M2034.1 7 + r2035 + r2039 - (M2034.1 7 + r2037)) - nI 3)), (4, .int (nI r2035 - nI (M2034.1 7))), (0, .ref 22), (1, .int (nI l1)), (2, .int l2), (3, .int (nI l3))], [.int ((nI (16 * (r2035 - (M2034.1 7)))) + (nI (M2034.1 7 + r2035 + r2039 - (M2034.1 7 + r2037)) - nI 3)), .int (nI (60 * (M2038.1 4) + l3)), .ref 28])) (x1 := (dA (dB (dN M2038 7 ((M2034.1 7 + r2035 + r2039 - (M2034.1 7 + r2037)) + 3 - (M2034.1 7 + r2035 + r2039 - (M2034.1 7 + r2037)))) 2 (60 * (M2038.1 4) + l3) l1) 0 (60 * (M2038.1 4) + l3) l2)) (fun _ => rfl) ?_
          refine xG.conv (xe_nz _ _ _) ?_
          refine xG.eqf (f' := (175, [(6, .int (nI (60 * (M2038.1 4) + l3))), (5, .int (nI (M2034.1 7 + r2035 + r2039 - (M2034.1 7 + r2037)) - nI 3)), (4, .int (nI r2035 - nI (M2034.1 7))), (0, .ref 22), (1, .int (nI l1)), (2, .int l2), (3, .int (nI l3))], [.int (nI ((16 * (r2035 - (M2034.1 7))) + (M2034.1 7 + r2035 + r2039 - (M2034.1 7 + r2037))) - nI 3), .int (nI (60 * (M2038.1 4) + l3)), .ref 28])) rfl ?_
          obtain ⟨c2065, h⟩ := h
          refine xG.conv (xe_cut c2065) ?_
          obtain ⟨c2066, h⟩ := h
          refine xG.iast (x1 := (dB (dA (dB (dN M2038 7 ((M2034.1 7 + r2035 + r2039 - (M2034.1 7 + r2037)) + 3 - (M2034.1 7 + r2035 + r2039 - (M2034.1 7 + r2037)))) 2 (60 * (M2038.1 4) + l3) l1) 0 (60 * (M2038.1 4) + l3) l2) 3 (60 * (M2038.1 4) + l3) ((16 * (r2035 - (M2034.1 7))) + (M2034.1 7 + r2035 + r2039 - (M2034.1 7 + r2037)) - 3))) rfl (by decide) (fun _ => rfl) (by decide) c2066 (fun _ => by rw [xu_nI]; rfl) ?_
          refine xG.eqf (f' := (176, [(6, .int (nI (60 * (M2038.1 4) + l3))), (5, .int (nI (M2034.1 7 + r2035 + r2039 - (M2034.1 7 + r2037)) - nI 3)), (4, .int (nI r2035 - nI (M2034.1 7))), (0, .ref 22), (1, .int (nI l1)), (2, .int l2), (3, .int (nI l3))], [])) rfl ?_
          refine xG.seg 5 (f' := (185, [(6, .int (nI (60 * (M2038.1 4) + l3))), (5, .int (nI (M2034.1 7 + r2035 + r2039 - (M2034.1 7 + r2037)) - nI 3)), (4, .int (nI r2035 - nI (M2034.1 7))), (0, .ref 22), (1, .int (nI l1)), (2, .int l2), (3, .int (nI l3))], [.int (nI (M2038.1 4)), .ref 25, .int (nI (M2038.1 4)), .ref 25])) (x1 := (dB (dA (dB (dN M2038 7 ((M2034.1 7 + r2035 + r2039 - (M2034.1 7 + r2037)) + 3 - (M2034.1 7 + r2035 + r2039 - (M2034.1 7 + r2037)))) 2 (60 * (M2038.1 4) + l3) l1) 0 (60 * (M2038.1 4) + l3) l2) 3 (60 * (M2038.1 4) + l3) ((16 * (r2035 - (M2034.1 7))) + (M2034.1 7 + r2035 + r2039 - (M2034.1 7 + r2037)) - 3))) (fun _ => rfl) ?_
          obtain ⟨c2067, h⟩ := h
          refine xG.iald rfl (Or.inl ⟨rfl, rfl⟩) (by decide) (fun _ => rfl) (by decide) c2067 ?_
          refine xG.eqf (f' := (186, [(6, .int (nI (60 * (M2038.1 4) + l3))), (5, .int (nI (M2034.1 7 + r2035 + r2039 - (M2034.1 7 + r2037)) - nI 3)), (4, .int (nI r2035 - nI (M2034.1 7))), (0, .ref 22), (1, .int (nI l1)), (2, .int l2), (3, .int (nI l3))], [.int (nI (M2038.2.1 1 (M2038.1 4))), .int (nI (M2038.1 4)), .ref 25])) rfl ?_
          refine xG.seg 2 (f' := (188, [(6, .int (nI (60 * (M2038.1 4) + l3))), (5, .int (nI (M2034.1 7 + r2035 + r2039 - (M2034.1 7 + r2037)) - nI 3)), (4, .int (nI r2035 - nI (M2034.1 7))), (0, .ref 22), (1, .int (nI l1)), (2, .int l2), (3, .int (nI l3))], [.int ((nI (M2038.2.1 1 (M2038.1 4))) + (nI 1)), .int (nI (M2038.1 4)), .ref 25])) (x1 := (dB (dA (dB (dN M2038 7 ((M2034.1 7 + r2035 + r2039 - (M2034.1 7 + r2037)) + 3 - (M2034.1 7 + r2035 + r2039 - (M2034.1 7 + r2037)))) 2 (60 * (M2038.1 4) + l3) l1) 0 (60 * (M2038.1 4) + l3) l2) 3 (60 * (M2038.1 4) + l3) ((16 * (r2035 - (M2034.1 7))) + (M2034.1 7 + r2035 + r2039 - (M2034.1 7 + r2037)) - 3))) (fun _ => rfl) ?_
          refine xG.conv (xe_add (M2038.2.1 1 (M2038.1 4)) 1) ?_
          refine xG.eqf (f' := (188, [(6, .int (nI (60 * (M2038.1 4) + l3))), (5, .int (nI (M2034.1 7 + r2035 + r2039 - (M2034.1 7 + r2037)) - nI 3)), (4, .int (nI r2035 - nI (M2034.1 7))), (0, .ref 22), (1, .int (nI l1)), (2, .int l2), (3, .int (nI l3))], [.int (nI (M2038.2.1 1 (M2038.1 4) + 1)), .int (nI (M2038.1 4)), .ref 25])) rfl ?_
          obtain ⟨c2068, h⟩ := h
          refine xG.iast (x1 := (dB (dB (dA (dB (dN M2038 7 ((M2034.1 7 + r2035 + r2039 - (M2034.1 7 + r2037)) + 3 - (M2034.1 7 + r2035 + r2039 - (M2034.1 7 + r2037)))) 2 (60 * (M2038.1 4) + l3) l1) 0 (60 * (M2038.1 4) + l3) l2) 3 (60 * (M2038.1 4) + l3) ((16 * (r2035 - (M2034.1 7))) + (M2034.1 7 + r2035 + r2039 - (M2034.1 7 + r2037)) - 3)) 1 (M2038.1 4) (M2038.2.1 1 (M2038.1 4) + 1))) rfl (by decide) (fun _ => rfl) (by decide) c2068 (fun _ => by rw [xu_nI]; rfl) ?_
          refine xG.eqf (f' := (189, [(6, .int (nI (60 * (M2038.1 4) + l3))), (5, .int (nI (M2034.1 7 + r2035 + r2039 - (M2034.1 7 + r2037)) - nI 3)), (4, .int (nI r2035 - nI (M2034.1 7))), (0, .ref 22), (1, .int (nI l1)), (2, .int l2), (3, .int (nI l3))], [])) rfl ?_
          exact xG.fin (fun _ => rfl) (⟨rfl, h⟩)
        · replace h := h.1 (Classical.not_not.mp k2060)
          obtain ⟨c2069, h⟩ := h
          refine xG.eqf (f' := (112, [(5, .int (nI (M2034.1 7 + r2035 + r2039 - (M2034.1 7 + r2037)) - nI 3)), (4, .int (nI (r2035 - (M2034.1 7)))), (0, .ref 22), (1, .int (nI l1)), (2, .int l2), (3, .int (nI l3))], [])) (by rw [xe_cut c2069]) ?_
          refine xG.lv (lv := [(0, .ref 22), (1, .int (nI l1)), (2, .int l2), (3, .int (nI l3)), (4, .int (nI (r2035 - (M2034.1 7))))]) (lv' := [(5, .int (nI (M2034.1 7 + r2035 + r2039 - (M2034.1 7 + r2037)) - nI 3)), (4, .int (nI (r2035 - (M2034.1 7)))), (0, .ref 22), (1, .int (nI l1)), (2, .int l2), (3, .int (nI l3))]) rfl rfl rfl ?_
          exact p_R_add_112 L xs d Q l1 l2 l3 (r2035 - (M2034.1 7)) (dN M2038 7 (M2034.1 7 + r2035 + r2039 - (M2034.1 7 + r2037))) h

def w_R_add (x1 : Nat) (x2 : Int32) (M : xM) (Q : xM → Prop) : Prop := (M.1 4 < 41 ∧ (M.2.1 1 (M.1 4) < 2147483648 ∧ ((M.2.1 1 (M.1 4) = 60 → w_R_wrong 2 M (fun M9 => Q M9)) ∧ (¬ (M.2.1 1 (M.1 4) = 60) → w_R_flushes x1 M (fun r5 M4 => (r5 < 2147483648 ∧ ((r5 = 0 → w_R_add_33 x1 x2 (M.2.1 1 (M.1 4)) M4 Q) ∧ (¬ (r5 = 0) → w_R_flush M4 (fun M8 => w_R_add_33 x1 x2 (M.2.1 1 (M.1 4)) M8 Q)))))))))
set_option maxRecDepth 8000 in
set_option maxHeartbeats 4000000 in
theorem p_R_add (L : Nat) (xs : Nat → Int32) (d : Nat) (x1 : Nat) (x2 : Int32) (M : xM) (Q : xM → Prop) (h : w_R_add x1 x2 M Q) : xG xem (xgt L xs) (d + 1) xi_R_add (0, [(0, .ref 22), (1, .int (nI x1)), (2, .int x2)], []) M (xPV Q) := by
  unfold w_R_add at h
  refine xG.seg 4 (f' := (8, [(0, .ref 22), (1, .int (nI x1)), (2, .int x2)], [.int (nI (M.1 4)), .ref 25])) (x1 := M) (fun _ => rfl) ?_
  obtain ⟨c1, h⟩ := h
  refine xG.iald rfl (Or.inl ⟨rfl, rfl⟩) (by decide) (fun _ => rfl) (by decide) c1 ?_
  refine xG.eqf (f' := (9, [(0, .ref 22), (1, .int (nI x1)), (2, .int x2)], [.int (nI (M.2.1 1 (M.1 4)))])) rfl ?_
  refine xG.seg 3 (f' := (13, [(3, .int (nI (M.2.1 1 (M.1 4)))), (0, .ref 22), (1, .int (nI x1)), (2, .int x2)], [.int (nI 60), .int (nI (M.2.1 1 (M.1 4)))])) (x1 := M) (fun _ => rfl) ?_
  obtain ⟨c2, h⟩ := h
  refine xG.icmp (t := 22) (A := ¬ (M.2.1 1 (M.1 4) = 60)) rfl rfl (xe_c (xt_N c2) (show ((nI 60) : Int32).toInt = 60 from by decide) (by dsimp only; omega)) (fun k3 => ?_) (fun k3 => ?_)
  · replace h := h.2 k3
    refine xG.seg 1 (f' := (23, [(3, .int (nI (M.2.1 1 (M.1 4)))), (0, .ref 22), (1, .int (nI x1)), (2, .int x2)], [.int (nI x1)])) (x1 := M) (fun _ => rfl) ?_
    refine xG.call (d := d) (vs := [.int (nI x1)]) (g := (23, [(3, .int (nI (M.2.1 1 (M.1 4)))), (0, .ref 22), (1, .int (nI x1)), (2, .int x2)], [])) (fun _ => rfl) rfl (p_R_flushes L xs d x1 M _ h) ?_
    clear h
    rintro _ M4 ⟨r5, rfl, h⟩
    refine ⟨_, rfl, ?_⟩
    refine xG.eqf (f' := (26, [(3, .int (nI (M.2.1 1 (M.1 4)))), (0, .ref 22), (1, .int (nI x1)), (2, .int x2)], [.int (nI r5)])) rfl ?_
    obtain ⟨c6, h⟩ := h
    refine xG.ifc (t := 33) (A := r5 = 0) rfl rfl (xe_c (xt_N c6) (show (0 : Int32).toInt = 0 from by decide) (by dsimp only; omega)) (fun k7 => ?_) (fun k7 => ?_)
    · replace h := h.1 k7
      refine xG.lv (lv := [(0, .ref 22), (1, .int (nI x1)), (2, .int x2), (3, .int (nI (M.2.1 1 (M.1 4))))]) (lv' := [(3, .int (nI (M.2.1 1 (M.1 4)))), (0, .ref 22), (1, .int (nI x1)), (2, .int x2)]) rfl rfl rfl ?_
      exact p_R_add_33 L xs d Q x1 x2 (M.2.1 1 (M.1 4)) M4 h
    · replace h := h.2 k7
      refine xG.seg 1 (f' := (30, [(3, .int (nI (M.2.1 1 (M.1 4)))), (0, .ref 22), (1, .int (nI x1)), (2, .int x2)], [.ref 22])) (x1 := M4) (fun _ => rfl) ?_
      refine xG.call (d := d) (vs := [.ref 22]) (g := (30, [(3, .int (nI (M.2.1 1 (M.1 4)))), (0, .ref 22), (1, .int (nI x1)), (2, .int x2)], [])) (fun _ => rfl) rfl (p_R_flush L xs d M4 _ h) ?_
      clear h
      rintro _ M8 ⟨rfl, h⟩
      refine ⟨_, rfl, ?_⟩
      refine xG.eqf (f' := (33, [(3, .int (nI (M.2.1 1 (M.1 4)))), (0, .ref 22), (1, .int (nI x1)), (2, .int x2)], [])) rfl ?_
      refine xG.lv (lv := [(0, .ref 22), (1, .int (nI x1)), (2, .int x2), (3, .int (nI (M.2.1 1 (M.1 4))))]) (lv' := [(3, .int (nI (M.2.1 1 (M.1 4)))), (0, .ref 22), (1, .int (nI x1)), (2, .int x2)]) rfl rfl rfl ?_
      exact p_R_add_33 L xs d Q x1 x2 (M.2.1 1 (M.1 4)) M8 h
  · replace h := h.1 (Classical.not_not.mp k3)
    refine xG.seg 2 (f' := (18, [(3, .int (nI (M.2.1 1 (M.1 4)))), (0, .ref 22), (1, .int (nI x1)), (2, .int x2)], [.int (nI 2), .ref 22])) (x1 := M) (fun _ => rfl) ?_
    refine xG.call (d := d) (vs := [.ref 22, .int (nI 2)]) (g := (18, [(3, .int (nI (M.2.1 1 (M.1 4)))), (0, .ref 22), (1, .int (nI x1)), (2, .int x2)], [])) (fun _ => rfl) rfl (p_R_wrong L xs d 2 M _ h) ?_
    clear h
    rintro _ M9 ⟨rfl, h⟩
    refine ⟨_, rfl, ?_⟩
    refine xG.eqf (f' := (21, [(3, .int (nI (M.2.1 1 (M.1 4)))), (0, .ref 22), (1, .int (nI x1)), (2, .int x2)], [])) rfl ?_
    exact xG.fin (fun _ => rfl) (⟨rfl, h⟩)

def w_R_simple (x1 : Int64) (x2 : Int32) (M : xM) (Q : xM → Prop) : Prop := w_R_begin x1 M (fun M1 => w_R_add 40 x2 M1 (fun M2 => w_R_flush M2 (fun M3 => Q (dN M3 4 (M3.1 4 + 1)))))
set_option maxRecDepth 8000 in
set_option maxHeartbeats 4000000 in
theorem p_R_simple (L : Nat) (xs : Nat → Int32) (d : Nat) (x1 : Int64) (x2 : Int32) (M : xM) (Q : xM → Prop) (h : w_R_simple x1 x2 M Q) : xG xem (xgt L xs) (d + 2) xi_R_simple (0, [(0, .ref 22), (1, .long x1), (3, .int x2)], []) M (xPV Q) := by
  unfold w_R_simple at h
  refine xG.seg 2 (f' := (2, [(0, .ref 22), (1, .long x1), (3, .int x2)], [.long x1, .ref 22])) (x1 := M) (fun _ => rfl) ?_
  refine xG.call (d := d + 1) (vs := [.ref 22, .long x1]) (g := (2, [(0, .ref 22), (1, .long x1), (3, .int x2)], [])) (fun _ => rfl) rfl (p_R_begin L xs (d + 1) x1 M _ h) ?_
  clear h
  rintro _ M1 ⟨rfl, h⟩
  refine ⟨_, rfl, ?_⟩
  refine xG.eqf (f' := (5, [(0, .ref 22), (1, .long x1), (3, .int x2)], [])) rfl ?_
  refine xG.seg 3 (f' := (9, [(0, .ref 22), (1, .long x1), (3, .int x2)], [.int x2, .int (nI 40), .ref 22])) (x1 := M1) (fun _ => rfl) ?_
  refine xG.call (d := d + 1) (vs := [.ref 22, .int (nI 40), .int x2]) (g := (9, [(0, .ref 22), (1, .long x1), (3, .int x2)], [])) (fun _ => rfl) rfl (p_R_add L xs d 40 x2 M1 _ h) ?_
  clear h
  rintro _ M2 ⟨rfl, h⟩
  refine ⟨_, rfl, ?_⟩
  refine xG.eqf (f' := (12, [(0, .ref 22), (1, .long x1), (3, .int x2)], [])) rfl ?_
  refine xG.seg 1 (f' := (13, [(0, .ref 22), (1, .long x1), (3, .int x2)], [.ref 22])) (x1 := M2) (fun _ => rfl) ?_
  refine xG.call (d := d + 1) (vs := [.ref 22]) (g := (13, [(0, .ref 22), (1, .long x1), (3, .int x2)], [])) (fun _ => rfl) rfl (p_R_flush L xs (d + 1) M2 _ h) ?_
  clear h
  rintro _ M3 ⟨rfl, h⟩
  refine ⟨_, rfl, ?_⟩
  refine xG.eqf (f' := (16, [(0, .ref 22), (1, .long x1), (3, .int x2)], [])) rfl ?_
  refine xG.seg 5 (f' := (23, [(0, .ref 22), (1, .long x1), (3, .int x2)], [.int ((nI (M3.1 4)) + (nI 1)), .ref 22])) (x1 := M3) (fun _ => rfl) ?_
  refine xG.conv (xe_add (M3.1 4) 1) ?_
  refine xG.eqf (f' := (23, [(0, .ref 22), (1, .long x1), (3, .int x2)], [.int (nI (M3.1 4 + 1)), .ref 22])) rfl ?_
  refine xG.seg 1 (f' := (26, [(0, .ref 22), (1, .long x1), (3, .int x2)], [])) (x1 := (dN M3 4 (M3.1 4 + 1))) (fun _ => rfl) ?_
  exact xG.fin (fun _ => rfl) (⟨rfl, h⟩)

def w_R_defines (x1 : Nat) (M : xM) (Q : xM → Prop) : Prop := w_R_name M (fun r2 M1 => (M1.1 1 < 2147483648 ∧ ((M1.1 1 ≤ 0 → (x1 < 2147483648 ∧ ((x1 = 50 → w_R_begin r2 M1 (fun M19 => Q (dN M19 6 1))) ∧ (¬ (x1 = 50) → (x1 < 2147483648 ∧ ((x1 = 51 → (M1.1 5 < 2147483648 ∧ ((M1.1 5 = 64 → w_R_wrong 2 M1 (fun M18 => Q M18)) ∧ (¬ (M1.1 5 = 64) → w_R_simple r2 (nI (M1.1 5)) M1 (fun M17 => Q (dN M17 5 (M17.1 5 + 1))))))) ∧ (¬ (x1 = 51) → (M1.1 9 < 2147483648 ∧ ((M1.1 9 = 0 → w_R_wrong 3 M1 (fun M14 => Q M14)) ∧ (¬ (M1.1 9 = 0) → w_R_pop M1 (fun r12 M11 => w_R_simple r2 r12 M11 (fun M13 => Q M13)))))))))))) ∧ (¬ (M1.1 1 ≤ 0) → Q M1))))
set_option maxRecDepth 8000 in
set_option maxHeartbeats 4000000 in
theorem p_R_defines (L : Nat) (xs : Nat → Int32) (d : Nat) (x1 : Nat) (M : xM) (Q : xM → Prop) (h : w_R_defines x1 M Q) : xG xem (xgt L xs) (d + 3) xi_R_defines (0, [(0, .ref 22), (1, .int (nI x1))], []) M (xPV Q) := by
  unfold w_R_defines at h
  refine xG.seg 1 (f' := (1, [(0, .ref 22), (1, .int (nI x1))], [.ref 22])) (x1 := M) (fun _ => rfl) ?_
  refine xG.call (d := d + 2) (vs := [.ref 22]) (g := (1, [(0, .ref 22), (1, .int (nI x1))], [])) (fun _ => rfl) rfl (p_R_name L xs (d + 1) M _ h) ?_
  clear h
  rintro _ M1 ⟨r2, rfl, h⟩
  refine ⟨_, rfl, ?_⟩
  refine xG.eqf (f' := (4, [(0, .ref 22), (1, .int (nI x1))], [.long r2])) rfl ?_
  refine xG.seg 3 (f' := (9, [(2, .long r2), (0, .ref 22), (1, .int (nI x1))], [.int (nI (M1.1 1))])) (x1 := M1) (fun _ => rfl) ?_
  obtain ⟨c3, h⟩ := h
  refine xG.ifc (t := 13) (A := M1.1 1 ≤ 0) rfl rfl (xe_c (xt_N c3) (show (0 : Int32).toInt = 0 from by decide) (by dsimp only; omega)) (fun k4 => ?_) (fun k4 => ?_)
  · replace h := h.1 k4
    refine xG.seg 2 (f' := (16, [(2, .long r2), (0, .ref 22), (1, .int (nI x1))], [.int (nI 50), .int (nI x1)])) (x1 := M1) (fun _ => rfl) ?_
    obtain ⟨c5, h⟩ := h
    refine xG.icmp (t := 32) (A := ¬ (x1 = 50)) rfl rfl (xe_c (xt_N c5) (show ((nI 50) : Int32).toInt = 50 from by decide) (by dsimp only; omega)) (fun k6 => ?_) (fun k6 => ?_)
    · replace h := h.2 k6
      refine xG.seg 2 (f' := (35, [(2, .long r2), (0, .ref 22), (1, .int (nI x1))], [.int (nI 51), .int (nI x1)])) (x1 := M1) (fun _ => rfl) ?_
      obtain ⟨c7, h⟩ := h
      refine xG.icmp (t := 75) (A := ¬ (x1 = 51)) rfl rfl (xe_c (xt_N c7) (show ((nI 51) : Int32).toInt = 51 from by decide) (by dsimp only; omega)) (fun k8 => ?_) (fun k8 => ?_)
      · replace h := h.2 k8
        refine xG.seg 2 (f' := (79, [(2, .long r2), (0, .ref 22), (1, .int (nI x1))], [.int (nI (M1.1 9))])) (x1 := M1) (fun _ => rfl) ?_
        obtain ⟨c9, h⟩ := h
        refine xG.ifc (t := 90) (A := ¬ (M1.1 9 = 0)) rfl rfl (xe_c (xt_N c9) (show (0 : Int32).toInt = 0 from by decide) (by dsimp only; omega)) (fun k10 => ?_) (fun k10 => ?_)
        · replace h := h.2 k10
          refine xG.seg 3 (f' := (93, [(2, .long r2), (0, .ref 22), (1, .int (nI x1))], [.ref 22, .long r2, .ref 22])) (x1 := M1) (fun _ => rfl) ?_
          refine xG.call (d := d + 2) (vs := [.ref 22]) (g := (93, [(2, .long r2), (0, .ref 22), (1, .int (nI x1))], [.long r2, .ref 22])) (fun _ => rfl) rfl (p_R_pop L xs (d + 2) M1 _ h) ?_
          clear h
          rintro _ M11 ⟨r12, rfl, h⟩
          refine ⟨_, rfl, ?_⟩
          refine xG.eqf (f' := (96, [(2, .long r2), (0, .ref 22), (1, .int (nI x1))], [.int r12, .long r2, .ref 22])) rfl ?_
          refine xG.call (d := d + 2) (vs := [.ref 22, .long r2, .int r12]) (g := (96, [(2, .long r2), (0, .ref 22), (1, .int (nI x1))], [])) (fun _ => rfl) rfl (p_R_simple L xs d r2 r12 M11 _ h) ?_
          clear h
          rintro _ M13 ⟨rfl, h⟩
          refine ⟨_, rfl, ?_⟩
          refine xG.eqf (f' := (99, [(2, .long r2), (0, .ref 22), (1, .int (nI x1))], [])) rfl ?_
          exact xG.fin (fun _ => rfl) (⟨rfl, h⟩)
        · replace h := h.1 (Classical.not_not.mp k10)
          refine xG.seg 2 (f' := (84, [(2, .long r2), (0, .ref 22), (1, .int (nI x1))], [.int (nI 3), .ref 22])) (x1 := M1) (fun _ => rfl) ?_
          refine xG.call (d := d + 2) (vs := [.ref 22, .int (nI 3)]) (g := (84, [(2, .long r2), (0, .ref 22), (1, .int (nI x1))], [])) (fun _ => rfl) rfl (p_R_wrong L xs (d + 2) 3 M1 _ h) ?_
          clear h
          rintro _ M14 ⟨rfl, h⟩
          refine ⟨_, rfl, ?_⟩
          refine xG.eqf (f' := (87, [(2, .long r2), (0, .ref 22), (1, .int (nI x1))], [])) rfl ?_
          refine xG.seg 1 (f' := (99, [(2, .long r2), (0, .ref 22), (1, .int (nI x1))], [])) (x1 := M14) (fun _ => rfl) ?_
          exact xG.fin (fun _ => rfl) (⟨rfl, h⟩)
      · replace h := h.1 (Classical.not_not.mp k8)
        refine xG.seg 3 (f' := (44, [(2, .long r2), (0, .ref 22), (1, .int (nI x1))], [.int (nI 64), .int (nI (M1.1 5))])) (x1 := M1) (fun _ => rfl) ?_
        obtain ⟨c15, h⟩ := h
        refine xG.icmp (t := 53) (A := ¬ (M1.1 5 = 64)) rfl rfl (xe_c (xt_N c15) (show ((nI 64) : Int32).toInt = 64 from by decide) (by dsimp only; omega)) (fun k16 => ?_) (fun k16 => ?_)
        · replace h := h.2 k16
          refine xG.seg 4 (f' := (59, [(2, .long r2), (0, .ref 22), (1, .int (nI x1))], [.int (nI (M1.1 5)), .long r2, .ref 22])) (x1 := M1) (fun _ => rfl) ?_
          refine xG.call (d := d + 2) (vs := [.ref 22, .long r2, .int (nI (M1.1 5))]) (g := (59, [(2, .long r2), (0, .ref 22), (1, .int (nI x1))], [])) (fun _ => rfl) rfl (p_R_simple L xs d r2 (nI (M1.1 5)) M1 _ h) ?_
          clear h
          rintro _ M17 ⟨rfl, h⟩
          refine ⟨_, rfl, ?_⟩
          refine xG.eqf (f' := (62, [(2, .long r2), (0, .ref 22), (1, .int (nI x1))], [])) rfl ?_
          refine xG.seg 5 (f' := (69, [(2, .long r2), (0, .ref 22), (1, .int (nI x1))], [.int ((nI (M17.1 5)) + (nI 1)), .ref 22])) (x1 := M17) (fun _ => rfl) ?_
          refine xG.conv (xe_add (M17.1 5) 1) ?_
          refine xG.eqf (f' := (69, [(2, .long r2), (0, .ref 22), (1, .int (nI x1))], [.int (nI (M17.1 5 + 1)), .ref 22])) rfl ?_
          refine xG.seg 2 (f' := (99, [(2, .long r2), (0, .ref 22), (1, .int (nI x1))], [])) (x1 := (dN M17 5 (M17.1 5 + 1))) (fun _ => rfl) ?_
          exact xG.fin (fun _ => rfl) (⟨rfl, h⟩)
        · replace h := h.1 (Classical.not_not.mp k16)
          refine xG.seg 2 (f' := (49, [(2, .long r2), (0, .ref 22), (1, .int (nI x1))], [.int (nI 2), .ref 22])) (x1 := M1) (fun _ => rfl) ?_
          refine xG.call (d := d + 2) (vs := [.ref 22, .int (nI 2)]) (g := (49, [(2, .long r2), (0, .ref 22), (1, .int (nI x1))], [])) (fun _ => rfl) rfl (p_R_wrong L xs (d + 2) 2 M1 _ h) ?_
          clear h
          rintro _ M18 ⟨rfl, h⟩
          refine ⟨_, rfl, ?_⟩
          refine xG.eqf (f' := (52, [(2, .long r2), (0, .ref 22), (1, .int (nI x1))], [])) rfl ?_
          exact xG.fin (fun _ => rfl) (⟨rfl, h⟩)
    · replace h := h.1 (Classical.not_not.mp k6)
      refine xG.seg 2 (f' := (21, [(2, .long r2), (0, .ref 22), (1, .int (nI x1))], [.long r2, .ref 22])) (x1 := M1) (fun _ => rfl) ?_
      refine xG.call (d := d + 2) (vs := [.ref 22, .long r2]) (g := (21, [(2, .long r2), (0, .ref 22), (1, .int (nI x1))], [])) (fun _ => rfl) rfl (p_R_begin L xs (d + 2) r2 M1 _ h) ?_
      clear h
      rintro _ M19 ⟨rfl, h⟩
      refine ⟨_, rfl, ?_⟩
      refine xG.eqf (f' := (24, [(2, .long r2), (0, .ref 22), (1, .int (nI x1))], [])) rfl ?_
      refine xG.seg 4 (f' := (99, [(2, .long r2), (0, .ref 22), (1, .int (nI x1))], [])) (x1 := (dN M19 6 1)) (fun _ => rfl) ?_
      exact xG.fin (fun _ => rfl) (⟨rfl, h⟩)
  · replace h := h.2 k4
    exact xG.fin (fun _ => rfl) (⟨rfl, h⟩)

def w_R_enter (x1 : Nat) (M : xM) (Q : xM → Prop) : Prop := (M.1 15 < 2147483648 ∧ ((M.1 15 = 12 → w_R_wrong 3 M (fun M5 => Q M5)) ∧ (¬ (M.1 15 = 12) → (M.1 15 < 13 ∧ (M.1 15 < 13 ∧ Q (dN (dB (dB M 6 (M.1 15) x1) 7 (M.1 15) 0) 15 (M.1 15 + 1)))))))
set_option maxRecDepth 8000 in
set_option maxHeartbeats 4000000 in
theorem p_R_enter (L : Nat) (xs : Nat → Int32) (d : Nat) (x1 : Nat) (M : xM) (Q : xM → Prop) (h : w_R_enter x1 M Q) : xG xem (xgt L xs) (d + 1) xi_R_enter (0, [(0, .ref 22), (1, .int (nI x1))], []) M (xPV Q) := by
  unfold w_R_enter at h
  refine xG.seg 3 (f' := (6, [(0, .ref 22), (1, .int (nI x1))], [.int (nI 12), .int (nI (M.1 15))])) (x1 := M) (fun _ => rfl) ?_
  obtain ⟨c1, h⟩ := h
  refine xG.icmp (t := 15) (A := ¬ (M.1 15 = 12)) rfl rfl (xe_c (xt_N c1) (show ((nI 12) : Int32).toInt = 12 from by decide) (by dsimp only; omega)) (fun k2 => ?_) (fun k2 => ?_)
  · replace h := h.2 k2
    refine xG.seg 5 (f' := (24, [(0, .ref 22), (1, .int (nI x1))], [.int (nI x1), .int (nI (M.1 15)), .ref 35])) (x1 := M) (fun _ => rfl) ?_
    obtain ⟨c3, h⟩ := h
    refine xG.iast (x1 := (dB M 6 (M.1 15) x1)) rfl (by decide) (fun _ => rfl) (by decide) c3 (fun _ => by rw [xu_nI]; rfl) ?_
    refine xG.eqf (f' := (25, [(0, .ref 22), (1, .int (nI x1))], [])) rfl ?_
    refine xG.seg 5 (f' := (34, [(0, .ref 22), (1, .int (nI x1))], [.int (nI 0), .int (nI (M.1 15)), .ref 36])) (x1 := (dB M 6 (M.1 15) x1)) (fun _ => rfl) ?_
    obtain ⟨c4, h⟩ := h
    refine xG.iast (x1 := (dB (dB M 6 (M.1 15) x1) 7 (M.1 15) 0)) rfl (by decide) (fun _ => rfl) (by decide) c4 (fun _ => by rw [xu_nI]; rfl) ?_
    refine xG.eqf (f' := (35, [(0, .ref 22), (1, .int (nI x1))], [])) rfl ?_
    refine xG.seg 5 (f' := (42, [(0, .ref 22), (1, .int (nI x1))], [.int ((nI (M.1 15)) + (nI 1)), .ref 22])) (x1 := (dB (dB M 6 (M.1 15) x1) 7 (M.1 15) 0)) (fun _ => rfl) ?_
    refine xG.conv (xe_add (M.1 15) 1) ?_
    refine xG.eqf (f' := (42, [(0, .ref 22), (1, .int (nI x1))], [.int (nI (M.1 15 + 1)), .ref 22])) rfl ?_
    refine xG.seg 1 (f' := (45, [(0, .ref 22), (1, .int (nI x1))], [])) (x1 := (dN (dB (dB M 6 (M.1 15) x1) 7 (M.1 15) 0) 15 (M.1 15 + 1))) (fun _ => rfl) ?_
    exact xG.fin (fun _ => rfl) (⟨rfl, h⟩)
  · replace h := h.1 (Classical.not_not.mp k2)
    refine xG.seg 2 (f' := (11, [(0, .ref 22), (1, .int (nI x1))], [.int (nI 3), .ref 22])) (x1 := M) (fun _ => rfl) ?_
    refine xG.call (d := d) (vs := [.ref 22, .int (nI 3)]) (g := (11, [(0, .ref 22), (1, .int (nI x1))], [])) (fun _ => rfl) rfl (p_R_wrong L xs d 3 M _ h) ?_
    clear h
    rintro _ M5 ⟨rfl, h⟩
    refine ⟨_, rfl, ?_⟩
    refine xG.eqf (f' := (14, [(0, .ref 22), (1, .int (nI x1))], [])) rfl ?_
    exact xG.fin (fun _ => rfl) (⟨rfl, h⟩)

def w_R_goes (x1 : Nat) (x2 : Int32) (M : xM) (Q : xM → Prop) : Prop := (x1 < 2147483648 ∧ ((x1 = 46 → (1 ≤ M.1 15 ∧ (∃ e35 : Nat, x2 = nI e35 ∧ (M.1 15 - 1 < 13 ∧ Q (dB M 7 (M.1 15 - 1) e35))))) ∧ (¬ (x1 = 46) → (x1 < 2147483648 ∧ ((x1 = 45 → w_R_pop M (fun r28 M27 => ((r28 = 0 → (1 ≤ M.1 15 ∧ (∃ e31 : Nat, x2 = nI e31 ∧ (M.1 15 - 1 < 13 ∧ Q (dB M27 7 (M.1 15 - 1) e31))))) ∧ (¬ (r28 = 0) → Q M27)))) ∧ (¬ (x1 = 45) → (x1 < 2147483648 ∧ ((x1 = 47 → w_R_pop M (fun r22 M21 => w_R_pop M21 (fun r24 M23 => (M21.1 10 < 24 ∧ (M23.1 10 + 1 < 24 ∧ Q (dN (dA (dA M23 2 (M21.1 10) r24) 2 (M23.1 10 + 1) r22) 10 (M23.1 10 + 2))))))) ∧ (¬ (x1 = 47) → (1 ≤ M.1 10 ∧ (M.1 10 - 1 < 24 ∧ (1 ≤ M.1 10 ∧ (M.1 10 - 1 < 24 ∧ (1 ≤ M.1 10 ∧ (M.1 10 - 1 < 24 ∧ (2 ≤ M.1 10 ∧ (M.1 10 - 2 < 24 ∧ ((((dA M 2 (M.1 10 - 1) (((M.2.2.1 2 (M.1 10 - 1)) + (nI 1)))).2.2.1 2 (M.1 10 - 1)) = ((dA M 2 (M.1 10 - 1) (((M.2.2.1 2 (M.1 10 - 1)) + (nI 1)))).2.2.1 2 (M.1 10 - 2)) → (2 ≤ M.1 10 ∧ Q (dN (dA M 2 (M.1 10 - 1) (((M.2.2.1 2 (M.1 10 - 1)) + (nI 1)))) 10 (M.1 10 - 2)))) ∧ (¬ (((dA M 2 (M.1 10 - 1) (((M.2.2.1 2 (M.1 10 - 1)) + (nI 1)))).2.2.1 2 (M.1 10 - 1)) = ((dA M 2 (M.1 10 - 1) (((M.2.2.1 2 (M.1 10 - 1)) + (nI 1)))).2.2.1 2 (M.1 10 - 2))) → (1 ≤ M.1 15 ∧ (∃ e18 : Nat, x2 = nI e18 ∧ (M.1 15 - 1 < 13 ∧ Q (dB (dA M 2 (M.1 10 - 1) (((M.2.2.1 2 (M.1 10 - 1)) + (nI 1)))) 7 (M.1 15 - 1) e18)))))))))))))))))))))))
set_option maxRecDepth 8000 in
set_option maxHeartbeats 4000000 in
theorem p_R_goes (L : Nat) (xs : Nat → Int32) (d : Nat) (x1 : Nat) (x2 : Int32) (M : xM) (Q : xM → Prop) (h : w_R_goes x1 x2 M Q) : xG xem (xgt L xs) (d + 1) xi_R_goes (0, [(0, .ref 22), (1, .int (nI x1)), (2, .int x2)], []) M (xPV Q) := by
  unfold w_R_goes at h
  refine xG.seg 7 (f' := (10, [(3, .int (nI (M.1 15) - nI 1)), (0, .ref 22), (1, .int (nI x1)), (2, .int x2)], [.int (nI 46), .int (nI x1)])) (x1 := M) (fun _ => rfl) ?_
  obtain ⟨c1, h⟩ := h
  refine xG.icmp (t := 23) (A := ¬ (x1 = 46)) rfl rfl (xe_c (xt_N c1) (show ((nI 46) : Int32).toInt = 46 from by decide) (by dsimp only; omega)) (fun k2 => ?_) (fun k2 => ?_)
  · replace h := h.2 k2
    refine xG.seg 2 (f' := (26, [(3, .int (nI (M.1 15) - nI 1)), (0, .ref 22), (1, .int (nI x1)), (2, .int x2)], [.int (nI 45), .int (nI x1)])) (x1 := M) (fun _ => rfl) ?_
    obtain ⟨c3, h⟩ := h
    refine xG.icmp (t := 46) (A := ¬ (x1 = 45)) rfl rfl (xe_c (xt_N c3) (show ((nI 45) : Int32).toInt = 45 from by decide) (by dsimp only; omega)) (fun k4 => ?_) (fun k4 => ?_)
    · replace h := h.2 k4
      refine xG.seg 2 (f' := (49, [(3, .int (nI (M.1 15) - nI 1)), (0, .ref 22), (1, .int (nI x1)), (2, .int x2)], [.int (nI 47), .int (nI x1)])) (x1 := M) (fun _ => rfl) ?_
      obtain ⟨c5, h⟩ := h
      refine xG.icmp (t := 97) (A := ¬ (x1 = 47)) rfl rfl (xe_c (xt_N c5) (show ((nI 47) : Int32).toInt = 47 from by decide) (by dsimp only; omega)) (fun k6 => ?_) (fun k6 => ?_)
      · replace h := h.2 k6
        refine xG.seg 7 (f' := (108, [(3, .int (nI (M.1 15) - nI 1)), (0, .ref 22), (1, .int (nI x1)), (2, .int x2)], [.int (nI (M.1 10) - nI 1), .ref 32, .int (nI (M.1 10) - nI 1), .ref 32])) (x1 := M) (fun _ => rfl) ?_
        obtain ⟨c7, h⟩ := h
        refine xG.conv (xe_cut c7) ?_
        obtain ⟨c8, h⟩ := h
        refine xG.iald rfl (Or.inl ⟨rfl, rfl⟩) (by decide) (fun _ => rfl) (by decide) c8 ?_
        refine xG.eqf (f' := (109, [(3, .int (nI (M.1 15) - nI 1)), (0, .ref 22), (1, .int (nI x1)), (2, .int x2)], [.int (M.2.2.1 2 (M.1 10 - 1)), .int (nI (M.1 10) - nI 1), .ref 32])) rfl ?_
        refine xG.seg 2 (f' := (111, [(3, .int (nI (M.1 15) - nI 1)), (0, .ref 22), (1, .int (nI x1)), (2, .int x2)], [.int ((M.2.2.1 2 (M.1 10 - 1)) + (nI 1)), .int (nI (M.1 10) - nI 1), .ref 32])) (x1 := M) (fun _ => rfl) ?_
        obtain ⟨c9, h⟩ := h
        refine xG.eqf (f' := (111, [(3, .int (nI (M.1 15) - nI 1)), (0, .ref 22), (1, .int (nI x1)), (2, .int x2)], [.int ((M.2.2.1 2 (M.1 10 - 1)) + (nI 1)), .int (nI (M.1 10 - 1)), .ref 32])) (by rw [xe_cut c9]) ?_
        obtain ⟨c10, h⟩ := h
        refine xG.iast (x1 := (dA M 2 (M.1 10 - 1) (((M.2.2.1 2 (M.1 10 - 1)) + (nI 1))))) rfl (by decide) (fun _ => rfl) (by decide) c10 (fun _ => rfl) ?_
        refine xG.eqf (f' := (112, [(3, .int (nI (M.1 15) - nI 1)), (0, .ref 22), (1, .int (nI x1)), (2, .int x2)], [])) rfl ?_
        refine xG.seg 6 (f' := (122, [(3, .int (nI (M.1 15) - nI 1)), (0, .ref 22), (1, .int (nI x1)), (2, .int x2)], [.int (nI (M.1 10) - nI 1), .ref 32])) (x1 := (dA M 2 (M.1 10 - 1) (((M.2.2.1 2 (M.1 10 - 1)) + (nI 1))))) (fun _ => rfl) ?_
        obtain ⟨c11, h⟩ := h
        refine xG.conv (xe_cut c11) ?_
        obtain ⟨c12, h⟩ := h
        refine xG.iald rfl (Or.inl ⟨rfl, rfl⟩) (by decide) (fun _ => rfl) (by decide) c12 ?_
        refine xG.eqf (f' := (123, [(3, .int (nI (M.1 15) - nI 1)), (0, .ref 22), (1, .int (nI x1)), (2, .int x2)], [.int ((dA M 2 (M.1 10 - 1) (((M.2.2.1 2 (M.1 10 - 1)) + (nI 1)))).2.2.1 2 (M.1 10 - 1))])) rfl ?_
        refine xG.seg 6 (f' := (133, [(3, .int (nI (M.1 15) - nI 1)), (0, .ref 22), (1, .int (nI x1)), (2, .int x2)], [.int (nI (M.1 10) - nI 2), .ref 32, .int ((dA M 2 (M.1 10 - 1) (((M.2.2.1 2 (M.1 10 - 1)) + (nI 1)))).2.2.1 2 (M.1 10 - 1))])) (x1 := (dA M 2 (M.1 10 - 1) (((M.2.2.1 2 (M.1 10 - 1)) + (nI 1))))) (fun _ => rfl) ?_
        obtain ⟨c13, h⟩ := h
        refine xG.conv (xe_cut c13) ?_
        obtain ⟨c14, h⟩ := h
        refine xG.iald rfl (Or.inl ⟨rfl, rfl⟩) (by decide) (fun _ => rfl) (by decide) c14 ?_
        refine xG.eqf (f' := (134, [(3, .int (nI (M.1 15) - nI 1)), (0, .ref 22), (1, .int (nI x1)), (2, .int x2)], [.int ((dA M 2 (M.1 10 - 1) (((M.2.2.1 2 (M.1 10 - 1)) + (nI 1)))).2.2.1 2 (M.1 10 - 2)), .int ((dA M 2 (M.1 10 - 1) (((M.2.2.1 2 (M.1 10 - 1)) + (nI 1)))).2.2.1 2 (M.1 10 - 1))])) rfl ?_
        refine xG.icmp (t := 147) (A := ((dA M 2 (M.1 10 - 1) (((M.2.2.1 2 (M.1 10 - 1)) + (nI 1)))).2.2.1 2 (M.1 10 - 1)) = ((dA M 2 (M.1 10 - 1) (((M.2.2.1 2 (M.1 10 - 1)) + (nI 1)))).2.2.1 2 (M.1 10 - 2))) rfl rfl rfl (fun k15 => ?_) (fun k15 => ?_)
        · replace h := h.1 k15
          refine xG.seg 5 (f' := (154, [(3, .int (nI (M.1 15) - nI 1)), (0, .ref 22), (1, .int (nI x1)), (2, .int x2)], [.int (nI (M.1 10) - nI 2), .ref 22])) (x1 := (dA M 2 (M.1 10 - 1) (((M.2.2.1 2 (M.1 10 - 1)) + (nI 1))))) (fun _ => rfl) ?_
          obtain ⟨c16, h⟩ := h
          refine xG.conv (xe_cut c16) ?_
          refine xG.seg 1 (f' := (157, [(3, .int (nI (M.1 15) - nI 1)), (0, .ref 22), (1, .int (nI x1)), (2, .int x2)], [])) (x1 := (dN (dA M 2 (M.1 10 - 1) (((M.2.2.1 2 (M.1 10 - 1)) + (nI 1)))) 10 (M.1 10 - 2))) (fun _ => rfl) ?_
          exact xG.fin (fun _ => rfl) (⟨rfl, h⟩)
        · replace h := h.2 k15
          refine xG.seg 4 (f' := (143, [(3, .int (nI (M.1 15) - nI 1)), (0, .ref 22), (1, .int (nI x1)), (2, .int x2)], [.int x2, .int (nI (M.1 15) - nI 1), .ref 36])) (x1 := (dA M 2 (M.1 10 - 1) (((M.2.2.1 2 (M.1 10 - 1)) + (nI 1))))) (fun _ => rfl) ?_
          obtain ⟨c17, h⟩ := h
          refine xG.eqf (f' := (143, [(3, .int (nI (M.1 15) - nI 1)), (0, .ref 22), (1, .int (nI x1)), (2, .int x2)], [.int x2, .int (nI (M.1 15 - 1)), .ref 36])) (by rw [xe_cut c17]) ?_
          obtain ⟨e18, c19, h⟩ := h
          refine xG.conv (c19) ?_
          obtain ⟨c20, h⟩ := h
          refine xG.iast (x1 := (dB (dA M 2 (M.1 10 - 1) (((M.2.2.1 2 (M.1 10 - 1)) + (nI 1)))) 7 (M.1 15 - 1) e18)) rfl (by decide) (fun _ => rfl) (by decide) c20 (fun _ => by rw [xu_nI]; rfl) ?_
          refine xG.eqf (f' := (144, [(3, .int (nI (M.1 15) - nI 1)), (0, .ref 22), (1, .int (nI x1)), (2, .int x2)], [])) rfl ?_
          refine xG.seg 1 (f' := (157, [(3, .int (nI (M.1 15) - nI 1)), (0, .ref 22), (1, .int (nI x1)), (2, .int x2)], [])) (x1 := (dB (dA M 2 (M.1 10 - 1) (((M.2.2.1 2 (M.1 10 - 1)) + (nI 1)))) 7 (M.1 15 - 1) e18)) (fun _ => rfl) ?_
          exact xG.fin (fun _ => rfl) (⟨rfl, h⟩)
      · replace h := h.1 (Classical.not_not.mp k6)
        refine xG.seg 1 (f' := (53, [(3, .int (nI (M.1 15) - nI 1)), (0, .ref 22), (1, .int (nI x1)), (2, .int x2)], [.ref 22])) (x1 := M) (fun _ => rfl) ?_
        refine xG.call (d := d) (vs := [.ref 22]) (g := (53, [(3, .int (nI (M.1 15) - nI 1)), (0, .ref 22), (1, .int (nI x1)), (2, .int x2)], [])) (fun _ => rfl) rfl (p_R_pop L xs d M _ h) ?_
        clear h
        rintro _ M21 ⟨r22, rfl, h⟩
        refine ⟨_, rfl, ?_⟩
        refine xG.eqf (f' := (56, [(3, .int (nI (M.1 15) - nI 1)), (0, .ref 22), (1, .int (nI x1)), (2, .int x2)], [.int r22])) rfl ?_
        refine xG.seg 6 (f' := (67, [(4, .int r22), (3, .int (nI (M.1 15) - nI 1)), (0, .ref 22), (1, .int (nI x1)), (2, .int x2)], [.ref 22, .int (nI (M21.1 10)), .ref 32])) (x1 := M21) (fun _ => rfl) ?_
        refine xG.call (d := d) (vs := [.ref 22]) (g := (67, [(4, .int r22), (3, .int (nI (M.1 15) - nI 1)), (0, .ref 22), (1, .int (nI x1)), (2, .int x2)], [.int (nI (M21.1 10)), .ref 32])) (fun _ => rfl) rfl (p_R_pop L xs d M21 _ h) ?_
        clear h
        rintro _ M23 ⟨r24, rfl, h⟩
        refine ⟨_, rfl, ?_⟩
        refine xG.eqf (f' := (70, [(4, .int r22), (3, .int (nI (M.1 15) - nI 1)), (0, .ref 22), (1, .int (nI x1)), (2, .int x2)], [.int r24, .int (nI (M21.1 10)), .ref 32])) rfl ?_
        obtain ⟨c25, h⟩ := h
        refine xG.iast (x1 := (dA M23 2 (M21.1 10) r24)) rfl (by decide) (fun _ => rfl) (by decide) c25 (fun _ => rfl) ?_
        refine xG.eqf (f' := (71, [(4, .int r22), (3, .int (nI (M.1 15) - nI 1)), (0, .ref 22), (1, .int (nI x1)), (2, .int x2)], [])) rfl ?_
        refine xG.seg 6 (f' := (81, [(4, .int r22), (3, .int (nI (M.1 15) - nI 1)), (0, .ref 22), (1, .int (nI x1)), (2, .int x2)], [.int ((nI (M23.1 10)) + (nI 1)), .ref 32])) (x1 := (dA M23 2 (M21.1 10) r24)) (fun _ => rfl) ?_
        refine xG.conv (xe_add (M23.1 10) 1) ?_
        refine xG.eqf (f' := (81, [(4, .int r22), (3, .int (nI (M.1 15) - nI 1)), (0, .ref 22), (1, .int (nI x1)), (2, .int x2)], [.int (nI (M23.1 10 + 1)), .ref 32])) rfl ?_
        refine xG.seg 1 (f' := (83, [(4, .int r22), (3, .int (nI (M.1 15) - nI 1)), (0, .ref 22), (1, .int (nI x1)), (2, .int x2)], [.int r22, .int (nI (M23.1 10 + 1)), .ref 32])) (x1 := (dA M23 2 (M21.1 10) r24)) (fun _ => rfl) ?_
        obtain ⟨c26, h⟩ := h
        refine xG.iast (x1 := (dA (dA M23 2 (M21.1 10) r24) 2 (M23.1 10 + 1) r22)) rfl (by decide) (fun _ => rfl) (by decide) c26 (fun _ => rfl) ?_
        refine xG.eqf (f' := (84, [(4, .int r22), (3, .int (nI (M.1 15) - nI 1)), (0, .ref 22), (1, .int (nI x1)), (2, .int x2)], [])) rfl ?_
        refine xG.seg 5 (f' := (91, [(4, .int r22), (3, .int (nI (M.1 15) - nI 1)), (0, .ref 22), (1, .int (nI x1)), (2, .int x2)], [.int ((nI (M23.1 10)) + (nI 2)), .ref 22])) (x1 := (dA (dA M23 2 (M21.1 10) r24) 2 (M23.1 10 + 1) r22)) (fun _ => rfl) ?_
        refine xG.conv (xe_add (M23.1 10) 2) ?_
        refine xG.eqf (f' := (91, [(4, .int r22), (3, .int (nI (M.1 15) - nI 1)), (0, .ref 22), (1, .int (nI x1)), (2, .int x2)], [.int (nI (M23.1 10 + 2)), .ref 22])) rfl ?_
        refine xG.seg 2 (f' := (157, [(4, .int r22), (3, .int (nI (M.1 15) - nI 1)), (0, .ref 22), (1, .int (nI x1)), (2, .int x2)], [])) (x1 := (dN (dA (dA M23 2 (M21.1 10) r24) 2 (M23.1 10 + 1) r22) 10 (M23.1 10 + 2))) (fun _ => rfl) ?_
        exact xG.fin (fun _ => rfl) (⟨rfl, h⟩)
    · replace h := h.1 (Classical.not_not.mp k4)
      refine xG.seg 1 (f' := (30, [(3, .int (nI (M.1 15) - nI 1)), (0, .ref 22), (1, .int (nI x1)), (2, .int x2)], [.ref 22])) (x1 := M) (fun _ => rfl) ?_
      refine xG.call (d := d) (vs := [.ref 22]) (g := (30, [(3, .int (nI (M.1 15) - nI 1)), (0, .ref 22), (1, .int (nI x1)), (2, .int x2)], [])) (fun _ => rfl) rfl (p_R_pop L xs d M _ h) ?_
      clear h
      rintro _ M27 ⟨r28, rfl, h⟩
      refine ⟨_, rfl, ?_⟩
      refine xG.eqf (f' := (33, [(3, .int (nI (M.1 15) - nI 1)), (0, .ref 22), (1, .int (nI x1)), (2, .int x2)], [.int r28])) rfl ?_
      refine xG.ifc (t := 157) (A := ¬ (r28 = 0)) rfl rfl (xe_rn _ _) (fun k29 => ?_) (fun k29 => ?_)
      · replace h := h.2 k29
        exact xG.fin (fun _ => rfl) (⟨rfl, h⟩)
      · replace h := h.1 (Classical.not_not.mp k29)
        refine xG.seg 4 (f' := (42, [(3, .int (nI (M.1 15) - nI 1)), (0, .ref 22), (1, .int (nI x1)), (2, .int x2)], [.int x2, .int (nI (M.1 15) - nI 1), .ref 36])) (x1 := M27) (fun _ => rfl) ?_
        obtain ⟨c30, h⟩ := h
        refine xG.eqf (f' := (42, [(3, .int (nI (M.1 15) - nI 1)), (0, .ref 22), (1, .int (nI x1)), (2, .int x2)], [.int x2, .int (nI (M.1 15 - 1)), .ref 36])) (by rw [xe_cut c30]) ?_
        obtain ⟨e31, c32, h⟩ := h
        refine xG.conv (c32) ?_
        obtain ⟨c33, h⟩ := h
        refine xG.iast (x1 := (dB M27 7 (M.1 15 - 1) e31)) rfl (by decide) (fun _ => rfl) (by decide) c33 (fun _ => by rw [xu_nI]; rfl) ?_
        refine xG.eqf (f' := (43, [(3, .int (nI (M.1 15) - nI 1)), (0, .ref 22), (1, .int (nI x1)), (2, .int x2)], [])) rfl ?_
        refine xG.seg 1 (f' := (157, [(3, .int (nI (M.1 15) - nI 1)), (0, .ref 22), (1, .int (nI x1)), (2, .int x2)], [])) (x1 := (dB M27 7 (M.1 15 - 1) e31)) (fun _ => rfl) ?_
        exact xG.fin (fun _ => rfl) (⟨rfl, h⟩)
  · replace h := h.1 (Classical.not_not.mp k2)
    refine xG.seg 4 (f' := (19, [(3, .int (nI (M.1 15) - nI 1)), (0, .ref 22), (1, .int (nI x1)), (2, .int x2)], [.int x2, .int (nI (M.1 15) - nI 1), .ref 36])) (x1 := M) (fun _ => rfl) ?_
    obtain ⟨c34, h⟩ := h
    refine xG.eqf (f' := (19, [(3, .int (nI (M.1 15) - nI 1)), (0, .ref 22), (1, .int (nI x1)), (2, .int x2)], [.int x2, .int (nI (M.1 15 - 1)), .ref 36])) (by rw [xe_cut c34]) ?_
    obtain ⟨e35, c36, h⟩ := h
    refine xG.conv (c36) ?_
    obtain ⟨c37, h⟩ := h
    refine xG.iast (x1 := (dB M 7 (M.1 15 - 1) e35)) rfl (by decide) (fun _ => rfl) (by decide) c37 (fun _ => by rw [xu_nI]; rfl) ?_
    refine xG.eqf (f' := (20, [(3, .int (nI (M.1 15) - nI 1)), (0, .ref 22), (1, .int (nI x1)), (2, .int x2)], [])) rfl ?_
    refine xG.seg 1 (f' := (157, [(3, .int (nI (M.1 15) - nI 1)), (0, .ref 22), (1, .int (nI x1)), (2, .int x2)], [])) (x1 := (dB M 7 (M.1 15 - 1) e35)) (fun _ => rfl) ?_
    exact xG.fin (fun _ => rfl) (⟨rfl, h⟩)

def w_R_operate_241 (l1 : Nat) (l3 : Nat) (M : xM) (Q : xM → Prop) : Prop := (M.1 1 < 2147483648 ∧ ((M.1 1 = 0 → (l3 < 2147483648 ∧ ((l3 = 40 → (1 ≤ M.1 15 ∧ (M.1 15 - 1 < 13 ∧ (l1 < 41 ∧ (M.2.1 7 (M.1 15 - 1) < 2147483648 ∧ (M.2.1 1 l1 < 2147483648 ∧ ((M.2.1 7 (M.1 15 - 1) = M.2.1 1 l1 → (1 ≤ M.1 15 ∧ Q (dN M 15 (M.1 15 - 1)))) ∧ (¬ (M.2.1 7 (M.1 15 - 1) = M.2.1 1 l1) → Q M)))))))) ∧ (¬ (l3 = 40) → Q M)))) ∧ (¬ (M.1 1 = 0) → Q M)))
set_option maxRecDepth 8000 in
set_option maxHeartbeats 4000000 in
theorem p_R_operate_241 (L : Nat) (xs : Nat → Int32) (d : Nat) (Q : xM → Prop) (l1 : Nat) (l3 : Nat) (M : xM) (h : w_R_operate_241 l1 l3 M Q) : xG xem (xgt L xs) (d + 4) xi_R_operate (241, [(0, .ref 22), (1, .int (nI l1)), (3, .int (nI l3))], []) M (xPV Q) := by
  unfold w_R_operate_241 at h
  refine xG.seg 2 (f' := (245, [(0, .ref 22), (1, .int (nI l1)), (3, .int (nI l3))], [.int (nI (M.1 1))])) (x1 := M) (fun _ => rfl) ?_
  obtain ⟨c6001, h⟩ := h
  refine xG.ifc (t := 284) (A := ¬ (M.1 1 = 0)) rfl rfl (xe_c (xt_N c6001) (show (0 : Int32).toInt = 0 from by decide) (by dsimp only; omega)) (fun k6002 => ?_) (fun k6002 => ?_)
  · replace h := h.2 k6002
    exact xG.fin (fun _ => rfl) (⟨rfl, h⟩)
  · replace h := h.1 (Classical.not_not.mp k6002)
    refine xG.seg 2 (f' := (251, [(0, .ref 22), (1, .int (nI l1)), (3, .int (nI l3))], [.int (nI 40), .int (nI l3)])) (x1 := M) (fun _ => rfl) ?_
    obtain ⟨c6003, h⟩ := h
    refine xG.icmp (t := 284) (A := ¬ (l3 = 40)) rfl rfl (xe_c (xt_N c6003) (show ((nI 40) : Int32).toInt = 40 from by decide) (by dsimp only; omega)) (fun k6004 => ?_) (fun k6004 => ?_)
    · replace h := h.2 k6004
      exact xG.fin (fun _ => rfl) (⟨rfl, h⟩)
    · replace h := h.1 (Classical.not_not.mp k6004)
      refine xG.seg 6 (f' := (264, [(0, .ref 22), (1, .int (nI l1)), (3, .int (nI l3))], [.int (nI (M.1 15) - nI 1), .ref 36])) (x1 := M) (fun _ => rfl) ?_
      obtain ⟨c6005, h⟩ := h
      refine xG.conv (xe_cut c6005) ?_
      obtain ⟨c6006, h⟩ := h
      refine xG.iald rfl (Or.inl ⟨rfl, rfl⟩) (by decide) (fun _ => rfl) (by decide) c6006 ?_
      refine xG.eqf (f' := (265, [(0, .ref 22), (1, .int (nI l1)), (3, .int (nI l3))], [.int (nI (M.2.1 7 (M.1 15 - 1)))])) rfl ?_
      refine xG.seg 3 (f' := (270, [(0, .ref 22), (1, .int (nI l1)), (3, .int (nI l3))], [.int (nI l1), .ref 25, .int (nI (M.2.1 7 (M.1 15 - 1)))])) (x1 := M) (fun _ => rfl) ?_
      obtain ⟨c6007, h⟩ := h
      refine xG.iald rfl (Or.inl ⟨rfl, rfl⟩) (by decide) (fun _ => rfl) (by decide) c6007 ?_
      refine xG.eqf (f' := (271, [(0, .ref 22), (1, .int (nI l1)), (3, .int (nI l3))], [.int (nI (M.2.1 1 l1)), .int (nI (M.2.1 7 (M.1 15 - 1)))])) rfl ?_
      obtain ⟨c6008, h⟩ := h
      obtain ⟨c6009, h⟩ := h
      refine xG.icmp (t := 284) (A := ¬ (M.2.1 7 (M.1 15 - 1) = M.2.1 1 l1)) rfl rfl (xe_c (xt_N c6008) (xt_N c6009) (by dsimp only; omega)) (fun k6010 => ?_) (fun k6010 => ?_)
      · replace h := h.2 k6010
        exact xG.fin (fun _ => rfl) (⟨rfl, h⟩)
      · replace h := h.1 (Classical.not_not.mp k6010)
        refine xG.seg 5 (f' := (281, [(0, .ref 22), (1, .int (nI l1)), (3, .int (nI l3))], [.int (nI (M.1 15) - nI 1), .ref 22])) (x1 := M) (fun _ => rfl) ?_
        obtain ⟨c6011, h⟩ := h
        refine xG.conv (xe_cut c6011) ?_
        refine xG.seg 1 (f' := (284, [(0, .ref 22), (1, .int (nI l1)), (3, .int (nI l3))], [])) (x1 := (dN M 15 (M.1 15 - 1))) (fun _ => rfl) ?_
        exact xG.fin (fun _ => rfl) (⟨rfl, h⟩)

def w_R_operate_216 (l1 : Nat) (l2 : Nat) (l3 : Nat) (M : xM) (Q : xM → Prop) : Prop := (M.1 1 < 2147483648 ∧ ((M.1 1 = 0 → (l2 < 2460 ∧ (M.2.1 3 l2 < 2147483648 ∧ w_R_operate_241 l1 l3 (dN M 14 (M.1 14 + ((M.2.1 3 l2) % 16))) Q))) ∧ (¬ (M.1 1 = 0) → w_R_operate_241 l1 l3 M Q)))
set_option maxRecDepth 8000 in
set_option maxHeartbeats 4000000 in
theorem p_R_operate_216 (L : Nat) (xs : Nat → Int32) (d : Nat) (Q : xM → Prop) (l1 : Nat) (l2 : Nat) (l3 : Nat) (M : xM) (h : w_R_operate_216 l1 l2 l3 M Q) : xG xem (xgt L xs) (d + 4) xi_R_operate (216, [(0, .ref 22), (1, .int (nI l1)), (2, .int (nI l2)), (3, .int (nI l3))], []) M (xPV Q) := by
  unfold w_R_operate_216 at h
  refine xG.seg 2 (f' := (220, [(0, .ref 22), (1, .int (nI l1)), (2, .int (nI l2)), (3, .int (nI l3))], [.int (nI (M.1 1))])) (x1 := M) (fun _ => rfl) ?_
  obtain ⟨c5001, h⟩ := h
  refine xG.ifc (t := 241) (A := ¬ (M.1 1 = 0)) rfl rfl (xe_c (xt_N c5001) (show (0 : Int32).toInt = 0 from by decide) (by dsimp only; omega)) (fun k5002 => ?_) (fun k5002 => ?_)
  · replace h := h.2 k5002
    refine xG.lv (lv := [(0, .ref 22), (1, .int (nI l1)), (3, .int (nI l3))]) (lv' := [(0, .ref 22), (1, .int (nI l1)), (2, .int (nI l2)), (3, .int (nI l3))]) rfl rfl rfl ?_
    exact p_R_operate_241 L xs d Q l1 l3 M h
  · replace h := h.1 (Classical.not_not.mp k5002)
    refine xG.seg 6 (f' := (233, [(0, .ref 22), (1, .int (nI l1)), (2, .int (nI l2)), (3, .int (nI l3))], [.int (nI l2), .ref 28, .int (nI (M.1 14)), .ref 22])) (x1 := M) (fun _ => rfl) ?_
    obtain ⟨c5003, h⟩ := h
    refine xG.iald rfl (Or.inl ⟨rfl, rfl⟩) (by decide) (fun _ => rfl) (by decide) c5003 ?_
    refine xG.eqf (f' := (234, [(0, .ref 22), (1, .int (nI l1)), (2, .int (nI l2)), (3, .int (nI l3))], [.int (nI (M.2.1 3 l2)), .int (nI (M.1 14)), .ref 22])) rfl ?_
    obtain ⟨c5004, h⟩ := h
    refine xG.seg 2 (f' := (237, [(0, .ref 22), (1, .int (nI l1)), (2, .int (nI l2)), (3, .int (nI l3))], [.int ((nI (M.2.1 3 l2)) - (nI (M.2.1 3 l2)) / (nI 16) * (nI 16)), .int (nI (M.1 14)), .ref 22])) (x1 := M) (fun _ => rfl) ?_
    refine xG.conv (xe_rem c5004 (by decide) (by decide)) ?_
    refine xG.seg 1 (f' := (238, [(0, .ref 22), (1, .int (nI l1)), (2, .int (nI l2)), (3, .int (nI l3))], [.int ((nI (M.1 14)) + (nI ((M.2.1 3 l2) % 16))), .ref 22])) (x1 := M) (fun _ => rfl) ?_
    refine xG.conv (xe_add (M.1 14) ((M.2.1 3 l2) % 16)) ?_
    refine xG.eqf (f' := (238, [(0, .ref 22), (1, .int (nI l1)), (2, .int (nI l2)), (3, .int (nI l3))], [.int (nI (M.1 14 + ((M.2.1 3 l2) % 16))), .ref 22])) rfl ?_
    refine xG.seg 1 (f' := (241, [(0, .ref 22), (1, .int (nI l1)), (2, .int (nI l2)), (3, .int (nI l3))], [])) (x1 := (dN M 14 (M.1 14 + ((M.2.1 3 l2) % 16)))) (fun _ => rfl) ?_
    refine xG.lv (lv := [(0, .ref 22), (1, .int (nI l1)), (3, .int (nI l3))]) (lv' := [(0, .ref 22), (1, .int (nI l1)), (2, .int (nI l2)), (3, .int (nI l3))]) rfl rfl rfl ?_
    exact p_R_operate_241 L xs d Q l1 l3 (dN M 14 (M.1 14 + ((M.2.1 3 l2) % 16))) h

def w_R_operate_190 (l1 : Nat) (l2 : Nat) (l3 : Nat) (M : xM) (Q : xM → Prop) : Prop := (M.1 1 < 2147483648 ∧ ((M.1 1 = 0 → w_R_fits l3 M (fun r4004 M4003 => (r4004 < 2147483648 ∧ ((r4004 = 0 → w_R_operate_216 l1 l2 l3 M4003 Q) ∧ (¬ (r4004 = 0) → (l2 < 2460 ∧ w_R_goes l3 (M4003.2.2.1 0 l2) M4003 (fun M4008 => w_R_operate_216 l1 l2 l3 M4008 Q))))))) ∧ (¬ (M.1 1 = 0) → w_R_operate_216 l1 l2 l3 M Q)))
set_option maxRecDepth 8000 in
set_option maxHeartbeats 4000000 in
theorem p_R_operate_190 (L : Nat) (xs : Nat → Int32) (d : Nat) (Q : xM → Prop) (l1 : Nat) (l2 : Nat) (l3 : Nat) (M : xM) (h : w_R_operate_190 l1 l2 l3 M Q) : xG xem (xgt L xs) (d + 4) xi_R_operate (190, [(0, .ref 22), (1, .int (nI l1)), (2, .int (nI l2)), (3, .int (nI l3))], []) M (xPV Q) := by
  unfold w_R_operate_190 at h
  refine xG.seg 2 (f' := (194, [(0, .ref 22), (1, .int (nI l1)), (2, .int (nI l2)), (3, .int (nI l3))], [.int (nI (M.1 1))])) (x1 := M) (fun _ => rfl) ?_
  obtain ⟨c4001, h⟩ := h
  refine xG.ifc (t := 216) (A := ¬ (M.1 1 = 0)) rfl rfl (xe_c (xt_N c4001) (show (0 : Int32).toInt = 0 from by decide) (by dsimp only; omega)) (fun k4002 => ?_) (fun k4002 => ?_)
  · replace h := h.2 k4002
    refine xG.lv (lv := [(0, .ref 22), (1, .int (nI l1)), (2, .int (nI l2)), (3, .int (nI l3))]) (lv' := [(0, .ref 22), (1, .int (nI l1)), (2, .int (nI l2)), (3, .int (nI l3))]) rfl rfl rfl ?_
    exact p_R_operate_216 L xs d Q l1 l2 l3 M h
  · replace h := h.1 (Classical.not_not.mp k4002)
    refine xG.seg 2 (f' := (199, [(0, .ref 22), (1, .int (nI l1)), (2, .int (nI l2)), (3, .int (nI l3))], [.int (nI l3), .ref 22])) (x1 := M) (fun _ => rfl) ?_
    refine xG.call (d := d + 3) (vs := [.ref 22, .int (nI l3)]) (g := (199, [(0, .ref 22), (1, .int (nI l1)), (2, .int (nI l2)), (3, .int (nI l3))], [])) (fun _ => rfl) rfl (p_R_fits L xs (d + 2) l3 M _ h) ?_
    clear h
    rintro _ M4003 ⟨r4004, rfl, h⟩
    refine ⟨_, rfl, ?_⟩
    refine xG.eqf (f' := (202, [(0, .ref 22), (1, .int (nI l1)), (2, .int (nI l2)), (3, .int (nI l3))], [.int (nI r4004)])) rfl ?_
    obtain ⟨c4005, h⟩ := h
    refine xG.ifc (t := 216) (A := r4004 = 0) rfl rfl (xe_c (xt_N c4005) (show (0 : Int32).toInt = 0 from by decide) (by dsimp only; omega)) (fun k4006 => ?_) (fun k4006 => ?_)
    · replace h := h.1 k4006
      refine xG.lv (lv := [(0, .ref 22), (1, .int (nI l1)), (2, .int (nI l2)), (3, .int (nI l3))]) (lv' := [(0, .ref 22), (1, .int (nI l1)), (2, .int (nI l2)), (3, .int (nI l3))]) rfl rfl rfl ?_
      exact p_R_operate_216 L xs d Q l1 l2 l3 M4003 h
    · replace h := h.2 k4006
      refine xG.seg 5 (f' := (212, [(0, .ref 22), (1, .int (nI l1)), (2, .int (nI l2)), (3, .int (nI l3))], [.int (nI l2), .ref 27, .int (nI l3), .ref 22])) (x1 := M4003) (fun _ => rfl) ?_
      obtain ⟨c4007, h⟩ := h
      refine xG.iald rfl (Or.inl ⟨rfl, rfl⟩) (by decide) (fun _ => rfl) (by decide) c4007 ?_
      refine xG.eqf (f' := (213, [(0, .ref 22), (1, .int (nI l1)), (2, .int (nI l2)), (3, .int (nI l3))], [.int (M4003.2.2.1 0 l2), .int (nI l3), .ref 22])) rfl ?_
      refine xG.call (d := d + 3) (vs := [.ref 22, .int (nI l3), .int (M4003.2.2.1 0 l2)]) (g := (213, [(0, .ref 22), (1, .int (nI l1)), (2, .int (nI l2)), (3, .int (nI l3))], [])) (fun _ => rfl) rfl (p_R_goes L xs (d + 2) l3 (M4003.2.2.1 0 l2) M4003 _ h) ?_
      clear h
      rintro _ M4008 ⟨rfl, h⟩
      refine ⟨_, rfl, ?_⟩
      refine xG.eqf (f' := (216, [(0, .ref 22), (1, .int (nI l1)), (2, .int (nI l2)), (3, .int (nI l3))], [])) rfl ?_
      refine xG.lv (lv := [(0, .ref 22), (1, .int (nI l1)), (2, .int (nI l2)), (3, .int (nI l3))]) (lv' := [(0, .ref 22), (1, .int (nI l1)), (2, .int (nI l2)), (3, .int (nI l3))]) rfl rfl rfl ?_
      exact p_R_operate_216 L xs d Q l1 l2 l3 M4008 h

def w_R_operate_101 (l1 : Nat) (l2 : Nat) (l3 : Nat) (M : xM) (Q : xM → Prop) : Prop := (1 ≤ M.1 15 ∧ (M.1 15 - 1 < 13 ∧ (1 ≤ M.1 15 ∧ (M.1 15 - 1 < 13 ∧ (l3 < 2147483648 ∧ ((l3 = 42 → (1 ≤ M.1 15 ∧ w_R_operate_216 l1 l2 l3 (dN (dB M 7 (M.1 15 - 1) ((M.2.1 7 (M.1 15 - 1)) + 1)) 15 (M.1 15 - 1)) Q)) ∧ (¬ (l3 = 42) → (l3 < 2147483648 ∧ ((l3 = 41 → (l2 < 2460 ∧ (∃ e3020 : Nat, M.2.2.1 0 l2 = nI e3020 ∧ w_R_enter e3020 (dB M 7 (M.1 15 - 1) ((M.2.1 7 (M.1 15 - 1)) + 1)) (fun M3022 => w_R_operate_216 l1 l2 l3 M3022 Q)))) ∧ (¬ (l3 = 41) → (l3 < 2147483648 ∧ ((45 ≤ l3 → w_R_takes l3 (dB M 7 (M.1 15 - 1) ((M.2.1 7 (M.1 15 - 1)) + 1)) (fun r3012 M3011 => (M.1 9 < 2147483648 ∧ (r3012 < 2147483648 ∧ ((r3012 ≤ M.1 9 → w_R_operate_190 l1 l2 l3 M3011 Q) ∧ (¬ (r3012 ≤ M.1 9) → w_R_wrong 3 M3011 (fun M3016 => w_R_operate_190 l1 l2 l3 M3016 Q))))))) ∧ (¬ (45 ≤ l3) → (l2 < 2460 ∧ w_R_perform l3 (M.2.2.1 0 l2) (dB M 7 (M.1 15 - 1) ((M.2.1 7 (M.1 15 - 1)) + 1)) (fun M3018 => w_R_operate_216 l1 l2 l3 M3018 Q)))))))))))))))
set_option maxRecDepth 8000 in
set_option maxHeartbeats 4000000 in
theorem p_R_operate_101 (L : Nat) (xs : Nat → Int32) (d : Nat) (Q : xM → Prop) (l1 : Nat) (l2 : Nat) (l3 : Nat) (M : xM) (h : w_R_operate_101 l1 l2 l3 M Q) : xG xem (xgt L xs) (d + 4) xi_R_operate (101, [(0, .ref 22), (1, .int (nI l1)), (2, .int (nI l2)), (3, .int (nI l3))], []) M (xPV Q) := by
  unfold w_R_operate_101 at h
  refine xG.seg 7 (f' := (112, [(0, .ref 22), (1, .int (nI l1)), (2, .int (nI l2)), (3, .int (nI l3))], [.int (nI (M.1 15) - nI 1), .ref 36, .int (nI (M.1 15) - nI 1), .ref 36])) (x1 := M) (fun _ => rfl) ?_
  obtain ⟨c3001, h⟩ := h
  refine xG.conv (xe_cut c3001) ?_
  obtain ⟨c3002, h⟩ := h
  refine xG.iald rfl (Or.inl ⟨rfl, rfl⟩) (by decide) (fun _ => rfl) (by decide) c3002 ?_
  refine xG.eqf (f' := (113, [(0, .ref 22), (1, .int (nI l1)), (2, .int (nI l2)), (3, .int (nI l3))], [.int (nI (M.2.1 7 (M.1 15 - 1))), .int (nI (M.1 15) - nI 1), .ref 36])) rfl ?_
  refine xG.seg 2 (f' := (115, [(0, .ref 22), (1, .int (nI l1)), (2, .int (nI l2)), (3, .int (nI l3))], [.int ((nI (M.2.1 7 (M.1 15 - 1))) + (nI 1)), .int (nI (M.1 15) - nI 1), .ref 36])) (x1 := M) (fun _ => rfl) ?_
  refine xG.conv (xe_add (M.2.1 7 (M.1 15 - 1)) 1) ?_
  refine xG.eqf (f' := (115, [(0, .ref 22), (1, .int (nI l1)), (2, .int (nI l2)), (3, .int (nI l3))], [.int (nI ((M.2.1 7 (M.1 15 - 1)) + 1)), .int (nI (M.1 15) - nI 1), .ref 36])) rfl ?_
  obtain ⟨c3003, h⟩ := h
  refine xG.eqf (f' := (115, [(0, .ref 22), (1, .int (nI l1)), (2, .int (nI l2)), (3, .int (nI l3))], [.int (nI ((M.2.1 7 (M.1 15 - 1)) + 1)), .int (nI (M.1 15 - 1)), .ref 36])) (by rw [xe_cut c3003]) ?_
  obtain ⟨c3004, h⟩ := h
  refine xG.iast (x1 := (dB M 7 (M.1 15 - 1) ((M.2.1 7 (M.1 15 - 1)) + 1))) rfl (by decide) (fun _ => rfl) (by decide) c3004 (fun _ => by rw [xu_nI]; rfl) ?_
  refine xG.eqf (f' := (116, [(0, .ref 22), (1, .int (nI l1)), (2, .int (nI l2)), (3, .int (nI l3))], [])) rfl ?_
  refine xG.seg 2 (f' := (119, [(0, .ref 22), (1, .int (nI l1)), (2, .int (nI l2)), (3, .int (nI l3))], [.int (nI 42), .int (nI l3)])) (x1 := (dB M 7 (M.1 15 - 1) ((M.2.1 7 (M.1 15 - 1)) + 1))) (fun _ => rfl) ?_
  obtain ⟨c3005, h⟩ := h
  refine xG.icmp (t := 135) (A := ¬ (l3 = 42)) rfl rfl (xe_c (xt_N c3005) (show ((nI 42) : Int32).toInt = 42 from by decide) (by dsimp only; omega)) (fun k3006 => ?_) (fun k3006 => ?_)
  · replace h := h.2 k3006
    refine xG.seg 2 (f' := (138, [(0, .ref 22), (1, .int (nI l1)), (2, .int (nI l2)), (3, .int (nI l3))], [.int (nI 41), .int (nI l3)])) (x1 := (dB M 7 (M.1 15 - 1) ((M.2.1 7 (M.1 15 - 1)) + 1))) (fun _ => rfl) ?_
    obtain ⟨c3007, h⟩ := h
    refine xG.icmp (t := 154) (A := ¬ (l3 = 41)) rfl rfl (xe_c (xt_N c3007) (show ((nI 41) : Int32).toInt = 41 from by decide) (by dsimp only; omega)) (fun k3008 => ?_) (fun k3008 => ?_)
    · replace h := h.2 k3008
      refine xG.seg 2 (f' := (157, [(0, .ref 22), (1, .int (nI l1)), (2, .int (nI l2)), (3, .int (nI l3))], [.int (nI 45), .int (nI l3)])) (x1 := (dB M 7 (M.1 15 - 1) ((M.2.1 7 (M.1 15 - 1)) + 1))) (fun _ => rfl) ?_
      obtain ⟨c3009, h⟩ := h
      refine xG.icmp (t := 174) (A := 45 ≤ l3) rfl rfl (xe_c (xt_N c3009) (show ((nI 45) : Int32).toInt = 45 from by decide) (by dsimp only; omega)) (fun k3010 => ?_) (fun k3010 => ?_)
      · replace h := h.1 k3010
        refine xG.seg 3 (f' := (179, [(0, .ref 22), (1, .int (nI l1)), (2, .int (nI l2)), (3, .int (nI l3))], [.int (nI l3), .int (nI (M.1 9))])) (x1 := (dB M 7 (M.1 15 - 1) ((M.2.1 7 (M.1 15 - 1)) + 1))) (fun _ => rfl) ?_
        refine xG.call (d := d + 3) (vs := [.int (nI l3)]) (g := (179, [(0, .ref 22), (1, .int (nI l1)), (2, .int (nI l2)), (3, .int (nI l3))], [.int (nI (M.1 9))])) (fun _ => rfl) rfl (p_R_takes L xs (d + 3) l3 (dB M 7 (M.1 15 - 1) ((M.2.1 7 (M.1 15 - 1)) + 1)) _ h) ?_
        clear h
        rintro _ M3011 ⟨r3012, rfl, h⟩
        refine ⟨_, rfl, ?_⟩
        refine xG.eqf (f' := (182, [(0, .ref 22), (1, .int (nI l1)), (2, .int (nI l2)), (3, .int (nI l3))], [.int (nI r3012), .int (nI (M.1 9))])) rfl ?_
        obtain ⟨c3013, h⟩ := h
        obtain ⟨c3014, h⟩ := h
        refine xG.icmp (t := 190) (A := r3012 ≤ M.1 9) rfl rfl (xe_c (xt_N c3013) (xt_N c3014) (by dsimp only; omega)) (fun k3015 => ?_) (fun k3015 => ?_)
        · replace h := h.1 k3015
          refine xG.lv (lv := [(0, .ref 22), (1, .int (nI l1)), (2, .int (nI l2)), (3, .int (nI l3))]) (lv' := [(0, .ref 22), (1, .int (nI l1)), (2, .int (nI l2)), (3, .int (nI l3))]) rfl rfl rfl ?_
          exact p_R_operate_190 L xs d Q l1 l2 l3 M3011 h
        · replace h := h.2 k3015
          refine xG.seg 2 (f' := (187, [(0, .ref 22), (1, .int (nI l1)), (2, .int (nI l2)), (3, .int (nI l3))], [.int (nI 3), .ref 22])) (x1 := M3011) (fun _ => rfl) ?_
          refine xG.call (d := d + 3) (vs := [.ref 22, .int (nI 3)]) (g := (187, [(0, .ref 22), (1, .int (nI l1)), (2, .int (nI l2)), (3, .int (nI l3))], [])) (fun _ => rfl) rfl (p_R_wrong L xs (d + 3) 3 M3011 _ h) ?_
          clear h
          rintro _ M3016 ⟨rfl, h⟩
          refine ⟨_, rfl, ?_⟩
          refine xG.eqf (f' := (190, [(0, .ref 22), (1, .int (nI l1)), (2, .int (nI l2)), (3, .int (nI l3))], [])) rfl ?_
          refine xG.lv (lv := [(0, .ref 22), (1, .int (nI l1)), (2, .int (nI l2)), (3, .int (nI l3))]) (lv' := [(0, .ref 22), (1, .int (nI l1)), (2, .int (nI l2)), (3, .int (nI l3))]) rfl rfl rfl ?_
          exact p_R_operate_190 L xs d Q l1 l2 l3 M3016 h
      · replace h := h.2 k3010
        refine xG.seg 5 (f' := (167, [(0, .ref 22), (1, .int (nI l1)), (2, .int (nI l2)), (3, .int (nI l3))], [.int (nI l2), .ref 27, .int (nI l3), .ref 22])) (x1 := (dB M 7 (M.1 15 - 1) ((M.2.1 7 (M.1 15 - 1)) + 1))) (fun _ => rfl) ?_
        obtain ⟨c3017, h⟩ := h
        refine xG.iald rfl (Or.inl ⟨rfl, rfl⟩) (by decide) (fun _ => rfl) (by decide) c3017 ?_
        refine xG.eqf (f' := (168, [(0, .ref 22), (1, .int (nI l1)), (2, .int (nI l2)), (3, .int (nI l3))], [.int (M.2.2.1 0 l2), .int (nI l3), .ref 22])) rfl ?_
        refine xG.call (d := d + 3) (vs := [.ref 22, .int (nI l3), .int (M.2.2.1 0 l2)]) (g := (168, [(0, .ref 22), (1, .int (nI l1)), (2, .int (nI l2)), (3, .int (nI l3))], [])) (fun _ => rfl) rfl (p_R_perform L xs d l3 (M.2.2.1 0 l2) (dB M 7 (M.1 15 - 1) ((M.2.1 7 (M.1 15 - 1)) + 1)) _ h) ?_
        clear h
        rintro _ M3018 ⟨rfl, h⟩
        refine ⟨_, rfl, ?_⟩
        refine xG.eqf (f' := (171, [(0, .ref 22), (1, .int (nI l1)), (2, .int (nI l2)), (3, .int (nI l3))], [])) rfl ?_
        refine xG.seg 1 (f' := (216, [(0, .ref 22), (1, .int (nI l1)), (2, .int (nI l2)), (3, .int (nI l3))], [])) (x1 := M3018) (fun _ => rfl) ?_
        refine xG.lv (lv := [(0, .ref 22), (1, .int (nI l1)), (2, .int (nI l2)), (3, .int (nI l3))]) (lv' := [(0, .ref 22), (1, .int (nI l1)), (2, .int (nI l2)), (3, .int (nI l3))]) rfl rfl rfl ?_
        exact p_R_operate_216 L xs d Q l1 l2 l3 M3018 h
    · replace h := h.1 (Classical.not_not.mp k3008)
      refine xG.seg 4 (f' := (147, [(0, .ref 22), (1, .int (nI l1)), (2, .int (nI l2)), (3, .int (nI l3))], [.int (nI l2), .ref 27, .ref 22])) (x1 := (dB M 7 (M.1 15 - 1) ((M.2.1 7 (M.1 15 - 1)) + 1))) (fun _ => rfl) ?_
      obtain ⟨c3019, h⟩ := h
      refine xG.iald rfl (Or.inl ⟨rfl, rfl⟩) (by decide) (fun _ => rfl) (by decide) c3019 ?_
      refine xG.eqf (f' := (148, [(0, .ref 22), (1, .int (nI l1)), (2, .int (nI l2)), (3, .int (nI l3))], [.int (M.2.2.1 0 l2), .ref 22])) rfl ?_
      obtain ⟨e3020, c3021, h⟩ := h
      refine xG.conv (c3021) ?_
      refine xG.call (d := d + 3) (vs := [.ref 22, .int (nI e3020)]) (g := (148, [(0, .ref 22), (1, .int (nI l1)), (2, .int (nI l2)), (3, .int (nI l3))], [])) (fun _ => rfl) rfl (p_R_enter L xs (d + 2) e3020 (dB M 7 (M.1 15 - 1) ((M.2.1 7 (M.1 15 - 1)) + 1)) _ h) ?_
      clear h
      rintro _ M3022 ⟨rfl, h⟩
      refine ⟨_, rfl, ?_⟩
      refine xG.eqf (f' := (151, [(0, .ref 22), (1, .int (nI l1)), (2, .int (nI l2)), (3, .int (nI l3))], [])) rfl ?_
      refine xG.seg 1 (f' := (216, [(0, .ref 22), (1, .int (nI l1)), (2, .int (nI l2)), (3, .int (nI l3))], [])) (x1 := M3022) (fun _ => rfl) ?_
      refine xG.lv (lv := [(0, .ref 22), (1, .int (nI l1)), (2, .int (nI l2)), (3, .int (nI l3))]) (lv' := [(0, .ref 22), (1, .int (nI l1)), (2, .int (nI l2)), (3, .int (nI l3))]) rfl rfl rfl ?_
      exact p_R_operate_216 L xs d Q l1 l2 l3 M3022 h
  · replace h := h.1 (Classical.not_not.mp k3006)
    refine xG.seg 5 (f' := (129, [(0, .ref 22), (1, .int (nI l1)), (2, .int (nI l2)), (3, .int (nI l3))], [.int (nI (M.1 15) - nI 1), .ref 22])) (x1 := (dB M 7 (M.1 15 - 1) ((M.2.1 7 (M.1 15 - 1)) + 1))) (fun _ => rfl) ?_
    obtain ⟨c3023, h⟩ := h
    refine xG.conv (xe_cut c3023) ?_
    refine xG.seg 2 (f' := (216, [(0, .ref 22), (1, .int (nI l1)), (2, .int (nI l2)), (3, .int (nI l3))], [])) (x1 := (dN (dB M 7 (M.1 15 - 1) ((M.2.1 7 (M.1 15 - 1)) + 1)) 15 (M.1 15 - 1))) (fun _ => rfl) ?_
    refine xG.lv (lv := [(0, .ref 22), (1, .int (nI l1)), (2, .int (nI l2)), (3, .int (nI l3))]) (lv' := [(0, .ref 22), (1, .int (nI l1)), (2, .int (nI l2)), (3, .int (nI l3))]) rfl rfl rfl ?_
    exact p_R_operate_216 L xs d Q l1 l2 l3 (dN (dB M 7 (M.1 15 - 1) ((M.2.1 7 (M.1 15 - 1)) + 1)) 15 (M.1 15 - 1)) h

def w_R_operate_44 (l1 : Nat) (l2 : Nat) (l3 : Nat) (M : xM) (Q : xM → Prop) : Prop := (l2 < 2460 ∧ (M.2.1 3 l2 < 2147483648 ∧ w_R_takes l3 M (fun r2004 M2003 => ((M.2.1 3 l2) / 16 < 2147483648 ∧ (M.1 9 + ((M.2.1 3 l2) / 16) < 2147483648 ∧ (r2004 < 2147483648 ∧ ((M.1 9 + ((M.2.1 3 l2) / 16) ≤ (M.2.1 3 l2) / 16 + r2004 → ((M.2.1 3 l2) / 16 < 2147483648 ∧ (((M.2.1 3 l2) / 16 ≤ 0 → w_R_operate_101 l1 l2 l3 (dN M2003 13 (M2003.1 13)) Q) ∧ (¬ ((M.2.1 3 l2) / 16 ≤ 0) → (r2004 ≤ M2003.1 13 + (M.1 9 + ((M.2.1 3 l2) / 16)) ∧ w_R_operate_101 l1 l2 l3 (dN M2003 13 (M2003.1 13 + (M.1 9 + ((M.2.1 3 l2) / 16)) - r2004)) Q))))) ∧ (¬ (M.1 9 + ((M.2.1 3 l2) / 16) ≤ (M.2.1 3 l2) / 16 + r2004) → w_R_operate_101 l1 l2 l3 (dN M2003 13 (M2003.1 13 + ((M.2.1 3 l2) / 16))) Q))))))))
set_option maxRecDepth 8000 in
set_option maxHeartbeats 4000000 in
theorem p_R_operate_44 (L : Nat) (xs : Nat → Int32) (d : Nat) (Q : xM → Prop) (l1 : Nat) (l2 : Nat) (l3 : Nat) (M : xM) (h : w_R_operate_44 l1 l2 l3 M Q) : xG xem (xgt L xs) (d + 4) xi_R_operate (44, [(0, .ref 22), (1, .int (nI l1)), (2, .int (nI l2)), (3, .int (nI l3))], []) M (xPV Q) := by
  unfold w_R_operate_44 at h
  refine xG.seg 3 (f' := (49, [(0, .ref 22), (1, .int (nI l1)), (2, .int (nI l2)), (3, .int (nI l3))], [.int (nI l2), .ref 28])) (x1 := M) (fun _ => rfl) ?_
  obtain ⟨c2001, h⟩ := h
  refine xG.iald rfl (Or.inl ⟨rfl, rfl⟩) (by decide) (fun _ => rfl) (by decide) c2001 ?_
  refine xG.eqf (f' := (50, [(0, .ref 22), (1, .int (nI l1)), (2, .int (nI l2)), (3, .int (nI l3))], [.int (nI (M.2.1 3 l2))])) rfl ?_
  obtain ⟨c2002, h⟩ := h
  refine xG.seg 2 (f' := (53, [(0, .ref 22), (1, .int (nI l1)), (2, .int (nI l2)), (3, .int (nI l3))], [.int ((nI (M.2.1 3 l2)) / (nI 16))])) (x1 := M) (fun _ => rfl) ?_
  refine xG.conv (xe_div c2002 (by decide) (by decide)) ?_
  refine xG.seg 4 (f' := (60, [(4, .int (nI ((M.2.1 3 l2) / 16))), (0, .ref 22), (1, .int (nI l1)), (2, .int (nI l2)), (3, .int (nI l3))], [.int (nI l3), .int (nI (M.1 9))])) (x1 := M) (fun _ => rfl) ?_
  refine xG.call (d := d + 3) (vs := [.int (nI l3)]) (g := (60, [(4, .int (nI ((M.2.1 3 l2) / 16))), (0, .ref 22), (1, .int (nI l1)), (2, .int (nI l2)), (3, .int (nI l3))], [.int (nI (M.1 9))])) (fun _ => rfl) rfl (p_R_takes L xs (d + 3) l3 M _ h) ?_
  clear h
  rintro _ M2003 ⟨r2004, rfl, h⟩
  refine ⟨_, rfl, ?_⟩
  refine xG.eqf (f' := (63, [(4, .int (nI ((M.2.1 3 l2) / 16))), (0, .ref 22), (1, .int (nI l1)), (2, .int (nI l2)), (3, .int (nI l3))], [.int (nI r2004), .int (nI (M.1 9))])) rfl ?_
  refine xG.seg 3 (f' := (67, [(4, .int (nI ((M.2.1 3 l2) / 16))), (0, .ref 22), (1, .int (nI l1)), (2, .int (nI l2)), (3, .int (nI l3))], [.int ((nI (M.1 9)) - (nI r2004 - nI ((M.2.1 3 l2) / 16)))])) (x1 := M2003) (fun _ => rfl) ?_
  refine xG.conv (xe_nsz _ _ _) ?_
  refine xG.eqf (f' := (67, [(4, .int (nI ((M.2.1 3 l2) / 16))), (0, .ref 22), (1, .int (nI l1)), (2, .int (nI l2)), (3, .int (nI l3))], [.int (nI (M.1 9 + ((M.2.1 3 l2) / 16)) - nI r2004)])) rfl ?_
  refine xG.seg 6 (f' := (78, [(5, .int (nI (M.1 9 + ((M.2.1 3 l2) / 16)) - nI r2004)), (4, .int (nI ((M.2.1 3 l2) / 16))), (0, .ref 22), (1, .int (nI l1)), (2, .int (nI l2)), (3, .int (nI l3))], [.int (nI (M.1 9 + ((M.2.1 3 l2) / 16)) - nI r2004), .int (nI ((M.2.1 3 l2) / 16)), .int (nI (M2003.1 13)), .ref 22])) (x1 := M2003) (fun _ => rfl) ?_
  obtain ⟨c2005, h⟩ := h
  obtain ⟨c2006, h⟩ := h
  obtain ⟨c2007, h⟩ := h
  refine xG.icmp (t := 86) (A := M.1 9 + ((M.2.1 3 l2) / 16) ≤ (M.2.1 3 l2) / 16 + r2004) rfl rfl (xe_c (xt_N c2005) (xt_Z c2006 c2007) (by dsimp only; omega)) (fun k2008 => ?_) (fun k2008 => ?_)
  · replace h := h.1 k2008
    refine xG.seg 1 (f' := (88, [(5, .int (nI (M.1 9 + ((M.2.1 3 l2) / 16)) - nI r2004)), (4, .int (nI ((M.2.1 3 l2) / 16))), (0, .ref 22), (1, .int (nI l1)), (2, .int (nI l2)), (3, .int (nI l3))], [.int (nI ((M.2.1 3 l2) / 16)), .int (nI (M2003.1 13)), .ref 22])) (x1 := M2003) (fun _ => rfl) ?_
    obtain ⟨c2009, h⟩ := h
    refine xG.ifc (t := 96) (A := (M.2.1 3 l2) / 16 ≤ 0) rfl rfl (xe_c (xt_N c2009) (show (0 : Int32).toInt = 0 from by decide) (by dsimp only; omega)) (fun k2010 => ?_) (fun k2010 => ?_)
    · replace h := h.1 k2010
      refine xG.seg 2 (f' := (98, [(5, .int (nI (M.1 9 + ((M.2.1 3 l2) / 16)) - nI r2004)), (4, .int (nI ((M.2.1 3 l2) / 16))), (0, .ref 22), (1, .int (nI l1)), (2, .int (nI l2)), (3, .int (nI l3))], [.int ((nI (M2003.1 13)) + (nI 0)), .ref 22])) (x1 := M2003) (fun _ => rfl) ?_
      refine xG.conv (xe_add (M2003.1 13) 0) ?_
      refine xG.eqf (f' := (98, [(5, .int (nI (M.1 9 + ((M.2.1 3 l2) / 16)) - nI r2004)), (4, .int (nI ((M.2.1 3 l2) / 16))), (0, .ref 22), (1, .int (nI l1)), (2, .int (nI l2)), (3, .int (nI l3))], [.int (nI (M2003.1 13)), .ref 22])) rfl ?_
      refine xG.seg 1 (f' := (101, [(5, .int (nI (M.1 9 + ((M.2.1 3 l2) / 16)) - nI r2004)), (4, .int (nI ((M.2.1 3 l2) / 16))), (0, .ref 22), (1, .int (nI l1)), (2, .int (nI l2)), (3, .int (nI l3))], [])) (x1 := (dN M2003 13 (M2003.1 13))) (fun _ => rfl) ?_
      refine xG.lv (lv := [(0, .ref 22), (1, .int (nI l1)), (2, .int (nI l2)), (3, .int (nI l3))]) (lv' := [(5, .int (nI (M.1 9 + ((M.2.1 3 l2) / 16)) - nI r2004)), (4, .int (nI ((M.2.1 3 l2) / 16))), (0, .ref 22), (1, .int (nI l1)), (2, .int (nI l2)), (3, .int (nI l3))]) rfl rfl rfl ?_
      exact p_R_operate_101 L xs d Q l1 l2 l3 (dN M2003 13 (M2003.1 13)) h
    · replace h := h.2 k2010
      refine xG.seg 3 (f' := (98, [(5, .int (nI (M.1 9 + ((M.2.1 3 l2) / 16)) - nI r2004)), (4, .int (nI ((M.2.1 3 l2) / 16))), (0, .ref 22), (1, .int (nI l1)), (2, .int (nI l2)), (3, .int (nI l3))], [.int ((nI (M2003.1 13)) + (nI (M.1 9 + ((M.2.1 3 l2) / 16)) - nI r2004)), .ref 22])) (x1 := M2003) (fun _ => rfl) ?_
      refine xG.conv (xe_nz _ _ _) ?_
      refine xG.eqf (f' := (98, [(5, .int (nI (M.1 9 + ((M.2.1 3 l2) / 16)) - nI r2004)), (4, .int (nI ((M.2.1 3 l2) / 16))), (0, .ref 22), (1, .int (nI l1)), (2, .int (nI l2)), (3, .int (nI l3))], [.int (nI (M2003.1 13 + (M.1 9 + ((M.2.1 3 l2) / 16))) - nI r2004), .ref 22])) rfl ?_
      obtain ⟨c2011, h⟩ := h
      refine xG.conv (xe_cut c2011) ?_
      refine xG.seg 1 (f' := (101, [(5, .int (nI (M.1 9 + ((M.2.1 3 l2) / 16)) - nI r2004)), (4, .int (nI ((M.2.1 3 l2) / 16))), (0, .ref 22), (1, .int (nI l1)), (2, .int (nI l2)), (3, .int (nI l3))], [])) (x1 := (dN M2003 13 (M2003.1 13 + (M.1 9 + ((M.2.1 3 l2) / 16)) - r2004))) (fun _ => rfl) ?_
      refine xG.lv (lv := [(0, .ref 22), (1, .int (nI l1)), (2, .int (nI l2)), (3, .int (nI l3))]) (lv' := [(5, .int (nI (M.1 9 + ((M.2.1 3 l2) / 16)) - nI r2004)), (4, .int (nI ((M.2.1 3 l2) / 16))), (0, .ref 22), (1, .int (nI l1)), (2, .int (nI l2)), (3, .int (nI l3))]) rfl rfl rfl ?_
      exact p_R_operate_101 L xs d Q l1 l2 l3 (dN M2003 13 (M2003.1 13 + (M.1 9 + ((M.2.1 3 l2) / 16)) - r2004)) h
  · replace h := h.2 k2008
    refine xG.seg 3 (f' := (98, [(5, .int (nI (M.1 9 + ((M.2.1 3 l2) / 16)) - nI r2004)), (4, .int (nI ((M.2.1 3 l2) / 16))), (0, .ref 22), (1, .int (nI l1)), (2, .int (nI l2)), (3, .int (nI l3))], [.int ((nI (M2003.1 13)) + (nI ((M.2.1 3 l2) / 16))), .ref 22])) (x1 := M2003) (fun _ => rfl) ?_
    refine xG.conv (xe_add (M2003.1 13) ((M.2.1 3 l2) / 16)) ?_
    refine xG.eqf (f' := (98, [(5, .int (nI (M.1 9 + ((M.2.1 3 l2) / 16)) - nI r2004)), (4, .int (nI ((M.2.1 3 l2) / 16))), (0, .ref 22), (1, .int (nI l1)), (2, .int (nI l2)), (3, .int (nI l3))], [.int (nI (M2003.1 13 + ((M.2.1 3 l2) / 16))), .ref 22])) rfl ?_
    refine xG.seg 1 (f' := (101, [(5, .int (nI (M.1 9 + ((M.2.1 3 l2) / 16)) - nI r2004)), (4, .int (nI ((M.2.1 3 l2) / 16))), (0, .ref 22), (1, .int (nI l1)), (2, .int (nI l2)), (3, .int (nI l3))], [])) (x1 := (dN M2003 13 (M2003.1 13 + ((M.2.1 3 l2) / 16)))) (fun _ => rfl) ?_
    refine xG.lv (lv := [(0, .ref 22), (1, .int (nI l1)), (2, .int (nI l2)), (3, .int (nI l3))]) (lv' := [(5, .int (nI (M.1 9 + ((M.2.1 3 l2) / 16)) - nI r2004)), (4, .int (nI ((M.2.1 3 l2) / 16))), (0, .ref 22), (1, .int (nI l1)), (2, .int (nI l2)), (3, .int (nI l3))]) rfl rfl rfl ?_
    exact p_R_operate_101 L xs d Q l1 l2 l3 (dN M2003 13 (M2003.1 13 + ((M.2.1 3 l2) / 16))) h

def w_R_operate (M : xM) (Q : xM → Prop) : Prop := (1 ≤ M.1 15 ∧ (M.1 15 - 1 < 13 ∧ (1 ≤ M.1 15 ∧ (M.1 15 - 1 < 13 ∧ ((60 * (M.2.1 6 (M.1 15 - 1))) + (M.2.1 7 (M.1 15 - 1)) < 2460 ∧ w_R_step M (fun r7 M6 => (r7 < 2147483648 ∧ ((r7 = 0 → Q M6) ∧ (¬ (r7 = 0) → w_R_operate_44 (M.2.1 6 (M.1 15 - 1)) ((60 * (M.2.1 6 (M.1 15 - 1))) + (M.2.1 7 (M.1 15 - 1))) (M.2.1 2 ((60 * (M.2.1 6 (M.1 15 - 1))) + (M.2.1 7 (M.1 15 - 1)))) M6 Q)))))))))
set_option maxRecDepth 8000 in
set_option maxHeartbeats 4000000 in
theorem p_R_operate (L : Nat) (xs : Nat → Int32) (d : Nat) (M : xM) (Q : xM → Prop) (h : w_R_operate M Q) : xG xem (xgt L xs) (d + 4) xi_R_operate (0, [(0, .ref 22)], []) M (xPV Q) := by
  unfold w_R_operate at h
  refine xG.seg 6 (f' := (10, [(0, .ref 22)], [.int (nI (M.1 15) - nI 1), .ref 35])) (x1 := M) (fun _ => rfl) ?_
  obtain ⟨c1, h⟩ := h
  refine xG.conv (xe_cut c1) ?_
  obtain ⟨c2, h⟩ := h
  refine xG.iald rfl (Or.inl ⟨rfl, rfl⟩) (by decide) (fun _ => rfl) (by decide) c2 ?_
  refine xG.eqf (f' := (11, [(0, .ref 22)], [.int (nI (M.2.1 6 (M.1 15 - 1)))])) rfl ?_
  refine xG.seg 4 (f' := (16, [(1, .int (nI (M.2.1 6 (M.1 15 - 1)))), (0, .ref 22)], [.int ((nI 60) * (nI (M.2.1 6 (M.1 15 - 1))))])) (x1 := M) (fun _ => rfl) ?_
  refine xG.conv (xe_mul _ _) ?_
  refine xG.seg 6 (f' := (26, [(1, .int (nI (M.2.1 6 (M.1 15 - 1)))), (0, .ref 22)], [.int (nI (M.1 15) - nI 1), .ref 36, .int (nI (60 * (M.2.1 6 (M.1 15 - 1))))])) (x1 := M) (fun _ => rfl) ?_
  obtain ⟨c3, h⟩ := h
  refine xG.conv (xe_cut c3) ?_
  obtain ⟨c4, h⟩ := h
  refine xG.iald rfl (Or.inl ⟨rfl, rfl⟩) (by decide) (fun _ => rfl) (by decide) c4 ?_
  refine xG.eqf (f' := (27, [(1, .int (nI (M.2.1 6 (M.1 15 - 1)))), (0, .ref 22)], [.int (nI (M.2.1 7 (M.1 15 - 1))), .int (nI (60 * (M.2.1 6 (M.1 15 - 1))))])) rfl ?_
  refine xG.seg 1 (f' := (28, [(1, .int (nI (M.2.1 6 (M.1 15 - 1)))), (0, .ref 22)], [.int ((nI (60 * (M.2.1 6 (M.1 15 - 1)))) + (nI (M.2.1 7 (M.1 15 - 1))))])) (x1 := M) (fun _ => rfl) ?_
  refine xG.conv (xe_add (60 * (M.2.1 6 (M.1 15 - 1))) (M.2.1 7 (M.1 15 - 1))) ?_
  refine xG.eqf (f' := (28, [(1, .int (nI (M.2.1 6 (M.1 15 - 1)))), (0, .ref 22)], [.int (nI ((60 * (M.2.1 6 (M.1 15 - 1))) + (M.2.1 7 (M.1 15 - 1))))])) rfl ?_
  refine xG.seg 4 (f' := (34, [(2, .int (nI ((60 * (M.2.1 6 (M.1 15 - 1))) + (M.2.1 7 (M.1 15 - 1))))), (1, .int (nI (M.2.1 6 (M.1 15 - 1)))), (0, .ref 22)], [.int (nI ((60 * (M.2.1 6 (M.1 15 - 1))) + (M.2.1 7 (M.1 15 - 1)))), .ref 26])) (x1 := M) (fun _ => rfl) ?_
  obtain ⟨c5, h⟩ := h
  refine xG.iald rfl (Or.inl ⟨rfl, rfl⟩) (by decide) (fun _ => rfl) (by decide) c5 ?_
  refine xG.eqf (f' := (35, [(2, .int (nI ((60 * (M.2.1 6 (M.1 15 - 1))) + (M.2.1 7 (M.1 15 - 1))))), (1, .int (nI (M.2.1 6 (M.1 15 - 1)))), (0, .ref 22)], [.int (nI (M.2.1 2 ((60 * (M.2.1 6 (M.1 15 - 1))) + (M.2.1 7 (M.1 15 - 1)))))])) rfl ?_
  refine xG.seg 2 (f' := (37, [(3, .int (nI (M.2.1 2 ((60 * (M.2.1 6 (M.1 15 - 1))) + (M.2.1 7 (M.1 15 - 1)))))), (2, .int (nI ((60 * (M.2.1 6 (M.1 15 - 1))) + (M.2.1 7 (M.1 15 - 1))))), (1, .int (nI (M.2.1 6 (M.1 15 - 1)))), (0, .ref 22)], [.ref 22])) (x1 := M) (fun _ => rfl) ?_
  refine xG.call (d := d + 3) (vs := [.ref 22]) (g := (37, [(3, .int (nI (M.2.1 2 ((60 * (M.2.1 6 (M.1 15 - 1))) + (M.2.1 7 (M.1 15 - 1)))))), (2, .int (nI ((60 * (M.2.1 6 (M.1 15 - 1))) + (M.2.1 7 (M.1 15 - 1))))), (1, .int (nI (M.2.1 6 (M.1 15 - 1)))), (0, .ref 22)], [])) (fun _ => rfl) rfl (p_R_step L xs (d + 2) M _ h) ?_
  clear h
  rintro _ M6 ⟨r7, rfl, h⟩
  refine ⟨_, rfl, ?_⟩
  refine xG.eqf (f' := (40, [(3, .int (nI (M.2.1 2 ((60 * (M.2.1 6 (M.1 15 - 1))) + (M.2.1 7 (M.1 15 - 1)))))), (2, .int (nI ((60 * (M.2.1 6 (M.1 15 - 1))) + (M.2.1 7 (M.1 15 - 1))))), (1, .int (nI (M.2.1 6 (M.1 15 - 1)))), (0, .ref 22)], [.int (nI r7)])) rfl ?_
  obtain ⟨c8, h⟩ := h
  refine xG.ifc (t := 44) (A := ¬ (r7 = 0)) rfl rfl (xe_c (xt_N c8) (show (0 : Int32).toInt = 0 from by decide) (by dsimp only; omega)) (fun k9 => ?_) (fun k9 => ?_)
  · replace h := h.2 k9
    refine xG.lv (lv := [(0, .ref 22), (1, .int (nI (M.2.1 6 (M.1 15 - 1)))), (2, .int (nI ((60 * (M.2.1 6 (M.1 15 - 1))) + (M.2.1 7 (M.1 15 - 1))))), (3, .int (nI (M.2.1 2 ((60 * (M.2.1 6 (M.1 15 - 1))) + (M.2.1 7 (M.1 15 - 1))))))]) (lv' := [(3, .int (nI (M.2.1 2 ((60 * (M.2.1 6 (M.1 15 - 1))) + (M.2.1 7 (M.1 15 - 1)))))), (2, .int (nI ((60 * (M.2.1 6 (M.1 15 - 1))) + (M.2.1 7 (M.1 15 - 1))))), (1, .int (nI (M.2.1 6 (M.1 15 - 1)))), (0, .ref 22)]) rfl rfl rfl ?_
    exact p_R_operate_44 L xs d Q (M.2.1 6 (M.1 15 - 1)) ((60 * (M.2.1 6 (M.1 15 - 1))) + (M.2.1 7 (M.1 15 - 1))) (M.2.1 2 ((60 * (M.2.1 6 (M.1 15 - 1))) + (M.2.1 7 (M.1 15 - 1)))) M6 h
  · replace h := h.1 (Classical.not_not.mp k9)
    exact xG.fin (fun _ => rfl) (⟨rfl, h⟩)

def wi_R_run_13 (K : xM → Prop) (M : xM) (Q : xM → Prop) : Prop := (M.1 15 < 2147483648 ∧ ((M.1 15 ≤ 0 → Q M) ∧ (¬ (M.1 15 ≤ 0) → (M.1 1 < 2147483648 ∧ ((M.1 1 = 0 → w_R_operate M (fun M2005 => K M2005)) ∧ (¬ (M.1 1 = 0) → Q M))))))
set_option maxRecDepth 8000 in
set_option maxHeartbeats 4000000 in
theorem pi_R_run_13 (L : Nat) (xs : Nat → Int32) (d : Nat) (Q : xM → Prop) (K : xM → Prop) (hK : ∀ (M : xM), K M → xG xem (xgt L xs) (d + 5) xi_R_run (13, [(0, .ref 22)], []) M (xPV Q)) (M : xM) (h : wi_R_run_13 K M Q) : xG xem (xgt L xs) (d + 5) xi_R_run (13, [(0, .ref 22)], []) M (xPV Q) := by
  unfold wi_R_run_13 at h
  refine xG.seg 2 (f' := (17, [(0, .ref 22)], [.int (nI (M.1 15))])) (x1 := M) (fun _ => rfl) ?_
  obtain ⟨c2001, h⟩ := h
  refine xG.ifc (t := 34) (A := M.1 15 ≤ 0) rfl rfl (xe_c (xt_N c2001) (show (0 : Int32).toInt = 0 from by decide) (by dsimp only; omega)) (fun k2002 => ?_) (fun k2002 => ?_)
  · replace h := h.1 k2002
    exact xG.fin (fun _ => rfl) (⟨rfl, h⟩)
  · replace h := h.2 k2002
    refine xG.seg 2 (f' := (24, [(0, .ref 22)], [.int (nI (M.1 1))])) (x1 := M) (fun _ => rfl) ?_
    obtain ⟨c2003, h⟩ := h
    refine xG.ifc (t := 34) (A := ¬ (M.1 1 = 0)) rfl rfl (xe_c (xt_N c2003) (show (0 : Int32).toInt = 0 from by decide) (by dsimp only; omega)) (fun k2004 => ?_) (fun k2004 => ?_)
    · replace h := h.2 k2004
      exact xG.fin (fun _ => rfl) (⟨rfl, h⟩)
    · replace h := h.1 (Classical.not_not.mp k2004)
      refine xG.seg 1 (f' := (28, [(0, .ref 22)], [.ref 22])) (x1 := M) (fun _ => rfl) ?_
      refine xG.call (d := d + 4) (vs := [.ref 22]) (g := (28, [(0, .ref 22)], [])) (fun _ => rfl) rfl (p_R_operate L xs d M _ h) ?_
      clear h
      rintro _ M2005 ⟨rfl, h⟩
      refine ⟨_, rfl, ?_⟩
      refine xG.eqf (f' := (31, [(0, .ref 22)], [])) rfl ?_
      refine xG.seg 1 (f' := (13, [(0, .ref 22)], [])) (x1 := M2005) (fun _ => rfl) ?_
      refine xG.lv (lv := [(0, .ref 22)]) (lv' := [(0, .ref 22)]) rfl rfl rfl ?_
      exact hK M2005 h

def w_R_run_13 : Nat → (xM) → (xM → Prop) → Prop
  | 0, _, _ => False
  | n + 1, C, Q => wi_R_run_13 (fun C => w_R_run_13 n C Q) C Q
theorem p_R_run_13 (L : Nat) (xs : Nat → Int32) (d : Nat) (Q : xM → Prop) : ∀ (n : Nat) (M : xM), w_R_run_13 n M Q → xG xem (xgt L xs) (d + 5) xi_R_run (13, [(0, .ref 22)], []) M (xPV Q)
  | 0, _, h => by cases h
  | n + 1, C, h => pi_R_run_13 L xs d Q (fun C => w_R_run_13 n C Q) (fun C h => p_R_run_13 L xs d Q n C h) C h

def w_R_run (x1 : Nat) (M : xM) (Q : xM → Prop) : Prop := w_R_step M (fun r2 M1 => (r2 < 2147483648 ∧ ((r2 = 0 → Q M1) ∧ (¬ (r2 = 0) → w_R_enter x1 M1 (fun M5 => ∃ fu6 : Nat, w_R_run_13 fu6 M5 Q)))))
set_option maxRecDepth 8000 in
set_option maxHeartbeats 4000000 in
theorem p_R_run (L : Nat) (xs : Nat → Int32) (d : Nat) (x1 : Nat) (M : xM) (Q : xM → Prop) (h : w_R_run x1 M Q) : xG xem (xgt L xs) (d + 5) xi_R_run (0, [(0, .ref 22), (1, .int (nI x1))], []) M (xPV Q) := by
  unfold w_R_run at h
  refine xG.seg 1 (f' := (1, [(0, .ref 22), (1, .int (nI x1))], [.ref 22])) (x1 := M) (fun _ => rfl) ?_
  refine xG.call (d := d + 4) (vs := [.ref 22]) (g := (1, [(0, .ref 22), (1, .int (nI x1))], [])) (fun _ => rfl) rfl (p_R_step L xs (d + 3) M _ h) ?_
  clear h
  rintro _ M1 ⟨r2, rfl, h⟩
  refine ⟨_, rfl, ?_⟩
  refine xG.eqf (f' := (4, [(0, .ref 22), (1, .int (nI x1))], [.int (nI r2)])) rfl ?_
  obtain ⟨c3, h⟩ := h
  refine xG.ifc (t := 8) (A := ¬ (r2 = 0)) rfl rfl (xe_c (xt_N c3) (show (0 : Int32).toInt = 0 from by decide) (by dsimp only; omega)) (fun k4 => ?_) (fun k4 => ?_)
  · replace h := h.2 k4
    refine xG.seg 2 (f' := (10, [(0, .ref 22), (1, .int (nI x1))], [.int (nI x1), .ref 22])) (x1 := M1) (fun _ => rfl) ?_
    refine xG.call (d := d + 4) (vs := [.ref 22, .int (nI x1)]) (g := (10, [(0, .ref 22), (1, .int (nI x1))], [])) (fun _ => rfl) rfl (p_R_enter L xs (d + 3) x1 M1 _ h) ?_
    clear h
    rintro _ M5 ⟨rfl, h⟩
    refine ⟨_, rfl, ?_⟩
    refine xG.eqf (f' := (13, [(0, .ref 22), (1, .int (nI x1))], [])) rfl ?_
    refine xG.lv (lv := [(0, .ref 22)]) (lv' := [(0, .ref 22), (1, .int (nI x1))]) rfl rfl rfl ?_
    obtain ⟨fu6, h⟩ := h
    exact p_R_run_13 L xs d Q fu6 M5 h
  · replace h := h.1 (Classical.not_not.mp k4)
    exact xG.fin (fun _ => rfl) (⟨rfl, h⟩)

def w_R_other (x1 : Int64) (M : xM) (Q : Nat → xM → Prop) : Prop := ((x1 = ((58)) → Q 51 M) ∧ (¬ (x1 = ((58))) → ((x1 = ((6215339435328949317)) → Q 52 M) ∧ (¬ (x1 = ((6215339435328949317))) → ((x1 = ((4850181443504131668)) → Q 53 M) ∧ (¬ (x1 = ((4850181443504131668))) → ((x1 = ((59)) → Q 54 M) ∧ (¬ (x1 = ((59))) → ((x1 = ((1163413844)) → Q 55 M) ∧ (¬ (x1 = ((1163413844))) → ((x1 = ((23157103586857797)) → Q 56 M) ∧ (¬ (x1 = ((23157103586857797))) → ((x1 = ((18758)) → Q 57 M) ∧ (¬ (x1 = ((18758))) → ((x1 = ((1162629957)) → Q 58 M) ∧ (¬ (x1 = ((1162629957))) → ((x1 = ((1414022478)) → Q 59 M) ∧ (¬ (x1 = ((1414022478))) → ((x1 = ((284630141262)) → Q 60 M) ∧ (¬ (x1 = ((284630141262))) → ((x1 = ((366386366796)) → Q 61 M) ∧ (¬ (x1 = ((366386366796))) → ((x1 = ((280368335182)) → Q 62 M) ∧ (¬ (x1 = ((280368335182))) → ((x1 = ((374874917957)) → Q 63 M) ∧ (¬ (x1 = ((374874917957))) → ((x1 = ((90457652937044)) → Q 64 M) ∧ (¬ (x1 = ((90457652937044))) → ((x1 = ((17487)) → Q 65 M) ∧ (¬ (x1 = ((17487))) → ((x1 = ((1280266064)) → Q 66 M) ∧ (¬ (x1 = ((1280266064))) → ((x1 = ((73)) → Q 36 M) ∧ (¬ (x1 = ((73))) → Q 0 M))))))))))))))))))))))))))))))))))
set_option maxRecDepth 8000 in
set_option maxHeartbeats 4000000 in
theorem p_R_other (L : Nat) (xs : Nat → Int32) (d : Nat) (x1 : Int64) (M : xM) (Q : Nat → xM → Prop) (h : w_R_other x1 M Q) : xG xem (xgt L xs) (d) xi_R_other (0, [(0, .long x1)], []) M (xPM Q) := by
  unfold w_R_other at h
  refine xG.seg 3 (f' := (5, [(0, .long x1)], [.int (lg_cmp x1 ((58)))])) (x1 := M) (fun _ => rfl) ?_
  refine xG.ifc (t := 11) (A := ¬ (x1 = ((58)))) rfl rfl (xe_lcn _ _) (fun k1 => ?_) (fun k1 => ?_)
  · replace h := h.2 k1
    refine xG.seg 3 (f' := (16, [(0, .long x1)], [.int (lg_cmp x1 ((6215339435328949317)))])) (x1 := M) (fun _ => rfl) ?_
    refine xG.ifc (t := 22) (A := ¬ (x1 = ((6215339435328949317)))) rfl rfl (xe_lcn _ _) (fun k2 => ?_) (fun k2 => ?_)
    · replace h := h.2 k2
      refine xG.seg 3 (f' := (27, [(0, .long x1)], [.int (lg_cmp x1 ((4850181443504131668)))])) (x1 := M) (fun _ => rfl) ?_
      refine xG.ifc (t := 33) (A := ¬ (x1 = ((4850181443504131668)))) rfl rfl (xe_lcn _ _) (fun k3 => ?_) (fun k3 => ?_)
      · replace h := h.2 k3
        refine xG.seg 3 (f' := (38, [(0, .long x1)], [.int (lg_cmp x1 ((59)))])) (x1 := M) (fun _ => rfl) ?_
        refine xG.ifc (t := 44) (A := ¬ (x1 = ((59)))) rfl rfl (xe_lcn _ _) (fun k4 => ?_) (fun k4 => ?_)
        · replace h := h.2 k4
          refine xG.seg 3 (f' := (49, [(0, .long x1)], [.int (lg_cmp x1 ((1163413844)))])) (x1 := M) (fun _ => rfl) ?_
          refine xG.ifc (t := 55) (A := ¬ (x1 = ((1163413844)))) rfl rfl (xe_lcn _ _) (fun k5 => ?_) (fun k5 => ?_)
          · replace h := h.2 k5
            refine xG.seg 3 (f' := (60, [(0, .long x1)], [.int (lg_cmp x1 ((23157103586857797)))])) (x1 := M) (fun _ => rfl) ?_
            refine xG.ifc (t := 66) (A := ¬ (x1 = ((23157103586857797)))) rfl rfl (xe_lcn _ _) (fun k6 => ?_) (fun k6 => ?_)
            · replace h := h.2 k6
              refine xG.seg 3 (f' := (71, [(0, .long x1)], [.int (lg_cmp x1 ((18758)))])) (x1 := M) (fun _ => rfl) ?_
              refine xG.ifc (t := 77) (A := ¬ (x1 = ((18758)))) rfl rfl (xe_lcn _ _) (fun k7 => ?_) (fun k7 => ?_)
              · replace h := h.2 k7
                refine xG.seg 3 (f' := (82, [(0, .long x1)], [.int (lg_cmp x1 ((1162629957)))])) (x1 := M) (fun _ => rfl) ?_
                refine xG.ifc (t := 88) (A := ¬ (x1 = ((1162629957)))) rfl rfl (xe_lcn _ _) (fun k8 => ?_) (fun k8 => ?_)
                · replace h := h.2 k8
                  refine xG.seg 3 (f' := (93, [(0, .long x1)], [.int (lg_cmp x1 ((1414022478)))])) (x1 := M) (fun _ => rfl) ?_
                  refine xG.ifc (t := 99) (A := ¬ (x1 = ((1414022478)))) rfl rfl (xe_lcn _ _) (fun k9 => ?_) (fun k9 => ?_)
                  · replace h := h.2 k9
                    refine xG.seg 3 (f' := (104, [(0, .long x1)], [.int (lg_cmp x1 ((284630141262)))])) (x1 := M) (fun _ => rfl) ?_
                    refine xG.ifc (t := 110) (A := ¬ (x1 = ((284630141262)))) rfl rfl (xe_lcn _ _) (fun k10 => ?_) (fun k10 => ?_)
                    · replace h := h.2 k10
                      refine xG.seg 3 (f' := (115, [(0, .long x1)], [.int (lg_cmp x1 ((366386366796)))])) (x1 := M) (fun _ => rfl) ?_
                      refine xG.ifc (t := 121) (A := ¬ (x1 = ((366386366796)))) rfl rfl (xe_lcn _ _) (fun k11 => ?_) (fun k11 => ?_)
                      · replace h := h.2 k11
                        refine xG.seg 3 (f' := (126, [(0, .long x1)], [.int (lg_cmp x1 ((280368335182)))])) (x1 := M) (fun _ => rfl) ?_
                        refine xG.ifc (t := 132) (A := ¬ (x1 = ((280368335182)))) rfl rfl (xe_lcn _ _) (fun k12 => ?_) (fun k12 => ?_)
                        · replace h := h.2 k12
                          refine xG.seg 3 (f' := (137, [(0, .long x1)], [.int (lg_cmp x1 ((374874917957)))])) (x1 := M) (fun _ => rfl) ?_
                          refine xG.ifc (t := 143) (A := ¬ (x1 = ((374874917957)))) rfl rfl (xe_lcn _ _) (fun k13 => ?_) (fun k13 => ?_)
                          · replace h := h.2 k13
                            refine xG.seg 3 (f' := (148, [(0, .long x1)], [.int (lg_cmp x1 ((90457652937044)))])) (x1 := M) (fun _ => rfl) ?_
                            refine xG.ifc (t := 154) (A := ¬ (x1 = ((90457652937044)))) rfl rfl (xe_lcn _ _) (fun k14 => ?_) (fun k14 => ?_)
                            · replace h := h.2 k14
                              refine xG.seg 3 (f' := (159, [(0, .long x1)], [.int (lg_cmp x1 ((17487)))])) (x1 := M) (fun _ => rfl) ?_
                              refine xG.ifc (t := 165) (A := ¬ (x1 = ((17487)))) rfl rfl (xe_lcn _ _) (fun k15 => ?_) (fun k15 => ?_)
                              · replace h := h.2 k15
                                refine xG.seg 3 (f' := (170, [(0, .long x1)], [.int (lg_cmp x1 ((1280266064)))])) (x1 := M) (fun _ => rfl) ?_
                                refine xG.ifc (t := 176) (A := ¬ (x1 = ((1280266064)))) rfl rfl (xe_lcn _ _) (fun k16 => ?_) (fun k16 => ?_)
                                · replace h := h.2 k16
                                  refine xG.seg 3 (f' := (181, [(0, .long x1)], [.int (lg_cmp x1 ((73)))])) (x1 := M) (fun _ => rfl) ?_
                                  refine xG.ifc (t := 187) (A := ¬ (x1 = ((73)))) rfl rfl (xe_lcn _ _) (fun k17 => ?_) (fun k17 => ?_)
                                  · replace h := h.2 k17
                                    refine xG.seg 1 (f' := (188, [(0, .long x1)], [.int (-1)])) (x1 := M) (fun _ => rfl) ?_
                                    exact xG.fin (fun _ => rfl) (⟨0, rfl, h⟩)
                                  · replace h := h.1 (Classical.not_not.mp k17)
                                    refine xG.seg 1 (f' := (186, [(0, .long x1)], [.int (nI 35)])) (x1 := M) (fun _ => rfl) ?_
                                    refine xG.conv (xe_up 35 1) ?_
                                    exact xG.fin (fun _ => rfl) (⟨35 + 1, rfl, h⟩)
                                · replace h := h.1 (Classical.not_not.mp k16)
                                  refine xG.seg 1 (f' := (175, [(0, .long x1)], [.int (nI 65)])) (x1 := M) (fun _ => rfl) ?_
                                  refine xG.conv (xe_up 65 1) ?_
                                  exact xG.fin (fun _ => rfl) (⟨65 + 1, rfl, h⟩)
                              · replace h := h.1 (Classical.not_not.mp k15)
                                refine xG.seg 1 (f' := (164, [(0, .long x1)], [.int (nI 64)])) (x1 := M) (fun _ => rfl) ?_
                                refine xG.conv (xe_up 64 1) ?_
                                exact xG.fin (fun _ => rfl) (⟨64 + 1, rfl, h⟩)
                            · replace h := h.1 (Classical.not_not.mp k14)
                              refine xG.seg 1 (f' := (153, [(0, .long x1)], [.int (nI 63)])) (x1 := M) (fun _ => rfl) ?_
                              refine xG.conv (xe_up 63 1) ?_
                              exact xG.fin (fun _ => rfl) (⟨63 + 1, rfl, h⟩)
                          · replace h := h.1 (Classical.not_not.mp k13)
                            refine xG.seg 1 (f' := (142, [(0, .long x1)], [.int (nI 62)])) (x1 := M) (fun _ => rfl) ?_
                            refine xG.conv (xe_up 62 1) ?_
                            exact xG.fin (fun _ => rfl) (⟨62 + 1, rfl, h⟩)
                        · replace h := h.1 (Classical.not_not.mp k12)
                          refine xG.seg 1 (f' := (131, [(0, .long x1)], [.int (nI 61)])) (x1 := M) (fun _ => rfl) ?_
                          refine xG.conv (xe_up 61 1) ?_
                          exact xG.fin (fun _ => rfl) (⟨61 + 1, rfl, h⟩)
                      · replace h := h.1 (Classical.not_not.mp k11)
                        refine xG.seg 1 (f' := (120, [(0, .long x1)], [.int (nI 60)])) (x1 := M) (fun _ => rfl) ?_
                        refine xG.conv (xe_up 60 1) ?_
                        exact xG.fin (fun _ => rfl) (⟨60 + 1, rfl, h⟩)
                    · replace h := h.1 (Classical.not_not.mp k10)
                      refine xG.seg 1 (f' := (109, [(0, .long x1)], [.int (nI 59)])) (x1 := M) (fun _ => rfl) ?_
                      refine xG.conv (xe_up 59 1) ?_
                      exact xG.fin (fun _ => rfl) (⟨59 + 1, rfl, h⟩)
                  · replace h := h.1 (Classical.not_not.mp k9)
                    refine xG.seg 1 (f' := (98, [(0, .long x1)], [.int (nI 58)])) (x1 := M) (fun _ => rfl) ?_
                    refine xG.conv (xe_up 58 1) ?_
                    exact xG.fin (fun _ => rfl) (⟨58 + 1, rfl, h⟩)
                · replace h := h.1 (Classical.not_not.mp k8)
                  refine xG.seg 1 (f' := (87, [(0, .long x1)], [.int (nI 57)])) (x1 := M) (fun _ => rfl) ?_
                  refine xG.conv (xe_up 57 1) ?_
                  exact xG.fin (fun _ => rfl) (⟨57 + 1, rfl, h⟩)
              · replace h := h.1 (Classical.not_not.mp k7)
                refine xG.seg 1 (f' := (76, [(0, .long x1)], [.int (nI 56)])) (x1 := M) (fun _ => rfl) ?_
                refine xG.conv (xe_up 56 1) ?_
                exact xG.fin (fun _ => rfl) (⟨56 + 1, rfl, h⟩)
            · replace h := h.1 (Classical.not_not.mp k6)
              refine xG.seg 1 (f' := (65, [(0, .long x1)], [.int (nI 55)])) (x1 := M) (fun _ => rfl) ?_
              refine xG.conv (xe_up 55 1) ?_
              exact xG.fin (fun _ => rfl) (⟨55 + 1, rfl, h⟩)
          · replace h := h.1 (Classical.not_not.mp k5)
            refine xG.seg 1 (f' := (54, [(0, .long x1)], [.int (nI 54)])) (x1 := M) (fun _ => rfl) ?_
            refine xG.conv (xe_up 54 1) ?_
            exact xG.fin (fun _ => rfl) (⟨54 + 1, rfl, h⟩)
        · replace h := h.1 (Classical.not_not.mp k4)
          refine xG.seg 1 (f' := (43, [(0, .long x1)], [.int (nI 53)])) (x1 := M) (fun _ => rfl) ?_
          refine xG.conv (xe_up 53 1) ?_
          exact xG.fin (fun _ => rfl) (⟨53 + 1, rfl, h⟩)
      · replace h := h.1 (Classical.not_not.mp k3)
        refine xG.seg 1 (f' := (32, [(0, .long x1)], [.int (nI 52)])) (x1 := M) (fun _ => rfl) ?_
        refine xG.conv (xe_up 52 1) ?_
        exact xG.fin (fun _ => rfl) (⟨52 + 1, rfl, h⟩)
    · replace h := h.1 (Classical.not_not.mp k2)
      refine xG.seg 1 (f' := (21, [(0, .long x1)], [.int (nI 51)])) (x1 := M) (fun _ => rfl) ?_
      refine xG.conv (xe_up 51 1) ?_
      exact xG.fin (fun _ => rfl) (⟨51 + 1, rfl, h⟩)
  · replace h := h.1 (Classical.not_not.mp k1)
    refine xG.seg 1 (f' := (10, [(0, .long x1)], [.int (nI 50)])) (x1 := M) (fun _ => rfl) ?_
    refine xG.conv (xe_up 50 1) ?_
    exact xG.fin (fun _ => rfl) (⟨50 + 1, rfl, h⟩)

def w_R_acts_76 (l4 : Nat) (M : xM) (Q : xM → Prop) : Prop := w_R_within_ZNN l4 1 50 52 M (fun r3002 M3001 => (r3002 < 2147483648 ∧ ((r3002 = 0 → (l4 < 2147483648 ∧ ((l4 ≤ 53 → w_R_isNumber M3001 (fun r3008 M3007 => (r3008 < 2147483648 ∧ ((r3008 = 0 → w_R_wrong 1 M3007 (fun M3011 => Q M3011)) ∧ (¬ (r3008 = 0) → w_R_step M3007 (fun r3013 M3012 => (r3013 < 2147483648 ∧ ((r3013 = 0 → Q M3012) ∧ (¬ (r3013 = 0) → w_R_number M3012 (fun r3017 M3016 => w_R_perform 40 r3017 M3016 (fun M3018 => Q M3018))))))))))) ∧ (¬ (l4 ≤ 53) → w_R_wrong 2 M3001 (fun M3019 => Q M3019))))) ∧ (¬ (r3002 = 0) → (1 ≤ l4 ∧ w_R_defines (l4 - 1) M3001 (fun M3021 => Q M3021))))))
set_option maxRecDepth 8000 in
set_option maxHeartbeats 4000000 in
theorem p_R_acts_76 (L : Nat) (xs : Nat → Int32) (d : Nat) (Q : xM → Prop) (l4 : Nat) (M : xM) (h : w_R_acts_76 l4 M Q) : xG xem (xgt L xs) (d + 6) xi_R_acts (76, [(0, .ref 22), (4, .int (nI l4 - nI 1))], []) M (xPV Q) := by
  unfold w_R_acts_76 at h
  refine xG.seg 3 (f' := (82, [(0, .ref 22), (4, .int (nI l4 - nI 1))], [.int (nI 52), .int (nI 50), .int (nI l4 - nI 1)])) (x1 := M) (fun _ => rfl) ?_
  refine xG.call (d := d + 5) (vs := [.int (nI l4 - nI 1), .int (nI 50), .int (nI 52)]) (g := (82, [(0, .ref 22), (4, .int (nI l4 - nI 1))], [])) (fun _ => rfl) rfl (p_R_within_ZNN L xs (d + 5) l4 1 50 52 M _ h) ?_
  clear h
  rintro _ M3001 ⟨r3002, rfl, h⟩
  refine ⟨_, rfl, ?_⟩
  refine xG.eqf (f' := (85, [(0, .ref 22), (4, .int (nI l4 - nI 1))], [.int (nI r3002)])) rfl ?_
  obtain ⟨c3003, h⟩ := h
  refine xG.ifc (t := 97) (A := r3002 = 0) rfl rfl (xe_c (xt_N c3003) (show (0 : Int32).toInt = 0 from by decide) (by dsimp only; omega)) (fun k3004 => ?_) (fun k3004 => ?_)
  · replace h := h.1 k3004
    refine xG.seg 2 (f' := (101, [(0, .ref 22), (4, .int (nI l4 - nI 1))], [.int (nI 52), .int (nI l4 - nI 1)])) (x1 := M3001) (fun _ => rfl) ?_
    obtain ⟨c3005, h⟩ := h
    refine xG.icmp (t := 112) (A := l4 ≤ 53) rfl rfl (xe_c (xt_Z c3005 (by decide)) (show ((nI 52) : Int32).toInt = 52 from by decide) (by dsimp only; omega)) (fun k3006 => ?_) (fun k3006 => ?_)
    · replace h := h.1 k3006
      refine xG.seg 1 (f' := (113, [(0, .ref 22), (4, .int (nI l4 - nI 1))], [.ref 22])) (x1 := M3001) (fun _ => rfl) ?_
      refine xG.call (d := d + 5) (vs := [.ref 22]) (g := (113, [(0, .ref 22), (4, .int (nI l4 - nI 1))], [])) (fun _ => rfl) rfl (p_R_isNumber L xs (d + 4) M3001 _ h) ?_
      clear h
      rintro _ M3007 ⟨r3008, rfl, h⟩
      refine ⟨_, rfl, ?_⟩
      refine xG.eqf (f' := (116, [(0, .ref 22), (4, .int (nI l4 - nI 1))], [.int (nI r3008)])) rfl ?_
      obtain ⟨c3009, h⟩ := h
      refine xG.ifc (t := 139) (A := r3008 = 0) rfl rfl (xe_c (xt_N c3009) (show (0 : Int32).toInt = 0 from by decide) (by dsimp only; omega)) (fun k3010 => ?_) (fun k3010 => ?_)
      · replace h := h.1 k3010
        refine xG.seg 2 (f' := (141, [(0, .ref 22), (4, .int (nI l4 - nI 1))], [.int (nI 1), .ref 22])) (x1 := M3007) (fun _ => rfl) ?_
        refine xG.call (d := d + 5) (vs := [.ref 22, .int (nI 1)]) (g := (141, [(0, .ref 22), (4, .int (nI l4 - nI 1))], [])) (fun _ => rfl) rfl (p_R_wrong L xs (d + 5) 1 M3007 _ h) ?_
        clear h
        rintro _ M3011 ⟨rfl, h⟩
        refine ⟨_, rfl, ?_⟩
        refine xG.eqf (f' := (144, [(0, .ref 22), (4, .int (nI l4 - nI 1))], [])) rfl ?_
        exact xG.fin (fun _ => rfl) (⟨rfl, h⟩)
      · replace h := h.2 k3010
        refine xG.seg 1 (f' := (120, [(0, .ref 22), (4, .int (nI l4 - nI 1))], [.ref 22])) (x1 := M3007) (fun _ => rfl) ?_
        refine xG.call (d := d + 5) (vs := [.ref 22]) (g := (120, [(0, .ref 22), (4, .int (nI l4 - nI 1))], [])) (fun _ => rfl) rfl (p_R_step L xs (d + 4) M3007 _ h) ?_
        clear h
        rintro _ M3012 ⟨r3013, rfl, h⟩
        refine ⟨_, rfl, ?_⟩
        refine xG.eqf (f' := (123, [(0, .ref 22), (4, .int (nI l4 - nI 1))], [.int (nI r3013)])) rfl ?_
        obtain ⟨c3014, h⟩ := h
        refine xG.ifc (t := 144) (A := r3013 = 0) rfl rfl (xe_c (xt_N c3014) (show (0 : Int32).toInt = 0 from by decide) (by dsimp only; omega)) (fun k3015 => ?_) (fun k3015 => ?_)
        · replace h := h.1 k3015
          exact xG.fin (fun _ => rfl) (⟨rfl, h⟩)
        · replace h := h.2 k3015
          refine xG.seg 3 (f' := (130, [(0, .ref 22), (4, .int (nI l4 - nI 1))], [.ref 22, .int (nI 40), .ref 22])) (x1 := M3012) (fun _ => rfl) ?_
          refine xG.call (d := d + 5) (vs := [.ref 22]) (g := (130, [(0, .ref 22), (4, .int (nI l4 - nI 1))], [.int (nI 40), .ref 22])) (fun _ => rfl) rfl (p_R_number L xs (d + 5) M3012 _ h) ?_
          clear h
          rintro _ M3016 ⟨r3017, rfl, h⟩
          refine ⟨_, rfl, ?_⟩
          refine xG.eqf (f' := (133, [(0, .ref 22), (4, .int (nI l4 - nI 1))], [.int r3017, .int (nI 40), .ref 22])) rfl ?_
          refine xG.call (d := d + 5) (vs := [.ref 22, .int (nI 40), .int r3017]) (g := (133, [(0, .ref 22), (4, .int (nI l4 - nI 1))], [])) (fun _ => rfl) rfl (p_R_perform L xs (d + 2) 40 r3017 M3016 _ h) ?_
          clear h
          rintro _ M3018 ⟨rfl, h⟩
          refine ⟨_, rfl, ?_⟩
          refine xG.eqf (f' := (136, [(0, .ref 22), (4, .int (nI l4 - nI 1))], [])) rfl ?_
          refine xG.seg 1 (f' := (144, [(0, .ref 22), (4, .int (nI l4 - nI 1))], [])) (x1 := M3018) (fun _ => rfl) ?_
          exact xG.fin (fun _ => rfl) (⟨rfl, h⟩)
    · replace h := h.2 k3006
      refine xG.seg 2 (f' := (106, [(0, .ref 22), (4, .int (nI l4 - nI 1))], [.int (nI 2), .ref 22])) (x1 := M3001) (fun _ => rfl) ?_
      refine xG.call (d := d + 5) (vs := [.ref 22, .int (nI 2)]) (g := (106, [(0, .ref 22), (4, .int (nI l4 - nI 1))], [])) (fun _ => rfl) rfl (p_R_wrong L xs (d + 5) 2 M3001 _ h) ?_
      clear h
      rintro _ M3019 ⟨rfl, h⟩
      refine ⟨_, rfl, ?_⟩
      refine xG.eqf (f' := (109, [(0, .ref 22), (4, .int (nI l4 - nI 1))], [])) rfl ?_
      refine xG.seg 1 (f' := (144, [(0, .ref 22), (4, .int (nI l4 - nI 1))], [])) (x1 := M3019) (fun _ => rfl) ?_
      exact xG.fin (fun _ => rfl) (⟨rfl, h⟩)
  · replace h := h.2 k3004
    refine xG.seg 2 (f' := (91, [(0, .ref 22), (4, .int (nI l4 - nI 1))], [.int (nI l4 - nI 1), .ref 22])) (x1 := M3001) (fun _ => rfl) ?_
    obtain ⟨c3020, h⟩ := h
    refine xG.conv (xe_cut c3020) ?_
    refine xG.call (d := d + 5) (vs := [.ref 22, .int (nI (l4 - 1))]) (g := (91, [(0, .ref 22), (4, .int (nI l4 - nI 1))], [])) (fun _ => rfl) rfl (p_R_defines L xs (d + 2) (l4 - 1) M3001 _ h) ?_
    clear h
    rintro _ M3021 ⟨rfl, h⟩
    refine ⟨_, rfl, ?_⟩
    refine xG.eqf (f' := (94, [(0, .ref 22), (4, .int (nI l4 - nI 1))], [])) rfl ?_
    refine xG.seg 1 (f' := (144, [(0, .ref 22), (4, .int (nI l4 - nI 1))], [])) (x1 := M3021) (fun _ => rfl) ?_
    exact xG.fin (fun _ => rfl) (⟨rfl, h⟩)

def w_R_acts_32 (l3 : Nat) (l4 : Nat) (M : xM) (Q : xM → Prop) : Prop := (l4 < 2147483648 ∧ ((l4 = 42 → (1 ≤ l3 ∧ w_R_run (l3 - 1) M (fun M2014 => Q M2014))) ∧ (¬ (l4 = 42) → (l4 < 2147483648 ∧ ((l4 ≤ 1 → w_R_acts_76 l4 M Q) ∧ (¬ (l4 ≤ 1) → (l4 < 2147483648 ∧ ((41 ≤ l4 → w_R_acts_76 l4 M Q) ∧ (¬ (41 ≤ l4) → w_R_step M (fun r2008 M2007 => (r2008 < 2147483648 ∧ ((r2008 = 0 → Q M2007) ∧ (¬ (r2008 = 0) → (1 ≤ l4 ∧ w_R_perform (l4 - 1) (nI 0) M2007 (fun M2012 => Q M2012)))))))))))))))
set_option maxRecDepth 8000 in
set_option maxHeartbeats 4000000 in
theorem p_R_acts_32 (L : Nat) (xs : Nat → Int32) (d : Nat) (Q : xM → Prop) (l3 : Nat) (l4 : Nat) (M : xM) (h : w_R_acts_32 l3 l4 M Q) : xG xem (xgt L xs) (d + 6) xi_R_acts (32, [(0, .ref 22), (3, .int (nI l3 - nI 1)), (4, .int (nI l4 - nI 1))], []) M (xPV Q) := by
  unfold w_R_acts_32 at h
  refine xG.seg 2 (f' := (36, [(0, .ref 22), (3, .int (nI l3 - nI 1)), (4, .int (nI l4 - nI 1))], [.int (nI 41), .int (nI l4 - nI 1)])) (x1 := M) (fun _ => rfl) ?_
  obtain ⟨c2001, h⟩ := h
  refine xG.icmp (t := 47) (A := ¬ (l4 = 42)) rfl rfl (xe_c (xt_Z c2001 (by decide)) (show ((nI 41) : Int32).toInt = 41 from by decide) (by dsimp only; omega)) (fun k2002 => ?_) (fun k2002 => ?_)
  · replace h := h.2 k2002
    refine xG.seg 1 (f' := (49, [(0, .ref 22), (3, .int (nI l3 - nI 1)), (4, .int (nI l4 - nI 1))], [.int (nI l4 - nI 1)])) (x1 := M) (fun _ => rfl) ?_
    obtain ⟨c2003, h⟩ := h
    refine xG.ifc (t := 76) (A := l4 ≤ 1) rfl rfl (xe_c (xt_Z c2003 (by decide)) (show (0 : Int32).toInt = 0 from by decide) (by dsimp only; omega)) (fun k2004 => ?_) (fun k2004 => ?_)
    · replace h := h.1 k2004
      refine xG.lv (lv := [(0, .ref 22), (4, .int (nI l4 - nI 1))]) (lv' := [(0, .ref 22), (3, .int (nI l3 - nI 1)), (4, .int (nI l4 - nI 1))]) rfl rfl rfl ?_
      exact p_R_acts_76 L xs d Q l4 M h
    · replace h := h.2 k2004
      refine xG.seg 2 (f' := (56, [(0, .ref 22), (3, .int (nI l3 - nI 1)), (4, .int (nI l4 - nI 1))], [.int (nI 40), .int (nI l4 - nI 1)])) (x1 := M) (fun _ => rfl) ?_
      obtain ⟨c2005, h⟩ := h
      refine xG.icmp (t := 76) (A := 41 ≤ l4) rfl rfl (xe_c (xt_Z c2005 (by decide)) (show ((nI 40) : Int32).toInt = 40 from by decide) (by dsimp only; omega)) (fun k2006 => ?_) (fun k2006 => ?_)
      · replace h := h.1 k2006
        refine xG.lv (lv := [(0, .ref 22), (4, .int (nI l4 - nI 1))]) (lv' := [(0, .ref 22), (3, .int (nI l3 - nI 1)), (4, .int (nI l4 - nI 1))]) rfl rfl rfl ?_
        exact p_R_acts_76 L xs d Q l4 M h
      · replace h := h.2 k2006
        refine xG.seg 1 (f' := (60, [(0, .ref 22), (3, .int (nI l3 - nI 1)), (4, .int (nI l4 - nI 1))], [.ref 22])) (x1 := M) (fun _ => rfl) ?_
        refine xG.call (d := d + 5) (vs := [.ref 22]) (g := (60, [(0, .ref 22), (3, .int (nI l3 - nI 1)), (4, .int (nI l4 - nI 1))], [])) (fun _ => rfl) rfl (p_R_step L xs (d + 4) M _ h) ?_
        clear h
        rintro _ M2007 ⟨r2008, rfl, h⟩
        refine ⟨_, rfl, ?_⟩
        refine xG.eqf (f' := (63, [(0, .ref 22), (3, .int (nI l3 - nI 1)), (4, .int (nI l4 - nI 1))], [.int (nI r2008)])) rfl ?_
        obtain ⟨c2009, h⟩ := h
        refine xG.ifc (t := 144) (A := r2008 = 0) rfl rfl (xe_c (xt_N c2009) (show (0 : Int32).toInt = 0 from by decide) (by dsimp only; omega)) (fun k2010 => ?_) (fun k2010 => ?_)
        · replace h := h.1 k2010
          exact xG.fin (fun _ => rfl) (⟨rfl, h⟩)
        · replace h := h.2 k2010
          refine xG.seg 3 (f' := (70, [(0, .ref 22), (3, .int (nI l3 - nI 1)), (4, .int (nI l4 - nI 1))], [.int (nI 0), .int (nI l4 - nI 1), .ref 22])) (x1 := M2007) (fun _ => rfl) ?_
          obtain ⟨c2011, h⟩ := h
          refine xG.eqf (f' := (70, [(0, .ref 22), (3, .int (nI l3 - nI 1)), (4, .int (nI l4 - nI 1))], [.int (nI 0), .int (nI (l4 - 1)), .ref 22])) (by rw [xe_cut c2011]) ?_
          refine xG.call (d := d + 5) (vs := [.ref 22, .int (nI (l4 - 1)), .int (nI 0)]) (g := (70, [(0, .ref 22), (3, .int (nI l3 - nI 1)), (4, .int (nI l4 - nI 1))], [])) (fun _ => rfl) rfl (p_R_perform L xs (d + 2) (l4 - 1) (nI 0) M2007 _ h) ?_
          clear h
          rintro _ M2012 ⟨rfl, h⟩
          refine ⟨_, rfl, ?_⟩
          refine xG.eqf (f' := (73, [(0, .ref 22), (3, .int (nI l3 - nI 1)), (4, .int (nI l4 - nI 1))], [])) rfl ?_
          refine xG.seg 1 (f' := (144, [(0, .ref 22), (3, .int (nI l3 - nI 1)), (4, .int (nI l4 - nI 1))], [])) (x1 := M2012) (fun _ => rfl) ?_
          exact xG.fin (fun _ => rfl) (⟨rfl, h⟩)
  · replace h := h.1 (Classical.not_not.mp k2002)
    refine xG.seg 2 (f' := (41, [(0, .ref 22), (3, .int (nI l3 - nI 1)), (4, .int (nI l4 - nI 1))], [.int (nI l3 - nI 1), .ref 22])) (x1 := M) (fun _ => rfl) ?_
    obtain ⟨c2013, h⟩ := h
    refine xG.conv (xe_cut c2013) ?_
    refine xG.call (d := d + 5) (vs := [.ref 22, .int (nI (l3 - 1))]) (g := (41, [(0, .ref 22), (3, .int (nI l3 - nI 1)), (4, .int (nI l4 - nI 1))], [])) (fun _ => rfl) rfl (p_R_run L xs d (l3 - 1) M _ h) ?_
    clear h
    rintro _ M2014 ⟨rfl, h⟩
    refine ⟨_, rfl, ?_⟩
    refine xG.eqf (f' := (44, [(0, .ref 22), (3, .int (nI l3 - nI 1)), (4, .int (nI l4 - nI 1))], [])) rfl ?_
    refine xG.seg 1 (f' := (144, [(0, .ref 22), (3, .int (nI l3 - nI 1)), (4, .int (nI l4 - nI 1))], [])) (x1 := M2014) (fun _ => rfl) ?_
    exact xG.fin (fun _ => rfl) (⟨rfl, h⟩)

def w_R_acts (x1 : Int64) (M : xM) (Q : xM → Prop) : Prop := w_R_find x1 M (fun r2 M1 => (r2 < 2147483648 ∧ ((r2 < 1 → w_R_builtIn x1 M1 (fun r6 M5 => (r6 < 2147483648 ∧ ((1 ≤ r6 → w_R_acts_32 r2 r6 M5 Q) ∧ (¬ (1 ≤ r6) → w_R_other x1 M5 (fun r10 M9 => w_R_acts_32 r2 r10 M9 Q)))))) ∧ (¬ (r2 < 1) → ((0 ≤ 41 → w_R_acts_32 r2 42 M1 Q) ∧ (¬ (0 ≤ 41) → w_R_other x1 M1 (fun r13 M12 => w_R_acts_32 r2 r13 M12 Q)))))))
set_option maxRecDepth 8000 in
set_option maxHeartbeats 4000000 in
theorem p_R_acts (L : Nat) (xs : Nat → Int32) (d : Nat) (x1 : Int64) (M : xM) (Q : xM → Prop) (h : w_R_acts x1 M Q) : xG xem (xgt L xs) (d + 6) xi_R_acts (0, [(0, .ref 22), (1, .long x1)], []) M (xPV Q) := by
  unfold w_R_acts at h
  refine xG.seg 2 (f' := (2, [(0, .ref 22), (1, .long x1)], [.long x1, .ref 22])) (x1 := M) (fun _ => rfl) ?_
  refine xG.call (d := d + 5) (vs := [.ref 22, .long x1]) (g := (2, [(0, .ref 22), (1, .long x1)], [])) (fun _ => rfl) rfl (p_R_find L xs (d + 5) x1 M _ h) ?_
  clear h
  rintro _ M1 ⟨r2, rfl, h⟩
  refine ⟨_, rfl, ?_⟩
  refine xG.eqf (f' := (5, [(0, .ref 22), (1, .long x1)], [.int (nI r2 - nI 1)])) rfl ?_
  refine xG.seg 2 (f' := (7, [(3, .int (nI r2 - nI 1)), (0, .ref 22), (1, .long x1)], [.int (nI r2 - nI 1)])) (x1 := M1) (fun _ => rfl) ?_
  obtain ⟨c3, h⟩ := h
  refine xG.ifc (t := 15) (A := r2 < 1) rfl rfl (xe_c (xt_Z c3 (by decide)) (show (0 : Int32).toInt = 0 from by decide) (by dsimp only; omega)) (fun k4 => ?_) (fun k4 => ?_)
  · replace h := h.1 k4
    refine xG.seg 1 (f' := (16, [(3, .int (nI r2 - nI 1)), (0, .ref 22), (1, .long x1)], [.long x1])) (x1 := M1) (fun _ => rfl) ?_
    refine xG.call (d := d + 5) (vs := [.long x1]) (g := (16, [(3, .int (nI r2 - nI 1)), (0, .ref 22), (1, .long x1)], [])) (fun _ => rfl) rfl (p_R_builtIn L xs (d + 5) x1 M1 _ h) ?_
    clear h
    rintro _ M5 ⟨r6, rfl, h⟩
    refine ⟨_, rfl, ?_⟩
    refine xG.eqf (f' := (19, [(3, .int (nI r2 - nI 1)), (0, .ref 22), (1, .long x1)], [.int (nI r6 - nI 1)])) rfl ?_
    refine xG.seg 2 (f' := (23, [(4, .int (nI r6 - nI 1)), (3, .int (nI r2 - nI 1)), (0, .ref 22), (1, .long x1)], [.int (nI r6 - nI 1)])) (x1 := M5) (fun _ => rfl) ?_
    obtain ⟨c7, h⟩ := h
    refine xG.ifc (t := 32) (A := 1 ≤ r6) rfl rfl (xe_c (xt_Z c7 (by decide)) (show (0 : Int32).toInt = 0 from by decide) (by dsimp only; omega)) (fun k8 => ?_) (fun k8 => ?_)
    · replace h := h.1 k8
      refine xG.lv (lv := [(0, .ref 22), (3, .int (nI r2 - nI 1)), (4, .int (nI r6 - nI 1))]) (lv' := [(4, .int (nI r6 - nI 1)), (3, .int (nI r2 - nI 1)), (0, .ref 22), (1, .long x1)]) rfl rfl rfl ?_
      exact p_R_acts_32 L xs d Q r2 r6 M5 h
    · replace h := h.2 k8
      refine xG.seg 1 (f' := (27, [(4, .int (nI r6 - nI 1)), (3, .int (nI r2 - nI 1)), (0, .ref 22), (1, .long x1)], [.long x1])) (x1 := M5) (fun _ => rfl) ?_
      refine xG.call (d := d + 5) (vs := [.long x1]) (g := (27, [(4, .int (nI r6 - nI 1)), (3, .int (nI r2 - nI 1)), (0, .ref 22), (1, .long x1)], [])) (fun _ => rfl) rfl (p_R_other L xs (d + 5) x1 M5 _ h) ?_
      clear h
      rintro _ M9 ⟨r10, rfl, h⟩
      refine ⟨_, rfl, ?_⟩
      refine xG.eqf (f' := (30, [(4, .int (nI r6 - nI 1)), (3, .int (nI r2 - nI 1)), (0, .ref 22), (1, .long x1)], [.int (nI r10 - nI 1)])) rfl ?_
      refine xG.seg 1 (f' := (32, [(4, .int (nI r10 - nI 1)), (3, .int (nI r2 - nI 1)), (0, .ref 22), (1, .long x1)], [])) (x1 := M9) (fun _ => rfl) ?_
      refine xG.lv (lv := [(0, .ref 22), (3, .int (nI r2 - nI 1)), (4, .int (nI r10 - nI 1))]) (lv' := [(4, .int (nI r10 - nI 1)), (3, .int (nI r2 - nI 1)), (0, .ref 22), (1, .long x1)]) rfl rfl rfl ?_
      exact p_R_acts_32 L xs d Q r2 r10 M9 h
  · replace h := h.2 k4
    refine xG.seg 4 (f' := (23, [(4, .int (nI 41)), (3, .int (nI r2 - nI 1)), (0, .ref 22), (1, .long x1)], [.int (nI 41)])) (x1 := M1) (fun _ => rfl) ?_
    refine xG.ifc (t := 32) (A := 0 ≤ 41) rfl rfl (xe_c (show ((nI 41) : Int32).toInt = 41 from by decide) (show (0 : Int32).toInt = 0 from by decide) (by dsimp only; omega)) (fun k11 => ?_) (fun k11 => ?_)
    · replace h := h.1 k11
      refine xG.eqf (f' := (32, [(4, .int (nI 42 - nI 1)), (3, .int (nI r2 - nI 1)), (0, .ref 22), (1, .long x1)], [])) (by rw [xe_up 41 1]) ?_
      refine xG.lv (lv := [(0, .ref 22), (3, .int (nI r2 - nI 1)), (4, .int (nI 42 - nI 1))]) (lv' := [(4, .int (nI 42 - nI 1)), (3, .int (nI r2 - nI 1)), (0, .ref 22), (1, .long x1)]) rfl rfl rfl ?_
      exact p_R_acts_32 L xs d Q r2 42 M1 h
    · replace h := h.2 k11
      refine xG.seg 1 (f' := (27, [(4, .int (nI 41)), (3, .int (nI r2 - nI 1)), (0, .ref 22), (1, .long x1)], [.long x1])) (x1 := M1) (fun _ => rfl) ?_
      refine xG.call (d := d + 5) (vs := [.long x1]) (g := (27, [(4, .int (nI 41)), (3, .int (nI r2 - nI 1)), (0, .ref 22), (1, .long x1)], [])) (fun _ => rfl) rfl (p_R_other L xs (d + 5) x1 M1 _ h) ?_
      clear h
      rintro _ M12 ⟨r13, rfl, h⟩
      refine ⟨_, rfl, ?_⟩
      refine xG.eqf (f' := (30, [(4, .int (nI 41)), (3, .int (nI r2 - nI 1)), (0, .ref 22), (1, .long x1)], [.int (nI r13 - nI 1)])) rfl ?_
      refine xG.seg 1 (f' := (32, [(4, .int (nI r13 - nI 1)), (3, .int (nI r2 - nI 1)), (0, .ref 22), (1, .long x1)], [])) (x1 := M12) (fun _ => rfl) ?_
      refine xG.lv (lv := [(0, .ref 22), (3, .int (nI r2 - nI 1)), (4, .int (nI r13 - nI 1))]) (lv' := [(4, .int (nI r13 - nI 1)), (3, .int (nI r2 - nI 1)), (0, .ref 22), (1, .long x1)]) rfl rfl rfl ?_
      exact p_R_acts_32 L xs d Q r2 r13 M12 h

def w_R_closes (x1 : Nat) (x2 : Nat) (M : xM) (Q : Nat → xM → Prop) : Prop := (M.1 8 < 2147483648 ∧ ((M.1 8 ≤ 0 → ((0 = 0 → w_R_wrong 2 M (fun M4 => Q 0 M4)) ∧ (¬ (0 = 0) → Q 0 M))) ∧ (¬ (M.1 8 ≤ 0) → (1 ≤ M.1 8 ∧ (M.1 8 - 1 < 8 ∧ (M.2.1 4 (M.1 8 - 1) < 2147483648 ∧ (x1 < 2147483648 ∧ ((M.2.1 4 (M.1 8 - 1) = x1 → ((1 = 0 → w_R_wrong 2 M (fun M11 => Q 1 M11)) ∧ (¬ (1 = 0) → Q 1 M))) ∧ (¬ (M.2.1 4 (M.1 8 - 1) = x1) → (1 ≤ M.1 8 ∧ (M.1 8 - 1 < 8 ∧ (M.2.1 4 (M.1 8 - 1) < 2147483648 ∧ (x2 < 2147483648 ∧ ((M.2.1 4 (M.1 8 - 1) = x2 → ((1 = 0 → w_R_wrong 2 M (fun M20 => Q 1 M20)) ∧ (¬ (1 = 0) → Q 1 M))) ∧ (¬ (M.2.1 4 (M.1 8 - 1) = x2) → ((0 = 0 → w_R_wrong 2 M (fun M18 => Q 0 M18)) ∧ (¬ (0 = 0) → Q 0 M)))))))))))))))))
set_option maxRecDepth 8000 in
set_option maxHeartbeats 4000000 in
theorem p_R_closes (L : Nat) (xs : Nat → Int32) (d : Nat) (x1 : Nat) (x2 : Nat) (M : xM) (Q : Nat → xM → Prop) (h : w_R_closes x1 x2 M Q) : xG xem (xgt L xs) (d + 1) xi_R_closes (0, [(0, .ref 22), (1, .int (nI x1)), (2, .int (nI x2))], []) M (xPN Q) := by
  unfold w_R_closes at h
  refine xG.seg 2 (f' := (4, [(0, .ref 22), (1, .int (nI x1)), (2, .int (nI x2))], [.int (nI (M.1 8))])) (x1 := M) (fun _ => rfl) ?_
  obtain ⟨c1, h⟩ := h
  refine xG.ifc (t := 41) (A := M.1 8 ≤ 0) rfl rfl (xe_c (xt_N c1) (show (0 : Int32).toInt = 0 from by decide) (by dsimp only; omega)) (fun k2 => ?_) (fun k2 => ?_)
  · replace h := h.1 k2
    refine xG.seg 3 (f' := (44, [(3, .int (nI 0)), (0, .ref 22), (1, .int (nI x1)), (2, .int (nI x2))], [.int (nI 0)])) (x1 := M) (fun _ => rfl) ?_
    refine xG.ifc (t := 52) (A := ¬ (0 = 0)) rfl rfl (xe_c (show ((nI 0) : Int32).toInt = 0 from by decide) (show (0 : Int32).toInt = 0 from by decide) (by dsimp only; omega)) (fun k3 => ?_) (fun k3 => ?_)
    · replace h := h.2 k3
      refine xG.seg 1 (f' := (53, [(3, .int (nI 0)), (0, .ref 22), (1, .int (nI x1)), (2, .int (nI x2))], [.int (nI 0)])) (x1 := M) (fun _ => rfl) ?_
      exact xG.fin (fun _ => rfl) (⟨_, rfl, h⟩)
    · replace h := h.1 (Classical.not_not.mp k3)
      refine xG.seg 2 (f' := (49, [(3, .int (nI 0)), (0, .ref 22), (1, .int (nI x1)), (2, .int (nI x2))], [.int (nI 2), .ref 22])) (x1 := M) (fun _ => rfl) ?_
      refine xG.call (d := d) (vs := [.ref 22, .int (nI 2)]) (g := (49, [(3, .int (nI 0)), (0, .ref 22), (1, .int (nI x1)), (2, .int (nI x2))], [])) (fun _ => rfl) rfl (p_R_wrong L xs d 2 M _ h) ?_
      clear h
      rintro _ M4 ⟨rfl, h⟩
      refine ⟨_, rfl, ?_⟩
      refine xG.eqf (f' := (52, [(3, .int (nI 0)), (0, .ref 22), (1, .int (nI x1)), (2, .int (nI x2))], [])) rfl ?_
      refine xG.seg 1 (f' := (53, [(3, .int (nI 0)), (0, .ref 22), (1, .int (nI x1)), (2, .int (nI x2))], [.int (nI 0)])) (x1 := M4) (fun _ => rfl) ?_
      exact xG.fin (fun _ => rfl) (⟨_, rfl, h⟩)
  · replace h := h.2 k2
    refine xG.seg 6 (f' := (17, [(0, .ref 22), (1, .int (nI x1)), (2, .int (nI x2))], [.int (nI (M.1 8) - nI 1), .ref 29])) (x1 := M) (fun _ => rfl) ?_
    obtain ⟨c5, h⟩ := h
    refine xG.conv (xe_cut c5) ?_
    obtain ⟨c6, h⟩ := h
    refine xG.iald rfl (Or.inl ⟨rfl, rfl⟩) (by decide) (fun _ => rfl) (by decide) c6 ?_
    refine xG.eqf (f' := (18, [(0, .ref 22), (1, .int (nI x1)), (2, .int (nI x2))], [.int (nI (M.2.1 4 (M.1 8 - 1)))])) rfl ?_
    refine xG.seg 1 (f' := (19, [(0, .ref 22), (1, .int (nI x1)), (2, .int (nI x2))], [.int (nI x1), .int (nI (M.2.1 4 (M.1 8 - 1)))])) (x1 := M) (fun _ => rfl) ?_
    obtain ⟨c7, h⟩ := h
    obtain ⟨c8, h⟩ := h
    refine xG.icmp (t := 37) (A := M.2.1 4 (M.1 8 - 1) = x1) rfl rfl (xe_c (xt_N c7) (xt_N c8) (by dsimp only; omega)) (fun k9 => ?_) (fun k9 => ?_)
    · replace h := h.1 k9
      refine xG.seg 4 (f' := (44, [(3, .int (nI 1)), (0, .ref 22), (1, .int (nI x1)), (2, .int (nI x2))], [.int (nI 1)])) (x1 := M) (fun _ => rfl) ?_
      refine xG.ifc (t := 52) (A := ¬ (1 = 0)) rfl rfl (xe_c (show ((nI 1) : Int32).toInt = 1 from by decide) (show (0 : Int32).toInt = 0 from by decide) (by dsimp only; omega)) (fun k10 => ?_) (fun k10 => ?_)
      · replace h := h.2 k10
        refine xG.seg 1 (f' := (53, [(3, .int (nI 1)), (0, .ref 22), (1, .int (nI x1)), (2, .int (nI x2))], [.int (nI 1)])) (x1 := M) (fun _ => rfl) ?_
        exact xG.fin (fun _ => rfl) (⟨_, rfl, h⟩)
      · replace h := h.1 (Classical.not_not.mp k10)
        refine xG.seg 2 (f' := (49, [(3, .int (nI 1)), (0, .ref 22), (1, .int (nI x1)), (2, .int (nI x2))], [.int (nI 2), .ref 22])) (x1 := M) (fun _ => rfl) ?_
        refine xG.call (d := d) (vs := [.ref 22, .int (nI 2)]) (g := (49, [(3, .int (nI 1)), (0, .ref 22), (1, .int (nI x1)), (2, .int (nI x2))], [])) (fun _ => rfl) rfl (p_R_wrong L xs d 2 M _ h) ?_
        clear h
        rintro _ M11 ⟨rfl, h⟩
        refine ⟨_, rfl, ?_⟩
        refine xG.eqf (f' := (52, [(3, .int (nI 1)), (0, .ref 22), (1, .int (nI x1)), (2, .int (nI x2))], [])) rfl ?_
        refine xG.seg 1 (f' := (53, [(3, .int (nI 1)), (0, .ref 22), (1, .int (nI x1)), (2, .int (nI x2))], [.int (nI 1)])) (x1 := M11) (fun _ => rfl) ?_
        exact xG.fin (fun _ => rfl) (⟨_, rfl, h⟩)
    · replace h := h.2 k9
      refine xG.seg 6 (f' := (32, [(0, .ref 22), (1, .int (nI x1)), (2, .int (nI x2))], [.int (nI (M.1 8) - nI 1), .ref 29])) (x1 := M) (fun _ => rfl) ?_
      obtain ⟨c12, h⟩ := h
      refine xG.conv (xe_cut c12) ?_
      obtain ⟨c13, h⟩ := h
      refine xG.iald rfl (Or.inl ⟨rfl, rfl⟩) (by decide) (fun _ => rfl) (by decide) c13 ?_
      refine xG.eqf (f' := (33, [(0, .ref 22), (1, .int (nI x1)), (2, .int (nI x2))], [.int (nI (M.2.1 4 (M.1 8 - 1)))])) rfl ?_
      refine xG.seg 1 (f' := (34, [(0, .ref 22), (1, .int (nI x1)), (2, .int (nI x2))], [.int (nI x2), .int (nI (M.2.1 4 (M.1 8 - 1)))])) (x1 := M) (fun _ => rfl) ?_
      obtain ⟨c14, h⟩ := h
      obtain ⟨c15, h⟩ := h
      refine xG.icmp (t := 41) (A := ¬ (M.2.1 4 (M.1 8 - 1) = x2)) rfl rfl (xe_c (xt_N c14) (xt_N c15) (by dsimp only; omega)) (fun k16 => ?_) (fun k16 => ?_)
      · replace h := h.2 k16
        refine xG.seg 3 (f' := (44, [(3, .int (nI 0)), (0, .ref 22), (1, .int (nI x1)), (2, .int (nI x2))], [.int (nI 0)])) (x1 := M) (fun _ => rfl) ?_
        refine xG.ifc (t := 52) (A := ¬ (0 = 0)) rfl rfl (xe_c (show ((nI 0) : Int32).toInt = 0 from by decide) (show (0 : Int32).toInt = 0 from by decide) (by dsimp only; omega)) (fun k17 => ?_) (fun k17 => ?_)
        · replace h := h.2 k17
          refine xG.seg 1 (f' := (53, [(3, .int (nI 0)), (0, .ref 22), (1, .int (nI x1)), (2, .int (nI x2))], [.int (nI 0)])) (x1 := M) (fun _ => rfl) ?_
          exact xG.fin (fun _ => rfl) (⟨_, rfl, h⟩)
        · replace h := h.1 (Classical.not_not.mp k17)
          refine xG.seg 2 (f' := (49, [(3, .int (nI 0)), (0, .ref 22), (1, .int (nI x1)), (2, .int (nI x2))], [.int (nI 2), .ref 22])) (x1 := M) (fun _ => rfl) ?_
          refine xG.call (d := d) (vs := [.ref 22, .int (nI 2)]) (g := (49, [(3, .int (nI 0)), (0, .ref 22), (1, .int (nI x1)), (2, .int (nI x2))], [])) (fun _ => rfl) rfl (p_R_wrong L xs d 2 M _ h) ?_
          clear h
          rintro _ M18 ⟨rfl, h⟩
          refine ⟨_, rfl, ?_⟩
          refine xG.eqf (f' := (52, [(3, .int (nI 0)), (0, .ref 22), (1, .int (nI x1)), (2, .int (nI x2))], [])) rfl ?_
          refine xG.seg 1 (f' := (53, [(3, .int (nI 0)), (0, .ref 22), (1, .int (nI x1)), (2, .int (nI x2))], [.int (nI 0)])) (x1 := M18) (fun _ => rfl) ?_
          exact xG.fin (fun _ => rfl) (⟨_, rfl, h⟩)
      · replace h := h.1 (Classical.not_not.mp k16)
        refine xG.seg 4 (f' := (44, [(3, .int (nI 1)), (0, .ref 22), (1, .int (nI x1)), (2, .int (nI x2))], [.int (nI 1)])) (x1 := M) (fun _ => rfl) ?_
        refine xG.ifc (t := 52) (A := ¬ (1 = 0)) rfl rfl (xe_c (show ((nI 1) : Int32).toInt = 1 from by decide) (show (0 : Int32).toInt = 0 from by decide) (by dsimp only; omega)) (fun k19 => ?_) (fun k19 => ?_)
        · replace h := h.2 k19
          refine xG.seg 1 (f' := (53, [(3, .int (nI 1)), (0, .ref 22), (1, .int (nI x1)), (2, .int (nI x2))], [.int (nI 1)])) (x1 := M) (fun _ => rfl) ?_
          exact xG.fin (fun _ => rfl) (⟨_, rfl, h⟩)
        · replace h := h.1 (Classical.not_not.mp k19)
          refine xG.seg 2 (f' := (49, [(3, .int (nI 1)), (0, .ref 22), (1, .int (nI x1)), (2, .int (nI x2))], [.int (nI 2), .ref 22])) (x1 := M) (fun _ => rfl) ?_
          refine xG.call (d := d) (vs := [.ref 22, .int (nI 2)]) (g := (49, [(3, .int (nI 1)), (0, .ref 22), (1, .int (nI x1)), (2, .int (nI x2))], [])) (fun _ => rfl) rfl (p_R_wrong L xs d 2 M _ h) ?_
          clear h
          rintro _ M20 ⟨rfl, h⟩
          refine ⟨_, rfl, ?_⟩
          refine xG.eqf (f' := (52, [(3, .int (nI 1)), (0, .ref 22), (1, .int (nI x1)), (2, .int (nI x2))], [])) rfl ?_
          refine xG.seg 1 (f' := (53, [(3, .int (nI 1)), (0, .ref 22), (1, .int (nI x1)), (2, .int (nI x2))], [.int (nI 1)])) (x1 := M20) (fun _ => rfl) ?_
          exact xG.fin (fun _ => rfl) (⟨_, rfl, h⟩)

def w_R_put (x1 : Nat) (x2 : Nat) (M : xM) (Q : xM → Prop) : Prop := (M.1 8 < 2147483648 ∧ ((M.1 8 = 8 → w_R_wrong 2 M (fun M5 => Q M5)) ∧ (¬ (M.1 8 = 8) → (M.1 8 < 8 ∧ (M.1 8 < 8 ∧ Q (dN (dB (dB M 4 (M.1 8) x1) 5 (M.1 8) x2) 8 (M.1 8 + 1)))))))
set_option maxRecDepth 8000 in
set_option maxHeartbeats 4000000 in
theorem p_R_put (L : Nat) (xs : Nat → Int32) (d : Nat) (x1 : Nat) (x2 : Nat) (M : xM) (Q : xM → Prop) (h : w_R_put x1 x2 M Q) : xG xem (xgt L xs) (d + 1) xi_R_put (0, [(0, .ref 22), (1, .int (nI x1)), (2, .int (nI x2))], []) M (xPV Q) := by
  unfold w_R_put at h
  refine xG.seg 3 (f' := (6, [(0, .ref 22), (1, .int (nI x1)), (2, .int (nI x2))], [.int (nI 8), .int (nI (M.1 8))])) (x1 := M) (fun _ => rfl) ?_
  obtain ⟨c1, h⟩ := h
  refine xG.icmp (t := 15) (A := ¬ (M.1 8 = 8)) rfl rfl (xe_c (xt_N c1) (show ((nI 8) : Int32).toInt = 8 from by decide) (by dsimp only; omega)) (fun k2 => ?_) (fun k2 => ?_)
  · replace h := h.2 k2
    refine xG.seg 5 (f' := (24, [(0, .ref 22), (1, .int (nI x1)), (2, .int (nI x2))], [.int (nI x1), .int (nI (M.1 8)), .ref 29])) (x1 := M) (fun _ => rfl) ?_
    obtain ⟨c3, h⟩ := h
    refine xG.iast (x1 := (dB M 4 (M.1 8) x1)) rfl (by decide) (fun _ => rfl) (by decide) c3 (fun _ => by rw [xu_nI]; rfl) ?_
    refine xG.eqf (f' := (25, [(0, .ref 22), (1, .int (nI x1)), (2, .int (nI x2))], [])) rfl ?_
    refine xG.seg 5 (f' := (34, [(0, .ref 22), (1, .int (nI x1)), (2, .int (nI x2))], [.int (nI x2), .int (nI (M.1 8)), .ref 30])) (x1 := (dB M 4 (M.1 8) x1)) (fun _ => rfl) ?_
    obtain ⟨c4, h⟩ := h
    refine xG.iast (x1 := (dB (dB M 4 (M.1 8) x1) 5 (M.1 8) x2)) rfl (by decide) (fun _ => rfl) (by decide) c4 (fun _ => by rw [xu_nI]; rfl) ?_
    refine xG.eqf (f' := (35, [(0, .ref 22), (1, .int (nI x1)), (2, .int (nI x2))], [])) rfl ?_
    refine xG.seg 5 (f' := (42, [(0, .ref 22), (1, .int (nI x1)), (2, .int (nI x2))], [.int ((nI (M.1 8)) + (nI 1)), .ref 22])) (x1 := (dB (dB M 4 (M.1 8) x1) 5 (M.1 8) x2)) (fun _ => rfl) ?_
    refine xG.conv (xe_add (M.1 8) 1) ?_
    refine xG.eqf (f' := (42, [(0, .ref 22), (1, .int (nI x1)), (2, .int (nI x2))], [.int (nI (M.1 8 + 1)), .ref 22])) rfl ?_
    refine xG.seg 1 (f' := (45, [(0, .ref 22), (1, .int (nI x1)), (2, .int (nI x2))], [])) (x1 := (dN (dB (dB M 4 (M.1 8) x1) 5 (M.1 8) x2) 8 (M.1 8 + 1))) (fun _ => rfl) ?_
    exact xG.fin (fun _ => rfl) (⟨rfl, h⟩)
  · replace h := h.1 (Classical.not_not.mp k2)
    refine xG.seg 2 (f' := (11, [(0, .ref 22), (1, .int (nI x1)), (2, .int (nI x2))], [.int (nI 2), .ref 22])) (x1 := M) (fun _ => rfl) ?_
    refine xG.call (d := d) (vs := [.ref 22, .int (nI 2)]) (g := (11, [(0, .ref 22), (1, .int (nI x1)), (2, .int (nI x2))], [])) (fun _ => rfl) rfl (p_R_wrong L xs d 2 M _ h) ?_
    clear h
    rintro _ M5 ⟨rfl, h⟩
    refine ⟨_, rfl, ?_⟩
    refine xG.eqf (f' := (14, [(0, .ref 22), (1, .int (nI x1)), (2, .int (nI x2))], [])) rfl ?_
    exact xG.fin (fun _ => rfl) (⟨rfl, h⟩)

def w_R_aim (x1 : Nat) (M : xM) (Q : xM → Prop) : Prop := (M.1 4 < 41 ∧ (60 * (M.1 4) + x1 < 2460 ∧ Q (dA M 0 (60 * (M.1 4) + x1) ((nI (M.2.1 1 (M.1 4)))))))
set_option maxRecDepth 8000 in
set_option maxHeartbeats 4000000 in
theorem p_R_aim (L : Nat) (xs : Nat → Int32) (d : Nat) (x1 : Nat) (M : xM) (Q : xM → Prop) (h : w_R_aim x1 M Q) : xG xem (xgt L xs) (d) xi_R_aim (0, [(0, .ref 22), (1, .int (nI x1))], []) M (xPV Q) := by
  unfold w_R_aim at h
  refine xG.seg 6 (f' := (11, [(0, .ref 22), (1, .int (nI x1))], [.int ((nI 60) * (nI (M.1 4))), .ref 27])) (x1 := M) (fun _ => rfl) ?_
  refine xG.conv (xe_mul _ _) ?_
  refine xG.seg 2 (f' := (13, [(0, .ref 22), (1, .int (nI x1))], [.int ((nI (60 * (M.1 4))) + (nI x1)), .ref 27])) (x1 := M) (fun _ => rfl) ?_
  refine xG.conv (xe_add (60 * (M.1 4)) x1) ?_
  refine xG.eqf (f' := (13, [(0, .ref 22), (1, .int (nI x1))], [.int (nI (60 * (M.1 4) + x1)), .ref 27])) rfl ?_
  refine xG.seg 4 (f' := (21, [(0, .ref 22), (1, .int (nI x1))], [.int (nI (M.1 4)), .ref 25, .int (nI (60 * (M.1 4) + x1)), .ref 27])) (x1 := M) (fun _ => rfl) ?_
  obtain ⟨c1, h⟩ := h
  refine xG.iald rfl (Or.inl ⟨rfl, rfl⟩) (by decide) (fun _ => rfl) (by decide) c1 ?_
  refine xG.eqf (f' := (22, [(0, .ref 22), (1, .int (nI x1))], [.int (nI (M.2.1 1 (M.1 4))), .int (nI (60 * (M.1 4) + x1)), .ref 27])) rfl ?_
  obtain ⟨c2, h⟩ := h
  refine xG.iast (x1 := (dA M 0 (60 * (M.1 4) + x1) ((nI (M.2.1 1 (M.1 4)))))) rfl (by decide) (fun _ => rfl) (by decide) c2 (fun _ => rfl) ?_
  refine xG.eqf (f' := (23, [(0, .ref 22), (1, .int (nI x1))], [])) rfl ?_
  exact xG.fin (fun _ => rfl) (⟨rfl, h⟩)

def w_R_loops_224 (l1 : Nat) (l2 : Nat) (M : xM) (Q : xM → Prop) : Prop := (l1 < 2147483648 ∧ ((l1 = 64 → w_R_add 47 (nI 0) M (fun M5013 => (M5013.1 1 < 2147483648 ∧ ((M5013.1 1 = 0 → w_R_put 5 (l2 + 1) M5013 (fun M5016 => Q M5016)) ∧ (¬ (M5013.1 1 = 0) → Q M5013))))) ∧ (¬ (l1 = 64) → (l1 < 2147483648 ∧ ((l1 = 65 → w_R_closes 5 5 M (fun r5006 M5005 => (r5006 < 2147483648 ∧ ((r5006 = 0 → Q M5005) ∧ (¬ (r5006 = 0) → (1 ≤ M5005.1 8 ∧ (M5005.1 8 - 1 < 8 ∧ w_R_add 48 (nI (M5005.2.1 5 (M5005.1 8 - 1))) M5005 (fun M5011 => (1 ≤ M5011.1 8 ∧ Q (dN M5011 8 (M5011.1 8 - 1))))))))))) ∧ (¬ (l1 = 65) → Q M))))))
set_option maxRecDepth 8000 in
set_option maxHeartbeats 4000000 in
theorem p_R_loops_224 (L : Nat) (xs : Nat → Int32) (d : Nat) (Q : xM → Prop) (l1 : Nat) (l2 : Nat) (M : xM) (h : w_R_loops_224 l1 l2 M Q) : xG xem (xgt L xs) (d + 2) xi_R_loops (224, [(0, .ref 22), (1, .int (nI l1)), (2, .int (nI l2))], []) M (xPV Q) := by
  unfold w_R_loops_224 at h
  refine xG.seg 2 (f' := (227, [(0, .ref 22), (1, .int (nI l1)), (2, .int (nI l2))], [.int (nI 64), .int (nI l1)])) (x1 := M) (fun _ => rfl) ?_
  obtain ⟨c5001, h⟩ := h
  refine xG.icmp (t := 255) (A := ¬ (l1 = 64)) rfl rfl (xe_c (xt_N c5001) (show ((nI 64) : Int32).toInt = 64 from by decide) (by dsimp only; omega)) (fun k5002 => ?_) (fun k5002 => ?_)
  · replace h := h.2 k5002
    refine xG.seg 2 (f' := (258, [(0, .ref 22), (1, .int (nI l1)), (2, .int (nI l2))], [.int (nI 65), .int (nI l1)])) (x1 := M) (fun _ => rfl) ?_
    obtain ⟨c5003, h⟩ := h
    refine xG.icmp (t := 297) (A := ¬ (l1 = 65)) rfl rfl (xe_c (xt_N c5003) (show ((nI 65) : Int32).toInt = 65 from by decide) (by dsimp only; omega)) (fun k5004 => ?_) (fun k5004 => ?_)
    · replace h := h.2 k5004
      exact xG.fin (fun _ => rfl) (⟨rfl, h⟩)
    · replace h := h.1 (Classical.not_not.mp k5004)
      refine xG.seg 3 (f' := (264, [(0, .ref 22), (1, .int (nI l1)), (2, .int (nI l2))], [.int (nI 5), .int (nI 5), .ref 22])) (x1 := M) (fun _ => rfl) ?_
      refine xG.call (d := d + 1) (vs := [.ref 22, .int (nI 5), .int (nI 5)]) (g := (264, [(0, .ref 22), (1, .int (nI l1)), (2, .int (nI l2))], [])) (fun _ => rfl) rfl (p_R_closes L xs d 5 5 M _ h) ?_
      clear h
      rintro _ M5005 ⟨r5006, rfl, h⟩
      refine ⟨_, rfl, ?_⟩
      refine xG.eqf (f' := (267, [(0, .ref 22), (1, .int (nI l1)), (2, .int (nI l2))], [.int (nI r5006)])) rfl ?_
      obtain ⟨c5007, h⟩ := h
      refine xG.ifc (t := 297) (A := r5006 = 0) rfl rfl (xe_c (xt_N c5007) (show (0 : Int32).toInt = 0 from by decide) (by dsimp only; omega)) (fun k5008 => ?_) (fun k5008 => ?_)
      · replace h := h.1 k5008
        exact xG.fin (fun _ => rfl) (⟨rfl, h⟩)
      · replace h := h.2 k5008
        refine xG.seg 8 (f' := (283, [(0, .ref 22), (1, .int (nI l1)), (2, .int (nI l2))], [.int (nI (M5005.1 8) - nI 1), .ref 30, .int (nI 48), .ref 22])) (x1 := M5005) (fun _ => rfl) ?_
        obtain ⟨c5009, h⟩ := h
        refine xG.conv (xe_cut c5009) ?_
        obtain ⟨c5010, h⟩ := h
        refine xG.iald rfl (Or.inl ⟨rfl, rfl⟩) (by decide) (fun _ => rfl) (by decide) c5010 ?_
        refine xG.eqf (f' := (284, [(0, .ref 22), (1, .int (nI l1)), (2, .int (nI l2))], [.int (nI (M5005.2.1 5 (M5005.1 8 - 1))), .int (nI 48), .ref 22])) rfl ?_
        refine xG.call (d := d + 1) (vs := [.ref 22, .int (nI 48), .int (nI (M5005.2.1 5 (M5005.1 8 - 1)))]) (g := (284, [(0, .ref 22), (1, .int (nI l1)), (2, .int (nI l2))], [])) (fun _ => rfl) rfl (p_R_add L xs d 48 (nI (M5005.2.1 5 (M5005.1 8 - 1))) M5005 _ h) ?_
        clear h
        rintro _ M5011 ⟨rfl, h⟩
        refine ⟨_, rfl, ?_⟩
        refine xG.eqf (f' := (287, [(0, .ref 22), (1, .int (nI l1)), (2, .int (nI l2))], [])) rfl ?_
        refine xG.seg 5 (f' := (294, [(0, .ref 22), (1, .int (nI l1)), (2, .int (nI l2))], [.int (nI (M5011.1 8) - nI 1), .ref 22])) (x1 := M5011) (fun _ => rfl) ?_
        obtain ⟨c5012, h⟩ := h
        refine xG.conv (xe_cut c5012) ?_
        refine xG.seg 1 (f' := (297, [(0, .ref 22), (1, .int (nI l1)), (2, .int (nI l2))], [])) (x1 := (dN M5011 8 (M5011.1 8 - 1))) (fun _ => rfl) ?_
        exact xG.fin (fun _ => rfl) (⟨rfl, h⟩)
  · replace h := h.1 (Classical.not_not.mp k5002)
    refine xG.seg 3 (f' := (234, [(0, .ref 22), (1, .int (nI l1)), (2, .int (nI l2))], [.int (nI 0), .int (nI 47), .ref 22])) (x1 := M) (fun _ => rfl) ?_
    refine xG.call (d := d + 1) (vs := [.ref 22, .int (nI 47), .int (nI 0)]) (g := (234, [(0, .ref 22), (1, .int (nI l1)), (2, .int (nI l2))], [])) (fun _ => rfl) rfl (p_R_add L xs d 47 (nI 0) M _ h) ?_
    clear h
    rintro _ M5013 ⟨rfl, h⟩
    refine ⟨_, rfl, ?_⟩
    refine xG.eqf (f' := (237, [(0, .ref 22), (1, .int (nI l1)), (2, .int (nI l2))], [])) rfl ?_
    refine xG.seg 2 (f' := (241, [(0, .ref 22), (1, .int (nI l1)), (2, .int (nI l2))], [.int (nI (M5013.1 1))])) (x1 := M5013) (fun _ => rfl) ?_
    obtain ⟨c5014, h⟩ := h
    refine xG.ifc (t := 297) (A := ¬ (M5013.1 1 = 0)) rfl rfl (xe_c (xt_N c5014) (show (0 : Int32).toInt = 0 from by decide) (by dsimp only; omega)) (fun k5015 => ?_) (fun k5015 => ?_)
    · replace h := h.2 k5015
      exact xG.fin (fun _ => rfl) (⟨rfl, h⟩)
    · replace h := h.1 (Classical.not_not.mp k5015)
      refine xG.seg 5 (f' := (249, [(0, .ref 22), (1, .int (nI l1)), (2, .int (nI l2))], [.int ((nI l2) + (nI 1)), .int (nI 5), .ref 22])) (x1 := M5013) (fun _ => rfl) ?_
      refine xG.conv (xe_add l2 1) ?_
      refine xG.eqf (f' := (249, [(0, .ref 22), (1, .int (nI l1)), (2, .int (nI l2))], [.int (nI (l2 + 1)), .int (nI 5), .ref 22])) rfl ?_
      refine xG.call (d := d + 1) (vs := [.ref 22, .int (nI 5), .int (nI (l2 + 1))]) (g := (249, [(0, .ref 22), (1, .int (nI l1)), (2, .int (nI l2))], [])) (fun _ => rfl) rfl (p_R_put L xs d 5 (l2 + 1) M5013 _ h) ?_
      clear h
      rintro _ M5016 ⟨rfl, h⟩
      refine ⟨_, rfl, ?_⟩
      refine xG.eqf (f' := (252, [(0, .ref 22), (1, .int (nI l1)), (2, .int (nI l2))], [])) rfl ?_
      refine xG.seg 1 (f' := (297, [(0, .ref 22), (1, .int (nI l1)), (2, .int (nI l2))], [])) (x1 := M5016) (fun _ => rfl) ?_
      exact xG.fin (fun _ => rfl) (⟨rfl, h⟩)

def w_R_loops_157 (l1 : Nat) (l2 : Nat) (M : xM) (Q : xM → Prop) : Prop := (l1 < 2147483648 ∧ ((l1 = 63 → w_R_closes 4 4 M (fun r4004 M4003 => (r4004 < 2147483648 ∧ ((r4004 = 0 → w_R_loops_224 l1 l2 M4003 Q) ∧ (¬ (r4004 = 0) → (2 ≤ M4003.1 8 ∧ (M4003.1 8 - 2 < 8 ∧ w_R_add 46 (nI (M4003.2.1 5 (M4003.1 8 - 2))) M4003 (fun M4009 => (M4009.1 1 < 2147483648 ∧ ((M4009.1 1 = 0 → (1 ≤ M4009.1 8 ∧ (M4009.1 8 - 1 < 8 ∧ w_R_aim (M4009.2.1 5 (M4009.1 8 - 1)) M4009 (fun M4015 => (2 ≤ M4015.1 8 ∧ Q (dN M4015 8 (M4015.1 8 - 2))))))) ∧ (¬ (M4009.1 1 = 0) → (2 ≤ M4009.1 8 ∧ Q (dN M4009 8 (M4009.1 8 - 2)))))))))))))) ∧ (¬ (l1 = 63) → w_R_loops_224 l1 l2 M Q)))
set_option maxRecDepth 8000 in
set_option maxHeartbeats 4000000 in
theorem p_R_loops_157 (L : Nat) (xs : Nat → Int32) (d : Nat) (Q : xM → Prop) (l1 : Nat) (l2 : Nat) (M : xM) (h : w_R_loops_157 l1 l2 M Q) : xG xem (xgt L xs) (d + 2) xi_R_loops (157, [(0, .ref 22), (1, .int (nI l1)), (2, .int (nI l2))], []) M (xPV Q) := by
  unfold w_R_loops_157 at h
  refine xG.seg 2 (f' := (160, [(0, .ref 22), (1, .int (nI l1)), (2, .int (nI l2))], [.int (nI 63), .int (nI l1)])) (x1 := M) (fun _ => rfl) ?_
  obtain ⟨c4001, h⟩ := h
  refine xG.icmp (t := 224) (A := ¬ (l1 = 63)) rfl rfl (xe_c (xt_N c4001) (show ((nI 63) : Int32).toInt = 63 from by decide) (by dsimp only; omega)) (fun k4002 => ?_) (fun k4002 => ?_)
  · replace h := h.2 k4002
    refine xG.lv (lv := [(0, .ref 22), (1, .int (nI l1)), (2, .int (nI l2))]) (lv' := [(0, .ref 22), (1, .int (nI l1)), (2, .int (nI l2))]) rfl rfl rfl ?_
    exact p_R_loops_224 L xs d Q l1 l2 M h
  · replace h := h.1 (Classical.not_not.mp k4002)
    refine xG.seg 3 (f' := (166, [(0, .ref 22), (1, .int (nI l1)), (2, .int (nI l2))], [.int (nI 4), .int (nI 4), .ref 22])) (x1 := M) (fun _ => rfl) ?_
    refine xG.call (d := d + 1) (vs := [.ref 22, .int (nI 4), .int (nI 4)]) (g := (166, [(0, .ref 22), (1, .int (nI l1)), (2, .int (nI l2))], [])) (fun _ => rfl) rfl (p_R_closes L xs d 4 4 M _ h) ?_
    clear h
    rintro _ M4003 ⟨r4004, rfl, h⟩
    refine ⟨_, rfl, ?_⟩
    refine xG.eqf (f' := (169, [(0, .ref 22), (1, .int (nI l1)), (2, .int (nI l2))], [.int (nI r4004)])) rfl ?_
    obtain ⟨c4005, h⟩ := h
    refine xG.ifc (t := 224) (A := r4004 = 0) rfl rfl (xe_c (xt_N c4005) (show (0 : Int32).toInt = 0 from by decide) (by dsimp only; omega)) (fun k4006 => ?_) (fun k4006 => ?_)
    · replace h := h.1 k4006
      refine xG.lv (lv := [(0, .ref 22), (1, .int (nI l1)), (2, .int (nI l2))]) (lv' := [(0, .ref 22), (1, .int (nI l1)), (2, .int (nI l2))]) rfl rfl rfl ?_
      exact p_R_loops_224 L xs d Q l1 l2 M4003 h
    · replace h := h.2 k4006
      refine xG.seg 8 (f' := (185, [(0, .ref 22), (1, .int (nI l1)), (2, .int (nI l2))], [.int (nI (M4003.1 8) - nI 2), .ref 30, .int (nI 46), .ref 22])) (x1 := M4003) (fun _ => rfl) ?_
      obtain ⟨c4007, h⟩ := h
      refine xG.conv (xe_cut c4007) ?_
      obtain ⟨c4008, h⟩ := h
      refine xG.iald rfl (Or.inl ⟨rfl, rfl⟩) (by decide) (fun _ => rfl) (by decide) c4008 ?_
      refine xG.eqf (f' := (186, [(0, .ref 22), (1, .int (nI l1)), (2, .int (nI l2))], [.int (nI (M4003.2.1 5 (M4003.1 8 - 2))), .int (nI 46), .ref 22])) rfl ?_
      refine xG.call (d := d + 1) (vs := [.ref 22, .int (nI 46), .int (nI (M4003.2.1 5 (M4003.1 8 - 2)))]) (g := (186, [(0, .ref 22), (1, .int (nI l1)), (2, .int (nI l2))], [])) (fun _ => rfl) rfl (p_R_add L xs d 46 (nI (M4003.2.1 5 (M4003.1 8 - 2))) M4003 _ h) ?_
      clear h
      rintro _ M4009 ⟨rfl, h⟩
      refine ⟨_, rfl, ?_⟩
      refine xG.eqf (f' := (189, [(0, .ref 22), (1, .int (nI l1)), (2, .int (nI l2))], [])) rfl ?_
      refine xG.seg 2 (f' := (193, [(0, .ref 22), (1, .int (nI l1)), (2, .int (nI l2))], [.int (nI (M4009.1 1))])) (x1 := M4009) (fun _ => rfl) ?_
      obtain ⟨c4010, h⟩ := h
      refine xG.ifc (t := 211) (A := ¬ (M4009.1 1 = 0)) rfl rfl (xe_c (xt_N c4010) (show (0 : Int32).toInt = 0 from by decide) (by dsimp only; omega)) (fun k4011 => ?_) (fun k4011 => ?_)
      · replace h := h.2 k4011
        refine xG.seg 5 (f' := (218, [(0, .ref 22), (1, .int (nI l1)), (2, .int (nI l2))], [.int (nI (M4009.1 8) - nI 2), .ref 22])) (x1 := M4009) (fun _ => rfl) ?_
        obtain ⟨c4012, h⟩ := h
        refine xG.conv (xe_cut c4012) ?_
        refine xG.seg 2 (f' := (297, [(0, .ref 22), (1, .int (nI l1)), (2, .int (nI l2))], [])) (x1 := (dN M4009 8 (M4009.1 8 - 2))) (fun _ => rfl) ?_
        exact xG.fin (fun _ => rfl) (⟨rfl, h⟩)
      · replace h := h.1 (Classical.not_not.mp k4011)
        refine xG.seg 7 (f' := (207, [(0, .ref 22), (1, .int (nI l1)), (2, .int (nI l2))], [.int (nI (M4009.1 8) - nI 1), .ref 30, .ref 22])) (x1 := M4009) (fun _ => rfl) ?_
        obtain ⟨c4013, h⟩ := h
        refine xG.conv (xe_cut c4013) ?_
        obtain ⟨c4014, h⟩ := h
        refine xG.iald rfl (Or.inl ⟨rfl, rfl⟩) (by decide) (fun _ => rfl) (by decide) c4014 ?_
        refine xG.eqf (f' := (208, [(0, .ref 22), (1, .int (nI l1)), (2, .int (nI l2))], [.int (nI (M4009.2.1 5 (M4009.1 8 - 1))), .ref 22])) rfl ?_
        refine xG.call (d := d + 1) (vs := [.ref 22, .int (nI (M4009.2.1 5 (M4009.1 8 - 1)))]) (g := (208, [(0, .ref 22), (1, .int (nI l1)), (2, .int (nI l2))], [])) (fun _ => rfl) rfl (p_R_aim L xs (d + 1) (M4009.2.1 5 (M4009.1 8 - 1)) M4009 _ h) ?_
        clear h
        rintro _ M4015 ⟨rfl, h⟩
        refine ⟨_, rfl, ?_⟩
        refine xG.eqf (f' := (211, [(0, .ref 22), (1, .int (nI l1)), (2, .int (nI l2))], [])) rfl ?_
        refine xG.seg 5 (f' := (218, [(0, .ref 22), (1, .int (nI l1)), (2, .int (nI l2))], [.int (nI (M4015.1 8) - nI 2), .ref 22])) (x1 := M4015) (fun _ => rfl) ?_
        obtain ⟨c4016, h⟩ := h
        refine xG.conv (xe_cut c4016) ?_
        refine xG.seg 2 (f' := (297, [(0, .ref 22), (1, .int (nI l1)), (2, .int (nI l2))], [])) (x1 := (dN M4015 8 (M4015.1 8 - 2))) (fun _ => rfl) ?_
        exact xG.fin (fun _ => rfl) (⟨rfl, h⟩)

def w_R_loops_119 (l1 : Nat) (l2 : Nat) (M : xM) (Q : xM → Prop) : Prop := (l1 < 2147483648 ∧ ((l1 = 62 → w_R_closes 3 3 M (fun r3004 M3003 => (r3004 < 2147483648 ∧ ((r3004 = 0 → w_R_loops_157 l1 l2 M3003 Q) ∧ (¬ (r3004 = 0) → w_R_add 45 (nI 0) M3003 (fun M3007 => (M3007.1 1 < 2147483648 ∧ ((M3007.1 1 = 0 → w_R_put 4 l2 M3007 (fun M3010 => Q M3010)) ∧ (¬ (M3007.1 1 = 0) → Q M3007))))))))) ∧ (¬ (l1 = 62) → w_R_loops_157 l1 l2 M Q)))
set_option maxRecDepth 8000 in
set_option maxHeartbeats 4000000 in
theorem p_R_loops_119 (L : Nat) (xs : Nat → Int32) (d : Nat) (Q : xM → Prop) (l1 : Nat) (l2 : Nat) (M : xM) (h : w_R_loops_119 l1 l2 M Q) : xG xem (xgt L xs) (d + 2) xi_R_loops (119, [(0, .ref 22), (1, .int (nI l1)), (2, .int (nI l2))], []) M (xPV Q) := by
  unfold w_R_loops_119 at h
  refine xG.seg 2 (f' := (122, [(0, .ref 22), (1, .int (nI l1)), (2, .int (nI l2))], [.int (nI 62), .int (nI l1)])) (x1 := M) (fun _ => rfl) ?_
  obtain ⟨c3001, h⟩ := h
  refine xG.icmp (t := 157) (A := ¬ (l1 = 62)) rfl rfl (xe_c (xt_N c3001) (show ((nI 62) : Int32).toInt = 62 from by decide) (by dsimp only; omega)) (fun k3002 => ?_) (fun k3002 => ?_)
  · replace h := h.2 k3002
    refine xG.lv (lv := [(0, .ref 22), (1, .int (nI l1)), (2, .int (nI l2))]) (lv' := [(0, .ref 22), (1, .int (nI l1)), (2, .int (nI l2))]) rfl rfl rfl ?_
    exact p_R_loops_157 L xs d Q l1 l2 M h
  · replace h := h.1 (Classical.not_not.mp k3002)
    refine xG.seg 3 (f' := (128, [(0, .ref 22), (1, .int (nI l1)), (2, .int (nI l2))], [.int (nI 3), .int (nI 3), .ref 22])) (x1 := M) (fun _ => rfl) ?_
    refine xG.call (d := d + 1) (vs := [.ref 22, .int (nI 3), .int (nI 3)]) (g := (128, [(0, .ref 22), (1, .int (nI l1)), (2, .int (nI l2))], [])) (fun _ => rfl) rfl (p_R_closes L xs d 3 3 M _ h) ?_
    clear h
    rintro _ M3003 ⟨r3004, rfl, h⟩
    refine ⟨_, rfl, ?_⟩
    refine xG.eqf (f' := (131, [(0, .ref 22), (1, .int (nI l1)), (2, .int (nI l2))], [.int (nI r3004)])) rfl ?_
    obtain ⟨c3005, h⟩ := h
    refine xG.ifc (t := 157) (A := r3004 = 0) rfl rfl (xe_c (xt_N c3005) (show (0 : Int32).toInt = 0 from by decide) (by dsimp only; omega)) (fun k3006 => ?_) (fun k3006 => ?_)
    · replace h := h.1 k3006
      refine xG.lv (lv := [(0, .ref 22), (1, .int (nI l1)), (2, .int (nI l2))]) (lv' := [(0, .ref 22), (1, .int (nI l1)), (2, .int (nI l2))]) rfl rfl rfl ?_
      exact p_R_loops_157 L xs d Q l1 l2 M3003 h
    · replace h := h.2 k3006
      refine xG.seg 3 (f' := (138, [(0, .ref 22), (1, .int (nI l1)), (2, .int (nI l2))], [.int (nI 0), .int (nI 45), .ref 22])) (x1 := M3003) (fun _ => rfl) ?_
      refine xG.call (d := d + 1) (vs := [.ref 22, .int (nI 45), .int (nI 0)]) (g := (138, [(0, .ref 22), (1, .int (nI l1)), (2, .int (nI l2))], [])) (fun _ => rfl) rfl (p_R_add L xs d 45 (nI 0) M3003 _ h) ?_
      clear h
      rintro _ M3007 ⟨rfl, h⟩
      refine ⟨_, rfl, ?_⟩
      refine xG.eqf (f' := (141, [(0, .ref 22), (1, .int (nI l1)), (2, .int (nI l2))], [])) rfl ?_
      refine xG.seg 2 (f' := (145, [(0, .ref 22), (1, .int (nI l1)), (2, .int (nI l2))], [.int (nI (M3007.1 1))])) (x1 := M3007) (fun _ => rfl) ?_
      obtain ⟨c3008, h⟩ := h
      refine xG.ifc (t := 297) (A := ¬ (M3007.1 1 = 0)) rfl rfl (xe_c (xt_N c3008) (show (0 : Int32).toInt = 0 from by decide) (by dsimp only; omega)) (fun k3009 => ?_) (fun k3009 => ?_)
      · replace h := h.2 k3009
        exact xG.fin (fun _ => rfl) (⟨rfl, h⟩)
      · replace h := h.1 (Classical.not_not.mp k3009)
        refine xG.seg 3 (f' := (151, [(0, .ref 22), (1, .int (nI l1)), (2, .int (nI l2))], [.int (nI l2), .int (nI 4), .ref 22])) (x1 := M3007) (fun _ => rfl) ?_
        refine xG.call (d := d + 1) (vs := [.ref 22, .int (nI 4), .int (nI l2)]) (g := (151, [(0, .ref 22), (1, .int (nI l1)), (2, .int (nI l2))], [])) (fun _ => rfl) rfl (p_R_put L xs d 4 l2 M3007 _ h) ?_
        clear h
        rintro _ M3010 ⟨rfl, h⟩
        refine ⟨_, rfl, ?_⟩
        refine xG.eqf (f' := (154, [(0, .ref 22), (1, .int (nI l1)), (2, .int (nI l2))], [])) rfl ?_
        refine xG.seg 1 (f' := (297, [(0, .ref 22), (1, .int (nI l1)), (2, .int (nI l2))], [])) (x1 := M3010) (fun _ => rfl) ?_
        exact xG.fin (fun _ => rfl) (⟨rfl, h⟩)

def w_R_loops_74 (l1 : Nat) (l2 : Nat) (M : xM) (Q : xM → Prop) : Prop := (l1 < 2147483648 ∧ ((l1 = 61 → w_R_closes 3 3 M (fun r2004 M2003 => (r2004 < 2147483648 ∧ ((r2004 = 0 → w_R_loops_119 l1 l2 M2003 Q) ∧ (¬ (r2004 = 0) → (1 ≤ M2003.1 8 ∧ (M2003.1 8 - 1 < 8 ∧ w_R_add 46 (nI (M2003.2.1 5 (M2003.1 8 - 1))) M2003 (fun M2009 => (1 ≤ M2009.1 8 ∧ Q (dN M2009 8 (M2009.1 8 - 1))))))))))) ∧ (¬ (l1 = 61) → w_R_loops_119 l1 l2 M Q)))
set_option maxRecDepth 8000 in
set_option maxHeartbeats 4000000 in
theorem p_R_loops_74 (L : Nat) (xs : Nat → Int32) (d : Nat) (Q : xM → Prop) (l1 : Nat) (l2 : Nat) (M : xM) (h : w_R_loops_74 l1 l2 M Q) : xG xem (xgt L xs) (d + 2) xi_R_loops (74, [(0, .ref 22), (1, .int (nI l1)), (2, .int (nI l2))], []) M (xPV Q) := by
  unfold w_R_loops_74 at h
  refine xG.seg 2 (f' := (77, [(0, .ref 22), (1, .int (nI l1)), (2, .int (nI l2))], [.int (nI 61), .int (nI l1)])) (x1 := M) (fun _ => rfl) ?_
  obtain ⟨c2001, h⟩ := h
  refine xG.icmp (t := 119) (A := ¬ (l1 = 61)) rfl rfl (xe_c (xt_N c2001) (show ((nI 61) : Int32).toInt = 61 from by decide) (by dsimp only; omega)) (fun k2002 => ?_) (fun k2002 => ?_)
  · replace h := h.2 k2002
    refine xG.lv (lv := [(0, .ref 22), (1, .int (nI l1)), (2, .int (nI l2))]) (lv' := [(0, .ref 22), (1, .int (nI l1)), (2, .int (nI l2))]) rfl rfl rfl ?_
    exact p_R_loops_119 L xs d Q l1 l2 M h
  · replace h := h.1 (Classical.not_not.mp k2002)
    refine xG.seg 3 (f' := (83, [(0, .ref 22), (1, .int (nI l1)), (2, .int (nI l2))], [.int (nI 3), .int (nI 3), .ref 22])) (x1 := M) (fun _ => rfl) ?_
    refine xG.call (d := d + 1) (vs := [.ref 22, .int (nI 3), .int (nI 3)]) (g := (83, [(0, .ref 22), (1, .int (nI l1)), (2, .int (nI l2))], [])) (fun _ => rfl) rfl (p_R_closes L xs d 3 3 M _ h) ?_
    clear h
    rintro _ M2003 ⟨r2004, rfl, h⟩
    refine ⟨_, rfl, ?_⟩
    refine xG.eqf (f' := (86, [(0, .ref 22), (1, .int (nI l1)), (2, .int (nI l2))], [.int (nI r2004)])) rfl ?_
    obtain ⟨c2005, h⟩ := h
    refine xG.ifc (t := 119) (A := r2004 = 0) rfl rfl (xe_c (xt_N c2005) (show (0 : Int32).toInt = 0 from by decide) (by dsimp only; omega)) (fun k2006 => ?_) (fun k2006 => ?_)
    · replace h := h.1 k2006
      refine xG.lv (lv := [(0, .ref 22), (1, .int (nI l1)), (2, .int (nI l2))]) (lv' := [(0, .ref 22), (1, .int (nI l1)), (2, .int (nI l2))]) rfl rfl rfl ?_
      exact p_R_loops_119 L xs d Q l1 l2 M2003 h
    · replace h := h.2 k2006
      refine xG.seg 8 (f' := (102, [(0, .ref 22), (1, .int (nI l1)), (2, .int (nI l2))], [.int (nI (M2003.1 8) - nI 1), .ref 30, .int (nI 46), .ref 22])) (x1 := M2003) (fun _ => rfl) ?_
      obtain ⟨c2007, h⟩ := h
      refine xG.conv (xe_cut c2007) ?_
      obtain ⟨c2008, h⟩ := h
      refine xG.iald rfl (Or.inl ⟨rfl, rfl⟩) (by decide) (fun _ => rfl) (by decide) c2008 ?_
      refine xG.eqf (f' := (103, [(0, .ref 22), (1, .int (nI l1)), (2, .int (nI l2))], [.int (nI (M2003.2.1 5 (M2003.1 8 - 1))), .int (nI 46), .ref 22])) rfl ?_
      refine xG.call (d := d + 1) (vs := [.ref 22, .int (nI 46), .int (nI (M2003.2.1 5 (M2003.1 8 - 1)))]) (g := (103, [(0, .ref 22), (1, .int (nI l1)), (2, .int (nI l2))], [])) (fun _ => rfl) rfl (p_R_add L xs d 46 (nI (M2003.2.1 5 (M2003.1 8 - 1))) M2003 _ h) ?_
      clear h
      rintro _ M2009 ⟨rfl, h⟩
      refine ⟨_, rfl, ?_⟩
      refine xG.eqf (f' := (106, [(0, .ref 22), (1, .int (nI l1)), (2, .int (nI l2))], [])) rfl ?_
      refine xG.seg 5 (f' := (113, [(0, .ref 22), (1, .int (nI l1)), (2, .int (nI l2))], [.int (nI (M2009.1 8) - nI 1), .ref 22])) (x1 := M2009) (fun _ => rfl) ?_
      obtain ⟨c2010, h⟩ := h
      refine xG.conv (xe_cut c2010) ?_
      refine xG.seg 2 (f' := (297, [(0, .ref 22), (1, .int (nI l1)), (2, .int (nI l2))], [])) (x1 := (dN M2009 8 (M2009.1 8 - 1))) (fun _ => rfl) ?_
      exact xG.fin (fun _ => rfl) (⟨rfl, h⟩)

def w_R_loops (x1 : Nat) (M : xM) (Q : xM → Prop) : Prop := (M.1 4 < 41 ∧ (x1 < 2147483648 ∧ ((x1 = 59 → w_R_flush M (fun M14 => w_R_put 3 (M.2.1 1 (M.1 4)) M14 (fun M15 => Q M15))) ∧ (¬ (x1 = 59) → (x1 < 2147483648 ∧ ((x1 = 60 → w_R_closes 3 3 M (fun r7 M6 => (r7 < 2147483648 ∧ ((r7 = 0 → w_R_loops_74 x1 (M.2.1 1 (M.1 4)) M6 Q) ∧ (¬ (r7 = 0) → (1 ≤ M6.1 8 ∧ (M6.1 8 - 1 < 8 ∧ w_R_add 45 (nI (M6.2.1 5 (M6.1 8 - 1))) M6 (fun M12 => (1 ≤ M12.1 8 ∧ Q (dN M12 8 (M12.1 8 - 1))))))))))) ∧ (¬ (x1 = 60) → w_R_loops_74 x1 (M.2.1 1 (M.1 4)) M Q)))))))
set_option maxRecDepth 8000 in
set_option maxHeartbeats 4000000 in
theorem p_R_loops (L : Nat) (xs : Nat → Int32) (d : Nat) (x1 : Nat) (M : xM) (Q : xM → Prop) (h : w_R_loops x1 M Q) : xG xem (xgt L xs) (d + 2) xi_R_loops (0, [(0, .ref 22), (1, .int (nI x1))], []) M (xPV Q) := by
  unfold w_R_loops at h
  refine xG.seg 4 (f' := (8, [(0, .ref 22), (1, .int (nI x1))], [.int (nI (M.1 4)), .ref 25])) (x1 := M) (fun _ => rfl) ?_
  obtain ⟨c1, h⟩ := h
  refine xG.iald rfl (Or.inl ⟨rfl, rfl⟩) (by decide) (fun _ => rfl) (by decide) c1 ?_
  refine xG.eqf (f' := (9, [(0, .ref 22), (1, .int (nI x1))], [.int (nI (M.2.1 1 (M.1 4)))])) rfl ?_
  refine xG.seg 3 (f' := (13, [(2, .int (nI (M.2.1 1 (M.1 4)))), (0, .ref 22), (1, .int (nI x1))], [.int (nI 59), .int (nI x1)])) (x1 := M) (fun _ => rfl) ?_
  obtain ⟨c2, h⟩ := h
  refine xG.icmp (t := 29) (A := ¬ (x1 = 59)) rfl rfl (xe_c (xt_N c2) (show ((nI 59) : Int32).toInt = 59 from by decide) (by dsimp only; omega)) (fun k3 => ?_) (fun k3 => ?_)
  · replace h := h.2 k3
    refine xG.seg 2 (f' := (32, [(2, .int (nI (M.2.1 1 (M.1 4)))), (0, .ref 22), (1, .int (nI x1))], [.int (nI 60), .int (nI x1)])) (x1 := M) (fun _ => rfl) ?_
    obtain ⟨c4, h⟩ := h
    refine xG.icmp (t := 74) (A := ¬ (x1 = 60)) rfl rfl (xe_c (xt_N c4) (show ((nI 60) : Int32).toInt = 60 from by decide) (by dsimp only; omega)) (fun k5 => ?_) (fun k5 => ?_)
    · replace h := h.2 k5
      refine xG.lv (lv := [(0, .ref 22), (1, .int (nI x1)), (2, .int (nI (M.2.1 1 (M.1 4))))]) (lv' := [(2, .int (nI (M.2.1 1 (M.1 4)))), (0, .ref 22), (1, .int (nI x1))]) rfl rfl rfl ?_
      exact p_R_loops_74 L xs d Q x1 (M.2.1 1 (M.1 4)) M h
    · replace h := h.1 (Classical.not_not.mp k5)
      refine xG.seg 3 (f' := (38, [(2, .int (nI (M.2.1 1 (M.1 4)))), (0, .ref 22), (1, .int (nI x1))], [.int (nI 3), .int (nI 3), .ref 22])) (x1 := M) (fun _ => rfl) ?_
      refine xG.call (d := d + 1) (vs := [.ref 22, .int (nI 3), .int (nI 3)]) (g := (38, [(2, .int (nI (M.2.1 1 (M.1 4)))), (0, .ref 22), (1, .int (nI x1))], [])) (fun _ => rfl) rfl (p_R_closes L xs d 3 3 M _ h) ?_
      clear h
      rintro _ M6 ⟨r7, rfl, h⟩
      refine ⟨_, rfl, ?_⟩
      refine xG.eqf (f' := (41, [(2, .int (nI (M.2.1 1 (M.1 4)))), (0, .ref 22), (1, .int (nI x1))], [.int (nI r7)])) rfl ?_
      obtain ⟨c8, h⟩ := h
      refine xG.ifc (t := 74) (A := r7 = 0) rfl rfl (xe_c (xt_N c8) (show (0 : Int32).toInt = 0 from by decide) (by dsimp only; omega)) (fun k9 => ?_) (fun k9 => ?_)
      · replace h := h.1 k9
        refine xG.lv (lv := [(0, .ref 22), (1, .int (nI x1)), (2, .int (nI (M.2.1 1 (M.1 4))))]) (lv' := [(2, .int (nI (M.2.1 1 (M.1 4)))), (0, .ref 22), (1, .int (nI x1))]) rfl rfl rfl ?_
        exact p_R_loops_74 L xs d Q x1 (M.2.1 1 (M.1 4)) M6 h
      · replace h := h.2 k9
        refine xG.seg 8 (f' := (57, [(2, .int (nI (M.2.1 1 (M.1 4)))), (0, .ref 22), (1, .int (nI x1))], [.int (nI (M6.1 8) - nI 1), .ref 30, .int (nI 45), .ref 22])) (x1 := M6) (fun _ => rfl) ?_
        obtain ⟨c10, h⟩ := h
        refine xG.conv (xe_cut c10) ?_
        obtain ⟨c11, h⟩ := h
        refine xG.iald rfl (Or.inl ⟨rfl, rfl⟩) (by decide) (fun _ => rfl) (by decide) c11 ?_
        refine xG.eqf (f' := (58, [(2, .int (nI (M.2.1 1 (M.1 4)))), (0, .ref 22), (1, .int (nI x1))], [.int (nI (M6.2.1 5 (M6.1 8 - 1))), .int (nI 45), .ref 22])) rfl ?_
        refine xG.call (d := d + 1) (vs := [.ref 22, .int (nI 45), .int (nI (M6.2.1 5 (M6.1 8 - 1)))]) (g := (58, [(2, .int (nI (M.2.1 1 (M.1 4)))), (0, .ref 22), (1, .int (nI x1))], [])) (fun _ => rfl) rfl (p_R_add L xs d 45 (nI (M6.2.1 5 (M6.1 8 - 1))) M6 _ h) ?_
        clear h
        rintro _ M12 ⟨rfl, h⟩
        refine ⟨_, rfl, ?_⟩
        refine xG.eqf (f' := (61, [(2, .int (nI (M.2.1 1 (M.1 4)))), (0, .ref 22), (1, .int (nI x1))], [])) rfl ?_
        refine xG.seg 5 (f' := (68, [(2, .int (nI (M.2.1 1 (M.1 4)))), (0, .ref 22), (1, .int (nI x1))], [.int (nI (M12.1 8) - nI 1), .ref 22])) (x1 := M12) (fun _ => rfl) ?_
        obtain ⟨c13, h⟩ := h
        refine xG.conv (xe_cut c13) ?_
        refine xG.seg 2 (f' := (297, [(2, .int (nI (M.2.1 1 (M.1 4)))), (0, .ref 22), (1, .int (nI x1))], [])) (x1 := (dN M12 8 (M12.1 8 - 1))) (fun _ => rfl) ?_
        exact xG.fin (fun _ => rfl) (⟨rfl, h⟩)
  · replace h := h.1 (Classical.not_not.mp k3)
    refine xG.seg 1 (f' := (17, [(2, .int (nI (M.2.1 1 (M.1 4)))), (0, .ref 22), (1, .int (nI x1))], [.ref 22])) (x1 := M) (fun _ => rfl) ?_
    refine xG.call (d := d + 1) (vs := [.ref 22]) (g := (17, [(2, .int (nI (M.2.1 1 (M.1 4)))), (0, .ref 22), (1, .int (nI x1))], [])) (fun _ => rfl) rfl (p_R_flush L xs (d + 1) M _ h) ?_
    clear h
    rintro _ M14 ⟨rfl, h⟩
    refine ⟨_, rfl, ?_⟩
    refine xG.eqf (f' := (20, [(2, .int (nI (M.2.1 1 (M.1 4)))), (0, .ref 22), (1, .int (nI x1))], [])) rfl ?_
    refine xG.seg 3 (f' := (23, [(2, .int (nI (M.2.1 1 (M.1 4)))), (0, .ref 22), (1, .int (nI x1))], [.int (nI (M.2.1 1 (M.1 4))), .int (nI 3), .ref 22])) (x1 := M14) (fun _ => rfl) ?_
    refine xG.call (d := d + 1) (vs := [.ref 22, .int (nI 3), .int (nI (M.2.1 1 (M.1 4)))]) (g := (23, [(2, .int (nI (M.2.1 1 (M.1 4)))), (0, .ref 22), (1, .int (nI x1))], [])) (fun _ => rfl) rfl (p_R_put L xs d 3 (M.2.1 1 (M.1 4)) M14 _ h) ?_
    clear h
    rintro _ M15 ⟨rfl, h⟩
    refine ⟨_, rfl, ?_⟩
    refine xG.eqf (f' := (26, [(2, .int (nI (M.2.1 1 (M.1 4)))), (0, .ref 22), (1, .int (nI x1))], [])) rfl ?_
    refine xG.seg 1 (f' := (297, [(2, .int (nI (M.2.1 1 (M.1 4)))), (0, .ref 22), (1, .int (nI x1))], [])) (x1 := M15) (fun _ => rfl) ?_
    exact xG.fin (fun _ => rfl) (⟨rfl, h⟩)

def w_R_conditions_110 (l1 : Nat) (M : xM) (Q : xM → Prop) : Prop := (l1 < 2147483648 ∧ ((l1 = 58 → w_R_closes 1 2 M (fun r2004 M2003 => (r2004 < 2147483648 ∧ ((r2004 = 0 → Q M2003) ∧ (¬ (r2004 = 0) → w_R_flush M2003 (fun M2007 => (1 ≤ M2007.1 8 ∧ (M2007.1 8 - 1 < 8 ∧ w_R_aim (M2007.2.1 5 (M2007.1 8 - 1)) M2007 (fun M2010 => (1 ≤ M2010.1 8 ∧ Q (dN M2010 8 (M2010.1 8 - 1)))))))))))) ∧ (¬ (l1 = 58) → Q M)))
set_option maxRecDepth 8000 in
set_option maxHeartbeats 4000000 in
theorem p_R_conditions_110 (L : Nat) (xs : Nat → Int32) (d : Nat) (Q : xM → Prop) (l1 : Nat) (M : xM) (h : w_R_conditions_110 l1 M Q) : xG xem (xgt L xs) (d + 2) xi_R_conditions (110, [(0, .ref 22), (1, .int (nI l1))], []) M (xPV Q) := by
  unfold w_R_conditions_110 at h
  refine xG.seg 2 (f' := (113, [(0, .ref 22), (1, .int (nI l1))], [.int (nI 58), .int (nI l1)])) (x1 := M) (fun _ => rfl) ?_
  obtain ⟨c2001, h⟩ := h
  refine xG.icmp (t := 154) (A := ¬ (l1 = 58)) rfl rfl (xe_c (xt_N c2001) (show ((nI 58) : Int32).toInt = 58 from by decide) (by dsimp only; omega)) (fun k2002 => ?_) (fun k2002 => ?_)
  · replace h := h.2 k2002
    exact xG.fin (fun _ => rfl) (⟨rfl, h⟩)
  · replace h := h.1 (Classical.not_not.mp k2002)
    refine xG.seg 3 (f' := (119, [(0, .ref 22), (1, .int (nI l1))], [.int (nI 2), .int (nI 1), .ref 22])) (x1 := M) (fun _ => rfl) ?_
    refine xG.call (d := d + 1) (vs := [.ref 22, .int (nI 1), .int (nI 2)]) (g := (119, [(0, .ref 22), (1, .int (nI l1))], [])) (fun _ => rfl) rfl (p_R_closes L xs d 1 2 M _ h) ?_
    clear h
    rintro _ M2003 ⟨r2004, rfl, h⟩
    refine ⟨_, rfl, ?_⟩
    refine xG.eqf (f' := (122, [(0, .ref 22), (1, .int (nI l1))], [.int (nI r2004)])) rfl ?_
    obtain ⟨c2005, h⟩ := h
    refine xG.ifc (t := 154) (A := r2004 = 0) rfl rfl (xe_c (xt_N c2005) (show (0 : Int32).toInt = 0 from by decide) (by dsimp only; omega)) (fun k2006 => ?_) (fun k2006 => ?_)
    · replace h := h.1 k2006
      exact xG.fin (fun _ => rfl) (⟨rfl, h⟩)
    · replace h := h.2 k2006
      refine xG.seg 1 (f' := (126, [(0, .ref 22), (1, .int (nI l1))], [.ref 22])) (x1 := M2003) (fun _ => rfl) ?_
      refine xG.call (d := d + 1) (vs := [.ref 22]) (g := (126, [(0, .ref 22), (1, .int (nI l1))], [])) (fun _ => rfl) rfl (p_R_flush L xs (d + 1) M2003 _ h) ?_
      clear h
      rintro _ M2007 ⟨rfl, h⟩
      refine ⟨_, rfl, ?_⟩
      refine xG.eqf (f' := (129, [(0, .ref 22), (1, .int (nI l1))], [])) rfl ?_
      refine xG.seg 7 (f' := (140, [(0, .ref 22), (1, .int (nI l1))], [.int (nI (M2007.1 8) - nI 1), .ref 30, .ref 22])) (x1 := M2007) (fun _ => rfl) ?_
      obtain ⟨c2008, h⟩ := h
      refine xG.conv (xe_cut c2008) ?_
      obtain ⟨c2009, h⟩ := h
      refine xG.iald rfl (Or.inl ⟨rfl, rfl⟩) (by decide) (fun _ => rfl) (by decide) c2009 ?_
      refine xG.eqf (f' := (141, [(0, .ref 22), (1, .int (nI l1))], [.int (nI (M2007.2.1 5 (M2007.1 8 - 1))), .ref 22])) rfl ?_
      refine xG.call (d := d + 1) (vs := [.ref 22, .int (nI (M2007.2.1 5 (M2007.1 8 - 1)))]) (g := (141, [(0, .ref 22), (1, .int (nI l1))], [])) (fun _ => rfl) rfl (p_R_aim L xs (d + 1) (M2007.2.1 5 (M2007.1 8 - 1)) M2007 _ h) ?_
      clear h
      rintro _ M2010 ⟨rfl, h⟩
      refine ⟨_, rfl, ?_⟩
      refine xG.eqf (f' := (144, [(0, .ref 22), (1, .int (nI l1))], [])) rfl ?_
      refine xG.seg 5 (f' := (151, [(0, .ref 22), (1, .int (nI l1))], [.int (nI (M2010.1 8) - nI 1), .ref 22])) (x1 := M2010) (fun _ => rfl) ?_
      obtain ⟨c2011, h⟩ := h
      refine xG.conv (xe_cut c2011) ?_
      refine xG.seg 1 (f' := (154, [(0, .ref 22), (1, .int (nI l1))], [])) (x1 := (dN M2010 8 (M2010.1 8 - 1))) (fun _ => rfl) ?_
      exact xG.fin (fun _ => rfl) (⟨rfl, h⟩)

def w_R_conditions_83 (l2 : Nat) (M : xM) (Q : xM → Prop) : Prop := (1 ≤ M.1 8 ∧ (M.1 8 - 1 < 8 ∧ (1 ≤ M.1 8 ∧ (M.1 8 - 1 < 8 ∧ Q (dB (dB M 4 (M.1 8 - 1) 2) 5 (M.1 8 - 1) l2)))))
set_option maxRecDepth 8000 in
set_option maxHeartbeats 4000000 in
theorem p_R_conditions_83 (L : Nat) (xs : Nat → Int32) (d : Nat) (Q : xM → Prop) (l2 : Nat) (M : xM) (h : w_R_conditions_83 l2 M Q) : xG xem (xgt L xs) (d + 2) xi_R_conditions (83, [(0, .ref 22), (2, .int (nI l2))], []) M (xPV Q) := by
  unfold w_R_conditions_83 at h
  refine xG.seg 7 (f' := (94, [(0, .ref 22), (2, .int (nI l2))], [.int (nI 2), .int (nI (M.1 8) - nI 1), .ref 29])) (x1 := M) (fun _ => rfl) ?_
  obtain ⟨c3001, h⟩ := h
  refine xG.eqf (f' := (94, [(0, .ref 22), (2, .int (nI l2))], [.int (nI 2), .int (nI (M.1 8 - 1)), .ref 29])) (by rw [xe_cut c3001]) ?_
  obtain ⟨c3002, h⟩ := h
  refine xG.iast (x1 := (dB M 4 (M.1 8 - 1) 2)) rfl (by decide) (fun _ => rfl) (by decide) c3002 (fun _ => by rw [xu_nI]; rfl) ?_
  refine xG.eqf (f' := (95, [(0, .ref 22), (2, .int (nI l2))], [])) rfl ?_
  refine xG.seg 7 (f' := (106, [(0, .ref 22), (2, .int (nI l2))], [.int (nI l2), .int (nI (M.1 8) - nI 1), .ref 30])) (x1 := (dB M 4 (M.1 8 - 1) 2)) (fun _ => rfl) ?_
  obtain ⟨c3003, h⟩ := h
  refine xG.eqf (f' := (106, [(0, .ref 22), (2, .int (nI l2))], [.int (nI l2), .int (nI (M.1 8 - 1)), .ref 30])) (by rw [xe_cut c3003]) ?_
  obtain ⟨c3004, h⟩ := h
  refine xG.iast (x1 := (dB (dB M 4 (M.1 8 - 1) 2) 5 (M.1 8 - 1) l2)) rfl (by decide) (fun _ => rfl) (by decide) c3004 (fun _ => by rw [xu_nI]; rfl) ?_
  refine xG.eqf (f' := (107, [(0, .ref 22), (2, .int (nI l2))], [])) rfl ?_
  refine xG.seg 1 (f' := (154, [(0, .ref 22), (2, .int (nI l2))], [])) (x1 := (dB (dB M 4 (M.1 8 - 1) 2) 5 (M.1 8 - 1) l2)) (fun _ => rfl) ?_
  exact xG.fin (fun _ => rfl) (⟨rfl, h⟩)

def w_R_conditions (x1 : Nat) (M : xM) (Q : xM → Prop) : Prop := (M.1 4 < 41 ∧ (x1 < 2147483648 ∧ ((x1 = 56 → w_R_add 45 (nI 0) M (fun M16 => (M16.1 1 < 2147483648 ∧ ((M16.1 1 = 0 → w_R_put 1 (M.2.1 1 (M.1 4)) M16 (fun M19 => Q M19)) ∧ (¬ (M16.1 1 = 0) → Q M16))))) ∧ (¬ (x1 = 56) → (x1 < 2147483648 ∧ ((x1 = 57 → w_R_closes 1 1 M (fun r7 M6 => (r7 < 2147483648 ∧ ((r7 = 0 → w_R_conditions_110 x1 M6 Q) ∧ (¬ (r7 = 0) → w_R_add 46 (nI 0) M6 (fun M10 => (M10.1 1 < 2147483648 ∧ ((M10.1 1 = 0 → (1 ≤ M10.1 8 ∧ (M10.1 8 - 1 < 8 ∧ w_R_aim (M10.2.1 5 (M10.1 8 - 1)) M10 (fun M15 => w_R_conditions_83 (M.2.1 1 (M.1 4)) M15 Q)))) ∧ (¬ (M10.1 1 = 0) → w_R_conditions_83 (M.2.1 1 (M.1 4)) M10 Q))))))))) ∧ (¬ (x1 = 57) → w_R_conditions_110 x1 M Q)))))))
set_option maxRecDepth 8000 in
set_option maxHeartbeats 4000000 in
theorem p_R_conditions (L : Nat) (xs : Nat → Int32) (d : Nat) (x1 : Nat) (M : xM) (Q : xM → Prop) (h : w_R_conditions x1 M Q) : xG xem (xgt L xs) (d + 2) xi_R_conditions (0, [(0, .ref 22), (1, .int (nI x1))], []) M (xPV Q) := by
  unfold w_R_conditions at h
  refine xG.seg 4 (f' := (8, [(0, .ref 22), (1, .int (nI x1))], [.int (nI (M.1 4)), .ref 25])) (x1 := M) (fun _ => rfl) ?_
  obtain ⟨c1, h⟩ := h
  refine xG.iald rfl (Or.inl ⟨rfl, rfl⟩) (by decide) (fun _ => rfl) (by decide) c1 ?_
  refine xG.eqf (f' := (9, [(0, .ref 22), (1, .int (nI x1))], [.int (nI (M.2.1 1 (M.1 4)))])) rfl ?_
  refine xG.seg 3 (f' := (13, [(2, .int (nI (M.2.1 1 (M.1 4)))), (0, .ref 22), (1, .int (nI x1))], [.int (nI 56), .int (nI x1)])) (x1 := M) (fun _ => rfl) ?_
  obtain ⟨c2, h⟩ := h
  refine xG.icmp (t := 39) (A := ¬ (x1 = 56)) rfl rfl (xe_c (xt_N c2) (show ((nI 56) : Int32).toInt = 56 from by decide) (by dsimp only; omega)) (fun k3 => ?_) (fun k3 => ?_)
  · replace h := h.2 k3
    refine xG.seg 2 (f' := (42, [(2, .int (nI (M.2.1 1 (M.1 4)))), (0, .ref 22), (1, .int (nI x1))], [.int (nI 57), .int (nI x1)])) (x1 := M) (fun _ => rfl) ?_
    obtain ⟨c4, h⟩ := h
    refine xG.icmp (t := 110) (A := ¬ (x1 = 57)) rfl rfl (xe_c (xt_N c4) (show ((nI 57) : Int32).toInt = 57 from by decide) (by dsimp only; omega)) (fun k5 => ?_) (fun k5 => ?_)
    · replace h := h.2 k5
      refine xG.lv (lv := [(0, .ref 22), (1, .int (nI x1))]) (lv' := [(2, .int (nI (M.2.1 1 (M.1 4)))), (0, .ref 22), (1, .int (nI x1))]) rfl rfl rfl ?_
      exact p_R_conditions_110 L xs d Q x1 M h
    · replace h := h.1 (Classical.not_not.mp k5)
      refine xG.seg 3 (f' := (48, [(2, .int (nI (M.2.1 1 (M.1 4)))), (0, .ref 22), (1, .int (nI x1))], [.int (nI 1), .int (nI 1), .ref 22])) (x1 := M) (fun _ => rfl) ?_
      refine xG.call (d := d + 1) (vs := [.ref 22, .int (nI 1), .int (nI 1)]) (g := (48, [(2, .int (nI (M.2.1 1 (M.1 4)))), (0, .ref 22), (1, .int (nI x1))], [])) (fun _ => rfl) rfl (p_R_closes L xs d 1 1 M _ h) ?_
      clear h
      rintro _ M6 ⟨r7, rfl, h⟩
      refine ⟨_, rfl, ?_⟩
      refine xG.eqf (f' := (51, [(2, .int (nI (M.2.1 1 (M.1 4)))), (0, .ref 22), (1, .int (nI x1))], [.int (nI r7)])) rfl ?_
      obtain ⟨c8, h⟩ := h
      refine xG.ifc (t := 110) (A := r7 = 0) rfl rfl (xe_c (xt_N c8) (show (0 : Int32).toInt = 0 from by decide) (by dsimp only; omega)) (fun k9 => ?_) (fun k9 => ?_)
      · replace h := h.1 k9
        refine xG.lv (lv := [(0, .ref 22), (1, .int (nI x1))]) (lv' := [(2, .int (nI (M.2.1 1 (M.1 4)))), (0, .ref 22), (1, .int (nI x1))]) rfl rfl rfl ?_
        exact p_R_conditions_110 L xs d Q x1 M6 h
      · replace h := h.2 k9
        refine xG.seg 3 (f' := (58, [(2, .int (nI (M.2.1 1 (M.1 4)))), (0, .ref 22), (1, .int (nI x1))], [.int (nI 0), .int (nI 46), .ref 22])) (x1 := M6) (fun _ => rfl) ?_
        refine xG.call (d := d + 1) (vs := [.ref 22, .int (nI 46), .int (nI 0)]) (g := (58, [(2, .int (nI (M.2.1 1 (M.1 4)))), (0, .ref 22), (1, .int (nI x1))], [])) (fun _ => rfl) rfl (p_R_add L xs d 46 (nI 0) M6 _ h) ?_
        clear h
        rintro _ M10 ⟨rfl, h⟩
        refine ⟨_, rfl, ?_⟩
        refine xG.eqf (f' := (61, [(2, .int (nI (M.2.1 1 (M.1 4)))), (0, .ref 22), (1, .int (nI x1))], [])) rfl ?_
        refine xG.seg 2 (f' := (65, [(2, .int (nI (M.2.1 1 (M.1 4)))), (0, .ref 22), (1, .int (nI x1))], [.int (nI (M10.1 1))])) (x1 := M10) (fun _ => rfl) ?_
        obtain ⟨c11, h⟩ := h
        refine xG.ifc (t := 83) (A := ¬ (M10.1 1 = 0)) rfl rfl (xe_c (xt_N c11) (show (0 : Int32).toInt = 0 from by decide) (by dsimp only; omega)) (fun k12 => ?_) (fun k12 => ?_)
        · replace h := h.2 k12
          refine xG.lv (lv := [(0, .ref 22), (2, .int (nI (M.2.1 1 (M.1 4))))]) (lv' := [(2, .int (nI (M.2.1 1 (M.1 4)))), (0, .ref 22), (1, .int (nI x1))]) rfl rfl rfl ?_
          exact p_R_conditions_83 L xs d Q (M.2.1 1 (M.1 4)) M10 h
        · replace h := h.1 (Classical.not_not.mp k12)
          refine xG.seg 7 (f' := (79, [(2, .int (nI (M.2.1 1 (M.1 4)))), (0, .ref 22), (1, .int (nI x1))], [.int (nI (M10.1 8) - nI 1), .ref 30, .ref 22])) (x1 := M10) (fun _ => rfl) ?_
          obtain ⟨c13, h⟩ := h
          refine xG.conv (xe_cut c13) ?_
          obtain ⟨c14, h⟩ := h
          refine xG.iald rfl (Or.inl ⟨rfl, rfl⟩) (by decide) (fun _ => rfl) (by decide) c14 ?_
          refine xG.eqf (f' := (80, [(2, .int (nI (M.2.1 1 (M.1 4)))), (0, .ref 22), (1, .int (nI x1))], [.int (nI (M10.2.1 5 (M10.1 8 - 1))), .ref 22])) rfl ?_
          refine xG.call (d := d + 1) (vs := [.ref 22, .int (nI (M10.2.1 5 (M10.1 8 - 1)))]) (g := (80, [(2, .int (nI (M.2.1 1 (M.1 4)))), (0, .ref 22), (1, .int (nI x1))], [])) (fun _ => rfl) rfl (p_R_aim L xs (d + 1) (M10.2.1 5 (M10.1 8 - 1)) M10 _ h) ?_
          clear h
          rintro _ M15 ⟨rfl, h⟩
          refine ⟨_, rfl, ?_⟩
          refine xG.eqf (f' := (83, [(2, .int (nI (M.2.1 1 (M.1 4)))), (0, .ref 22), (1, .int (nI x1))], [])) rfl ?_
          refine xG.lv (lv := [(0, .ref 22), (2, .int (nI (M.2.1 1 (M.1 4))))]) (lv' := [(2, .int (nI (M.2.1 1 (M.1 4)))), (0, .ref 22), (1, .int (nI x1))]) rfl rfl rfl ?_
          exact p_R_conditions_83 L xs d Q (M.2.1 1 (M.1 4)) M15 h
  · replace h := h.1 (Classical.not_not.mp k3)
    refine xG.seg 3 (f' := (20, [(2, .int (nI (M.2.1 1 (M.1 4)))), (0, .ref 22), (1, .int (nI x1))], [.int (nI 0), .int (nI 45), .ref 22])) (x1 := M) (fun _ => rfl) ?_
    refine xG.call (d := d + 1) (vs := [.ref 22, .int (nI 45), .int (nI 0)]) (g := (20, [(2, .int (nI (M.2.1 1 (M.1 4)))), (0, .ref 22), (1, .int (nI x1))], [])) (fun _ => rfl) rfl (p_R_add L xs d 45 (nI 0) M _ h) ?_
    clear h
    rintro _ M16 ⟨rfl, h⟩
    refine ⟨_, rfl, ?_⟩
    refine xG.eqf (f' := (23, [(2, .int (nI (M.2.1 1 (M.1 4)))), (0, .ref 22), (1, .int (nI x1))], [])) rfl ?_
    refine xG.seg 2 (f' := (27, [(2, .int (nI (M.2.1 1 (M.1 4)))), (0, .ref 22), (1, .int (nI x1))], [.int (nI (M16.1 1))])) (x1 := M16) (fun _ => rfl) ?_
    obtain ⟨c17, h⟩ := h
    refine xG.ifc (t := 154) (A := ¬ (M16.1 1 = 0)) rfl rfl (xe_c (xt_N c17) (show (0 : Int32).toInt = 0 from by decide) (by dsimp only; omega)) (fun k18 => ?_) (fun k18 => ?_)
    · replace h := h.2 k18
      exact xG.fin (fun _ => rfl) (⟨rfl, h⟩)
    · replace h := h.1 (Classical.not_not.mp k18)
      refine xG.seg 3 (f' := (33, [(2, .int (nI (M.2.1 1 (M.1 4)))), (0, .ref 22), (1, .int (nI x1))], [.int (nI (M.2.1 1 (M.1 4))), .int (nI 1), .ref 22])) (x1 := M16) (fun _ => rfl) ?_
      refine xG.call (d := d + 1) (vs := [.ref 22, .int (nI 1), .int (nI (M.2.1 1 (M.1 4)))]) (g := (33, [(2, .int (nI (M.2.1 1 (M.1 4)))), (0, .ref 22), (1, .int (nI x1))], [])) (fun _ => rfl) rfl (p_R_put L xs d 1 (M.2.1 1 (M.1 4)) M16 _ h) ?_
      clear h
      rintro _ M19 ⟨rfl, h⟩
      refine ⟨_, rfl, ?_⟩
      refine xG.eqf (f' := (36, [(2, .int (nI (M.2.1 1 (M.1 4)))), (0, .ref 22), (1, .int (nI x1))], [])) rfl ?_
      refine xG.seg 1 (f' := (154, [(2, .int (nI (M.2.1 1 (M.1 4)))), (0, .ref 22), (1, .int (nI x1))], [])) (x1 := M19) (fun _ => rfl) ?_
      exact xG.fin (fun _ => rfl) (⟨rfl, h⟩)

def w_R_compile_93 (M : xM) (Q : xM → Prop) : Prop := w_R_add 42 (nI 0) M (fun M4001 => (M4001.1 1 < 2147483648 ∧ ((M4001.1 1 = 0 → Q (dN (dN M4001 6 0) 4 (M4001.1 4 + 1))) ∧ (¬ (M4001.1 1 = 0) → Q M4001))))
set_option maxRecDepth 8000 in
set_option maxHeartbeats 4000000 in
theorem p_R_compile_93 (L : Nat) (xs : Nat → Int32) (d : Nat) (Q : xM → Prop) (M : xM) (h : w_R_compile_93 M Q) : xG xem (xgt L xs) (d + 3) xi_R_compile (93, [(0, .ref 22)], []) M (xPV Q) := by
  unfold w_R_compile_93 at h
  refine xG.seg 3 (f' := (97, [(0, .ref 22)], [.int (nI 0), .int (nI 42), .ref 22])) (x1 := M) (fun _ => rfl) ?_
  refine xG.call (d := d + 2) (vs := [.ref 22, .int (nI 42), .int (nI 0)]) (g := (97, [(0, .ref 22)], [])) (fun _ => rfl) rfl (p_R_add L xs (d + 1) 42 (nI 0) M _ h) ?_
  clear h
  rintro _ M4001 ⟨rfl, h⟩
  refine ⟨_, rfl, ?_⟩
  refine xG.eqf (f' := (100, [(0, .ref 22)], [])) rfl ?_
  refine xG.seg 2 (f' := (104, [(0, .ref 22)], [.int (nI (M4001.1 1))])) (x1 := M4001) (fun _ => rfl) ?_
  obtain ⟨c4002, h⟩ := h
  refine xG.ifc (t := 224) (A := ¬ (M4001.1 1 = 0)) rfl rfl (xe_c (xt_N c4002) (show (0 : Int32).toInt = 0 from by decide) (by dsimp only; omega)) (fun k4003 => ?_) (fun k4003 => ?_)
  · replace h := h.2 k4003
    exact xG.fin (fun _ => rfl) (⟨rfl, h⟩)
  · replace h := h.1 (Classical.not_not.mp k4003)
    refine xG.seg 8 (f' := (119, [(0, .ref 22)], [.int ((nI (M4001.1 4)) + (nI 1)), .ref 22])) (x1 := (dN M4001 6 0)) (fun _ => rfl) ?_
    refine xG.conv (xe_add (M4001.1 4) 1) ?_
    refine xG.eqf (f' := (119, [(0, .ref 22)], [.int (nI (M4001.1 4 + 1)), .ref 22])) rfl ?_
    refine xG.seg 2 (f' := (224, [(0, .ref 22)], [])) (x1 := (dN (dN M4001 6 0) 4 (M4001.1 4 + 1))) (fun _ => rfl) ?_
    exact xG.fin (fun _ => rfl) (⟨rfl, h⟩)

def w_R_compile_54 (l4 : Nat) (M : xM) (Q : xM → Prop) : Prop := w_R_within_ZNN l4 1 50 52 M (fun r3002 M3001 => (r3002 < 2147483648 ∧ ((r3002 = 0 → (l4 < 2147483648 ∧ ((l4 = 54 → (M3001.1 8 < 2147483648 ∧ ((M3001.1 8 ≤ 0 → w_R_compile_93 M3001 Q) ∧ (¬ (M3001.1 8 ≤ 0) → w_R_wrong 2 M3001 (fun M3033 => w_R_compile_93 M3033 Q))))) ∧ (¬ (l4 = 54) → (l4 < 2147483648 ∧ ((l4 = 55 → w_R_add 42 (nI 0) M3001 (fun M3030 => Q M3030)) ∧ (¬ (l4 = 55) → (l4 < 2147483648 ∧ ((l4 = 56 → w_R_add 41 (nI (M3001.1 4)) M3001 (fun M3029 => Q M3029)) ∧ (¬ (l4 = 56) → w_R_within_ZNN l4 1 56 58 M3001 (fun r3012 M3011 => (r3012 < 2147483648 ∧ ((r3012 = 0 → (l4 < 2147483648 ∧ ((l4 ≤ 59 → w_R_isNumber M3011 (fun r3018 M3017 => (r3018 < 2147483648 ∧ ((r3018 = 0 → w_R_wrong 1 M3017 (fun M3021 => Q M3021)) ∧ (¬ (r3018 = 0) → w_R_number M3017 (fun r3023 M3022 => w_R_add 40 r3023 M3022 (fun M3024 => Q M3024))))))) ∧ (¬ (l4 ≤ 59) → (1 ≤ l4 ∧ w_R_loops (l4 - 1) M3011 (fun M3026 => Q M3026)))))) ∧ (¬ (r3012 = 0) → (1 ≤ l4 ∧ w_R_conditions (l4 - 1) M3011 (fun M3028 => Q M3028)))))))))))))))) ∧ (¬ (r3002 = 0) → w_R_wrong 2 M3001 (fun M3034 => Q M3034)))))
set_option maxRecDepth 8000 in
set_option maxHeartbeats 4000000 in
theorem p_R_compile_54 (L : Nat) (xs : Nat → Int32) (d : Nat) (Q : xM → Prop) (l4 : Nat) (M : xM) (h : w_R_compile_54 l4 M Q) : xG xem (xgt L xs) (d + 3) xi_R_compile (54, [(0, .ref 22), (4, .int (nI l4 - nI 1))], []) M (xPV Q) := by
  unfold w_R_compile_54 at h
  refine xG.seg 3 (f' := (60, [(0, .ref 22), (4, .int (nI l4 - nI 1))], [.int (nI 52), .int (nI 50), .int (nI l4 - nI 1)])) (x1 := M) (fun _ => rfl) ?_
  refine xG.call (d := d + 2) (vs := [.int (nI l4 - nI 1), .int (nI 50), .int (nI 52)]) (g := (60, [(0, .ref 22), (4, .int (nI l4 - nI 1))], [])) (fun _ => rfl) rfl (p_R_within_ZNN L xs (d + 2) l4 1 50 52 M _ h) ?_
  clear h
  rintro _ M3001 ⟨r3002, rfl, h⟩
  refine ⟨_, rfl, ?_⟩
  refine xG.eqf (f' := (63, [(0, .ref 22), (4, .int (nI l4 - nI 1))], [.int (nI r3002)])) rfl ?_
  obtain ⟨c3003, h⟩ := h
  refine xG.ifc (t := 74) (A := r3002 = 0) rfl rfl (xe_c (xt_N c3003) (show (0 : Int32).toInt = 0 from by decide) (by dsimp only; omega)) (fun k3004 => ?_) (fun k3004 => ?_)
  · replace h := h.1 k3004
    refine xG.seg 2 (f' := (78, [(0, .ref 22), (4, .int (nI l4 - nI 1))], [.int (nI 53), .int (nI l4 - nI 1)])) (x1 := M3001) (fun _ => rfl) ?_
    obtain ⟨c3005, h⟩ := h
    refine xG.icmp (t := 125) (A := ¬ (l4 = 54)) rfl rfl (xe_c (xt_Z c3005 (by decide)) (show ((nI 53) : Int32).toInt = 53 from by decide) (by dsimp only; omega)) (fun k3006 => ?_) (fun k3006 => ?_)
    · replace h := h.2 k3006
      refine xG.seg 2 (f' := (129, [(0, .ref 22), (4, .int (nI l4 - nI 1))], [.int (nI 54), .int (nI l4 - nI 1)])) (x1 := M3001) (fun _ => rfl) ?_
      obtain ⟨c3007, h⟩ := h
      refine xG.icmp (t := 142) (A := ¬ (l4 = 55)) rfl rfl (xe_c (xt_Z c3007 (by decide)) (show ((nI 54) : Int32).toInt = 54 from by decide) (by dsimp only; omega)) (fun k3008 => ?_) (fun k3008 => ?_)
      · replace h := h.2 k3008
        refine xG.seg 2 (f' := (146, [(0, .ref 22), (4, .int (nI l4 - nI 1))], [.int (nI 55), .int (nI l4 - nI 1)])) (x1 := M3001) (fun _ => rfl) ?_
        obtain ⟨c3009, h⟩ := h
        refine xG.icmp (t := 162) (A := ¬ (l4 = 56)) rfl rfl (xe_c (xt_Z c3009 (by decide)) (show ((nI 55) : Int32).toInt = 55 from by decide) (by dsimp only; omega)) (fun k3010 => ?_) (fun k3010 => ?_)
        · replace h := h.2 k3010
          refine xG.seg 3 (f' := (168, [(0, .ref 22), (4, .int (nI l4 - nI 1))], [.int (nI 58), .int (nI 56), .int (nI l4 - nI 1)])) (x1 := M3001) (fun _ => rfl) ?_
          refine xG.call (d := d + 2) (vs := [.int (nI l4 - nI 1), .int (nI 56), .int (nI 58)]) (g := (168, [(0, .ref 22), (4, .int (nI l4 - nI 1))], [])) (fun _ => rfl) rfl (p_R_within_ZNN L xs (d + 2) l4 1 56 58 M3001 _ h) ?_
          clear h
          rintro _ M3011 ⟨r3012, rfl, h⟩
          refine ⟨_, rfl, ?_⟩
          refine xG.eqf (f' := (171, [(0, .ref 22), (4, .int (nI l4 - nI 1))], [.int (nI r3012)])) rfl ?_
          obtain ⟨c3013, h⟩ := h
          refine xG.ifc (t := 183) (A := r3012 = 0) rfl rfl (xe_c (xt_N c3013) (show (0 : Int32).toInt = 0 from by decide) (by dsimp only; omega)) (fun k3014 => ?_) (fun k3014 => ?_)
          · replace h := h.1 k3014
            refine xG.seg 2 (f' := (187, [(0, .ref 22), (4, .int (nI l4 - nI 1))], [.int (nI 58), .int (nI l4 - nI 1)])) (x1 := M3011) (fun _ => rfl) ?_
            obtain ⟨c3015, h⟩ := h
            refine xG.icmp (t := 199) (A := l4 ≤ 59) rfl rfl (xe_c (xt_Z c3015 (by decide)) (show ((nI 58) : Int32).toInt = 58 from by decide) (by dsimp only; omega)) (fun k3016 => ?_) (fun k3016 => ?_)
            · replace h := h.1 k3016
              refine xG.seg 1 (f' := (200, [(0, .ref 22), (4, .int (nI l4 - nI 1))], [.ref 22])) (x1 := M3011) (fun _ => rfl) ?_
              refine xG.call (d := d + 2) (vs := [.ref 22]) (g := (200, [(0, .ref 22), (4, .int (nI l4 - nI 1))], [])) (fun _ => rfl) rfl (p_R_isNumber L xs (d + 1) M3011 _ h) ?_
              clear h
              rintro _ M3017 ⟨r3018, rfl, h⟩
              refine ⟨_, rfl, ?_⟩
              refine xG.eqf (f' := (203, [(0, .ref 22), (4, .int (nI l4 - nI 1))], [.int (nI r3018)])) rfl ?_
              obtain ⟨c3019, h⟩ := h
              refine xG.ifc (t := 219) (A := r3018 = 0) rfl rfl (xe_c (xt_N c3019) (show (0 : Int32).toInt = 0 from by decide) (by dsimp only; omega)) (fun k3020 => ?_) (fun k3020 => ?_)
              · replace h := h.1 k3020
                refine xG.seg 2 (f' := (221, [(0, .ref 22), (4, .int (nI l4 - nI 1))], [.int (nI 1), .ref 22])) (x1 := M3017) (fun _ => rfl) ?_
                refine xG.call (d := d + 2) (vs := [.ref 22, .int (nI 1)]) (g := (221, [(0, .ref 22), (4, .int (nI l4 - nI 1))], [])) (fun _ => rfl) rfl (p_R_wrong L xs (d + 2) 1 M3017 _ h) ?_
                clear h
                rintro _ M3021 ⟨rfl, h⟩
                refine ⟨_, rfl, ?_⟩
                refine xG.eqf (f' := (224, [(0, .ref 22), (4, .int (nI l4 - nI 1))], [])) rfl ?_
                exact xG.fin (fun _ => rfl) (⟨rfl, h⟩)
              · replace h := h.2 k3020
                refine xG.seg 3 (f' := (210, [(0, .ref 22), (4, .int (nI l4 - nI 1))], [.ref 22, .int (nI 40), .ref 22])) (x1 := M3017) (fun _ => rfl) ?_
                refine xG.call (d := d + 2) (vs := [.ref 22]) (g := (210, [(0, .ref 22), (4, .int (nI l4 - nI 1))], [.int (nI 40), .ref 22])) (fun _ => rfl) rfl (p_R_number L xs (d + 2) M3017 _ h) ?_
                clear h
                rintro _ M3022 ⟨r3023, rfl, h⟩
                refine ⟨_, rfl, ?_⟩
                refine xG.eqf (f' := (213, [(0, .ref 22), (4, .int (nI l4 - nI 1))], [.int r3023, .int (nI 40), .ref 22])) rfl ?_
                refine xG.call (d := d + 2) (vs := [.ref 22, .int (nI 40), .int r3023]) (g := (213, [(0, .ref 22), (4, .int (nI l4 - nI 1))], [])) (fun _ => rfl) rfl (p_R_add L xs (d + 1) 40 r3023 M3022 _ h) ?_
                clear h
                rintro _ M3024 ⟨rfl, h⟩
                refine ⟨_, rfl, ?_⟩
                refine xG.eqf (f' := (216, [(0, .ref 22), (4, .int (nI l4 - nI 1))], [])) rfl ?_
                refine xG.seg 1 (f' := (224, [(0, .ref 22), (4, .int (nI l4 - nI 1))], [])) (x1 := M3024) (fun _ => rfl) ?_
                exact xG.fin (fun _ => rfl) (⟨rfl, h⟩)
            · replace h := h.2 k3016
              refine xG.seg 2 (f' := (193, [(0, .ref 22), (4, .int (nI l4 - nI 1))], [.int (nI l4 - nI 1), .ref 22])) (x1 := M3011) (fun _ => rfl) ?_
              obtain ⟨c3025, h⟩ := h
              refine xG.conv (xe_cut c3025) ?_
              refine xG.call (d := d + 2) (vs := [.ref 22, .int (nI (l4 - 1))]) (g := (193, [(0, .ref 22), (4, .int (nI l4 - nI 1))], [])) (fun _ => rfl) rfl (p_R_loops L xs d (l4 - 1) M3011 _ h) ?_
              clear h
              rintro _ M3026 ⟨rfl, h⟩
              refine ⟨_, rfl, ?_⟩
              refine xG.eqf (f' := (196, [(0, .ref 22), (4, .int (nI l4 - nI 1))], [])) rfl ?_
              refine xG.seg 1 (f' := (224, [(0, .ref 22), (4, .int (nI l4 - nI 1))], [])) (x1 := M3026) (fun _ => rfl) ?_
              exact xG.fin (fun _ => rfl) (⟨rfl, h⟩)
          · replace h := h.2 k3014
            refine xG.seg 2 (f' := (177, [(0, .ref 22), (4, .int (nI l4 - nI 1))], [.int (nI l4 - nI 1), .ref 22])) (x1 := M3011) (fun _ => rfl) ?_
            obtain ⟨c3027, h⟩ := h
            refine xG.conv (xe_cut c3027) ?_
            refine xG.call (d := d + 2) (vs := [.ref 22, .int (nI (l4 - 1))]) (g := (177, [(0, .ref 22), (4, .int (nI l4 - nI 1))], [])) (fun _ => rfl) rfl (p_R_conditions L xs d (l4 - 1) M3011 _ h) ?_
            clear h
            rintro _ M3028 ⟨rfl, h⟩
            refine ⟨_, rfl, ?_⟩
            refine xG.eqf (f' := (180, [(0, .ref 22), (4, .int (nI l4 - nI 1))], [])) rfl ?_
            refine xG.seg 1 (f' := (224, [(0, .ref 22), (4, .int (nI l4 - nI 1))], [])) (x1 := M3028) (fun _ => rfl) ?_
            exact xG.fin (fun _ => rfl) (⟨rfl, h⟩)
        · replace h := h.1 (Classical.not_not.mp k3010)
          refine xG.seg 4 (f' := (156, [(0, .ref 22), (4, .int (nI l4 - nI 1))], [.int (nI (M3001.1 4)), .int (nI 41), .ref 22])) (x1 := M3001) (fun _ => rfl) ?_
          refine xG.call (d := d + 2) (vs := [.ref 22, .int (nI 41), .int (nI (M3001.1 4))]) (g := (156, [(0, .ref 22), (4, .int (nI l4 - nI 1))], [])) (fun _ => rfl) rfl (p_R_add L xs (d + 1) 41 (nI (M3001.1 4)) M3001 _ h) ?_
          clear h
          rintro _ M3029 ⟨rfl, h⟩
          refine ⟨_, rfl, ?_⟩
          refine xG.eqf (f' := (159, [(0, .ref 22), (4, .int (nI l4 - nI 1))], [])) rfl ?_
          refine xG.seg 1 (f' := (224, [(0, .ref 22), (4, .int (nI l4 - nI 1))], [])) (x1 := M3029) (fun _ => rfl) ?_
          exact xG.fin (fun _ => rfl) (⟨rfl, h⟩)
      · replace h := h.1 (Classical.not_not.mp k3008)
        refine xG.seg 3 (f' := (136, [(0, .ref 22), (4, .int (nI l4 - nI 1))], [.int (nI 0), .int (nI 42), .ref 22])) (x1 := M3001) (fun _ => rfl) ?_
        refine xG.call (d := d + 2) (vs := [.ref 22, .int (nI 42), .int (nI 0)]) (g := (136, [(0, .ref 22), (4, .int (nI l4 - nI 1))], [])) (fun _ => rfl) rfl (p_R_add L xs (d + 1) 42 (nI 0) M3001 _ h) ?_
        clear h
        rintro _ M3030 ⟨rfl, h⟩
        refine ⟨_, rfl, ?_⟩
        refine xG.eqf (f' := (139, [(0, .ref 22), (4, .int (nI l4 - nI 1))], [])) rfl ?_
        refine xG.seg 1 (f' := (224, [(0, .ref 22), (4, .int (nI l4 - nI 1))], [])) (x1 := M3030) (fun _ => rfl) ?_
        exact xG.fin (fun _ => rfl) (⟨rfl, h⟩)
    · replace h := h.1 (Classical.not_not.mp k3006)
      refine xG.seg 2 (f' := (85, [(0, .ref 22), (4, .int (nI l4 - nI 1))], [.int (nI (M3001.1 8))])) (x1 := M3001) (fun _ => rfl) ?_
      obtain ⟨c3031, h⟩ := h
      refine xG.ifc (t := 93) (A := M3001.1 8 ≤ 0) rfl rfl (xe_c (xt_N c3031) (show (0 : Int32).toInt = 0 from by decide) (by dsimp only; omega)) (fun k3032 => ?_) (fun k3032 => ?_)
      · replace h := h.1 k3032
        refine xG.lv (lv := [(0, .ref 22)]) (lv' := [(0, .ref 22), (4, .int (nI l4 - nI 1))]) rfl rfl rfl ?_
        exact p_R_compile_93 L xs d Q M3001 h
      · replace h := h.2 k3032
        refine xG.seg 2 (f' := (90, [(0, .ref 22), (4, .int (nI l4 - nI 1))], [.int (nI 2), .ref 22])) (x1 := M3001) (fun _ => rfl) ?_
        refine xG.call (d := d + 2) (vs := [.ref 22, .int (nI 2)]) (g := (90, [(0, .ref 22), (4, .int (nI l4 - nI 1))], [])) (fun _ => rfl) rfl (p_R_wrong L xs (d + 2) 2 M3001 _ h) ?_
        clear h
        rintro _ M3033 ⟨rfl, h⟩
        refine ⟨_, rfl, ?_⟩
        refine xG.eqf (f' := (93, [(0, .ref 22), (4, .int (nI l4 - nI 1))], [])) rfl ?_
        refine xG.lv (lv := [(0, .ref 22)]) (lv' := [(0, .ref 22), (4, .int (nI l4 - nI 1))]) rfl rfl rfl ?_
        exact p_R_compile_93 L xs d Q M3033 h
  · replace h := h.2 k3004
    refine xG.seg 2 (f' := (68, [(0, .ref 22), (4, .int (nI l4 - nI 1))], [.int (nI 2), .ref 22])) (x1 := M3001) (fun _ => rfl) ?_
    refine xG.call (d := d + 2) (vs := [.ref 22, .int (nI 2)]) (g := (68, [(0, .ref 22), (4, .int (nI l4 - nI 1))], [])) (fun _ => rfl) rfl (p_R_wrong L xs (d + 2) 2 M3001 _ h) ?_
    clear h
    rintro _ M3034 ⟨rfl, h⟩
    refine ⟨_, rfl, ?_⟩
    refine xG.eqf (f' := (71, [(0, .ref 22), (4, .int (nI l4 - nI 1))], [])) rfl ?_
    refine xG.seg 1 (f' := (224, [(0, .ref 22), (4, .int (nI l4 - nI 1))], [])) (x1 := M3034) (fun _ => rfl) ?_
    exact xG.fin (fun _ => rfl) (⟨rfl, h⟩)

def w_R_compile_32 (l3 : Nat) (l4 : Nat) (M : xM) (Q : xM → Prop) : Prop := (l4 < 2147483648 ∧ ((l4 ≤ 1 → w_R_compile_54 l4 M Q) ∧ (¬ (l4 ≤ 1) → (l4 < 2147483648 ∧ ((43 ≤ l4 → w_R_compile_54 l4 M Q) ∧ (¬ (43 ≤ l4) → (1 ≤ l4 ∧ w_R_add (l4 - 1) (nI l3 - nI 1) M (fun M2006 => Q M2006))))))))
set_option maxRecDepth 8000 in
set_option maxHeartbeats 4000000 in
theorem p_R_compile_32 (L : Nat) (xs : Nat → Int32) (d : Nat) (Q : xM → Prop) (l3 : Nat) (l4 : Nat) (M : xM) (h : w_R_compile_32 l3 l4 M Q) : xG xem (xgt L xs) (d + 3) xi_R_compile (32, [(0, .ref 22), (3, .int (nI l3 - nI 1)), (4, .int (nI l4 - nI 1))], []) M (xPV Q) := by
  unfold w_R_compile_32 at h
  refine xG.seg 1 (f' := (34, [(0, .ref 22), (3, .int (nI l3 - nI 1)), (4, .int (nI l4 - nI 1))], [.int (nI l4 - nI 1)])) (x1 := M) (fun _ => rfl) ?_
  obtain ⟨c2001, h⟩ := h
  refine xG.ifc (t := 54) (A := l4 ≤ 1) rfl rfl (xe_c (xt_Z c2001 (by decide)) (show (0 : Int32).toInt = 0 from by decide) (by dsimp only; omega)) (fun k2002 => ?_) (fun k2002 => ?_)
  · replace h := h.1 k2002
    refine xG.lv (lv := [(0, .ref 22), (4, .int (nI l4 - nI 1))]) (lv' := [(0, .ref 22), (3, .int (nI l3 - nI 1)), (4, .int (nI l4 - nI 1))]) rfl rfl rfl ?_
    exact p_R_compile_54 L xs d Q l4 M h
  · replace h := h.2 k2002
    refine xG.seg 2 (f' := (41, [(0, .ref 22), (3, .int (nI l3 - nI 1)), (4, .int (nI l4 - nI 1))], [.int (nI 42), .int (nI l4 - nI 1)])) (x1 := M) (fun _ => rfl) ?_
    obtain ⟨c2003, h⟩ := h
    refine xG.icmp (t := 54) (A := 43 ≤ l4) rfl rfl (xe_c (xt_Z c2003 (by decide)) (show ((nI 42) : Int32).toInt = 42 from by decide) (by dsimp only; omega)) (fun k2004 => ?_) (fun k2004 => ?_)
    · replace h := h.1 k2004
      refine xG.lv (lv := [(0, .ref 22), (4, .int (nI l4 - nI 1))]) (lv' := [(0, .ref 22), (3, .int (nI l3 - nI 1)), (4, .int (nI l4 - nI 1))]) rfl rfl rfl ?_
      exact p_R_compile_54 L xs d Q l4 M h
    · replace h := h.2 k2004
      refine xG.seg 3 (f' := (48, [(0, .ref 22), (3, .int (nI l3 - nI 1)), (4, .int (nI l4 - nI 1))], [.int (nI l3 - nI 1), .int (nI l4 - nI 1), .ref 22])) (x1 := M) (fun _ => rfl) ?_
      obtain ⟨c2005, h⟩ := h
      refine xG.eqf (f' := (48, [(0, .ref 22), (3, .int (nI l3 - nI 1)), (4, .int (nI l4 - nI 1))], [.int (nI l3 - nI 1), .int (nI (l4 - 1)), .ref 22])) (by rw [xe_cut c2005]) ?_
      refine xG.call (d := d + 2) (vs := [.ref 22, .int (nI (l4 - 1)), .int (nI l3 - nI 1)]) (g := (48, [(0, .ref 22), (3, .int (nI l3 - nI 1)), (4, .int (nI l4 - nI 1))], [])) (fun _ => rfl) rfl (p_R_add L xs (d + 1) (l4 - 1) (nI l3 - nI 1) M _ h) ?_
      clear h
      rintro _ M2006 ⟨rfl, h⟩
      refine ⟨_, rfl, ?_⟩
      refine xG.eqf (f' := (51, [(0, .ref 22), (3, .int (nI l3 - nI 1)), (4, .int (nI l4 - nI 1))], [])) rfl ?_
      refine xG.seg 1 (f' := (224, [(0, .ref 22), (3, .int (nI l3 - nI 1)), (4, .int (nI l4 - nI 1))], [])) (x1 := M2006) (fun _ => rfl) ?_
      exact xG.fin (fun _ => rfl) (⟨rfl, h⟩)

def w_R_compile (x1 : Int64) (M : xM) (Q : xM → Prop) : Prop := w_R_find x1 M (fun r2 M1 => (r2 < 2147483648 ∧ ((r2 < 1 → w_R_builtIn x1 M1 (fun r6 M5 => (r6 < 2147483648 ∧ ((1 ≤ r6 → w_R_compile_32 r2 r6 M5 Q) ∧ (¬ (1 ≤ r6) → w_R_other x1 M5 (fun r10 M9 => w_R_compile_32 r2 r10 M9 Q)))))) ∧ (¬ (r2 < 1) → ((0 ≤ 41 → w_R_compile_32 r2 42 M1 Q) ∧ (¬ (0 ≤ 41) → w_R_other x1 M1 (fun r13 M12 => w_R_compile_32 r2 r13 M12 Q)))))))
set_option maxRecDepth 8000 in
set_option maxHeartbeats 4000000 in
theorem p_R_compile (L : Nat) (xs : Nat → Int32) (d : Nat) (x1 : Int64) (M : xM) (Q : xM → Prop) (h : w_R_compile x1 M Q) : xG xem (xgt L xs) (d + 3) xi_R_compile (0, [(0, .ref 22), (1, .long x1)], []) M (xPV Q) := by
  unfold w_R_compile at h
  refine xG.seg 2 (f' := (2, [(0, .ref 22), (1, .long x1)], [.long x1, .ref 22])) (x1 := M) (fun _ => rfl) ?_
  refine xG.call (d := d + 2) (vs := [.ref 22, .long x1]) (g := (2, [(0, .ref 22), (1, .long x1)], [])) (fun _ => rfl) rfl (p_R_find L xs (d + 2) x1 M _ h) ?_
  clear h
  rintro _ M1 ⟨r2, rfl, h⟩
  refine ⟨_, rfl, ?_⟩
  refine xG.eqf (f' := (5, [(0, .ref 22), (1, .long x1)], [.int (nI r2 - nI 1)])) rfl ?_
  refine xG.seg 2 (f' := (7, [(3, .int (nI r2 - nI 1)), (0, .ref 22), (1, .long x1)], [.int (nI r2 - nI 1)])) (x1 := M1) (fun _ => rfl) ?_
  obtain ⟨c3, h⟩ := h
  refine xG.ifc (t := 15) (A := r2 < 1) rfl rfl (xe_c (xt_Z c3 (by decide)) (show (0 : Int32).toInt = 0 from by decide) (by dsimp only; omega)) (fun k4 => ?_) (fun k4 => ?_)
  · replace h := h.1 k4
    refine xG.seg 1 (f' := (16, [(3, .int (nI r2 - nI 1)), (0, .ref 22), (1, .long x1)], [.long x1])) (x1 := M1) (fun _ => rfl) ?_
    refine xG.call (d := d + 2) (vs := [.long x1]) (g := (16, [(3, .int (nI r2 - nI 1)), (0, .ref 22), (1, .long x1)], [])) (fun _ => rfl) rfl (p_R_builtIn L xs (d + 2) x1 M1 _ h) ?_
    clear h
    rintro _ M5 ⟨r6, rfl, h⟩
    refine ⟨_, rfl, ?_⟩
    refine xG.eqf (f' := (19, [(3, .int (nI r2 - nI 1)), (0, .ref 22), (1, .long x1)], [.int (nI r6 - nI 1)])) rfl ?_
    refine xG.seg 2 (f' := (23, [(4, .int (nI r6 - nI 1)), (3, .int (nI r2 - nI 1)), (0, .ref 22), (1, .long x1)], [.int (nI r6 - nI 1)])) (x1 := M5) (fun _ => rfl) ?_
    obtain ⟨c7, h⟩ := h
    refine xG.ifc (t := 32) (A := 1 ≤ r6) rfl rfl (xe_c (xt_Z c7 (by decide)) (show (0 : Int32).toInt = 0 from by decide) (by dsimp only; omega)) (fun k8 => ?_) (fun k8 => ?_)
    · replace h := h.1 k8
      refine xG.lv (lv := [(0, .ref 22), (3, .int (nI r2 - nI 1)), (4, .int (nI r6 - nI 1))]) (lv' := [(4, .int (nI r6 - nI 1)), (3, .int (nI r2 - nI 1)), (0, .ref 22), (1, .long x1)]) rfl rfl rfl ?_
      exact p_R_compile_32 L xs d Q r2 r6 M5 h
    · replace h := h.2 k8
      refine xG.seg 1 (f' := (27, [(4, .int (nI r6 - nI 1)), (3, .int (nI r2 - nI 1)), (0, .ref 22), (1, .long x1)], [.long x1])) (x1 := M5) (fun _ => rfl) ?_
      refine xG.call (d := d + 2) (vs := [.long x1]) (g := (27, [(4, .int (nI r6 - nI 1)), (3, .int (nI r2 - nI 1)), (0, .ref 22), (1, .long x1)], [])) (fun _ => rfl) rfl (p_R_other L xs (d + 2) x1 M5 _ h) ?_
      clear h
      rintro _ M9 ⟨r10, rfl, h⟩
      refine ⟨_, rfl, ?_⟩
      refine xG.eqf (f' := (30, [(4, .int (nI r6 - nI 1)), (3, .int (nI r2 - nI 1)), (0, .ref 22), (1, .long x1)], [.int (nI r10 - nI 1)])) rfl ?_
      refine xG.seg 1 (f' := (32, [(4, .int (nI r10 - nI 1)), (3, .int (nI r2 - nI 1)), (0, .ref 22), (1, .long x1)], [])) (x1 := M9) (fun _ => rfl) ?_
      refine xG.lv (lv := [(0, .ref 22), (3, .int (nI r2 - nI 1)), (4, .int (nI r10 - nI 1))]) (lv' := [(4, .int (nI r10 - nI 1)), (3, .int (nI r2 - nI 1)), (0, .ref 22), (1, .long x1)]) rfl rfl rfl ?_
      exact p_R_compile_32 L xs d Q r2 r10 M9 h
  · replace h := h.2 k4
    refine xG.seg 4 (f' := (23, [(4, .int (nI 41)), (3, .int (nI r2 - nI 1)), (0, .ref 22), (1, .long x1)], [.int (nI 41)])) (x1 := M1) (fun _ => rfl) ?_
    refine xG.ifc (t := 32) (A := 0 ≤ 41) rfl rfl (xe_c (show ((nI 41) : Int32).toInt = 41 from by decide) (show (0 : Int32).toInt = 0 from by decide) (by dsimp only; omega)) (fun k11 => ?_) (fun k11 => ?_)
    · replace h := h.1 k11
      refine xG.eqf (f' := (32, [(4, .int (nI 42 - nI 1)), (3, .int (nI r2 - nI 1)), (0, .ref 22), (1, .long x1)], [])) (by rw [xe_up 41 1]) ?_
      refine xG.lv (lv := [(0, .ref 22), (3, .int (nI r2 - nI 1)), (4, .int (nI 42 - nI 1))]) (lv' := [(4, .int (nI 42 - nI 1)), (3, .int (nI r2 - nI 1)), (0, .ref 22), (1, .long x1)]) rfl rfl rfl ?_
      exact p_R_compile_32 L xs d Q r2 42 M1 h
    · replace h := h.2 k11
      refine xG.seg 1 (f' := (27, [(4, .int (nI 41)), (3, .int (nI r2 - nI 1)), (0, .ref 22), (1, .long x1)], [.long x1])) (x1 := M1) (fun _ => rfl) ?_
      refine xG.call (d := d + 2) (vs := [.long x1]) (g := (27, [(4, .int (nI 41)), (3, .int (nI r2 - nI 1)), (0, .ref 22), (1, .long x1)], [])) (fun _ => rfl) rfl (p_R_other L xs (d + 2) x1 M1 _ h) ?_
      clear h
      rintro _ M12 ⟨r13, rfl, h⟩
      refine ⟨_, rfl, ?_⟩
      refine xG.eqf (f' := (30, [(4, .int (nI 41)), (3, .int (nI r2 - nI 1)), (0, .ref 22), (1, .long x1)], [.int (nI r13 - nI 1)])) rfl ?_
      refine xG.seg 1 (f' := (32, [(4, .int (nI r13 - nI 1)), (3, .int (nI r2 - nI 1)), (0, .ref 22), (1, .long x1)], [])) (x1 := M12) (fun _ => rfl) ?_
      refine xG.lv (lv := [(0, .ref 22), (3, .int (nI r2 - nI 1)), (4, .int (nI r13 - nI 1))]) (lv' := [(4, .int (nI r13 - nI 1)), (3, .int (nI r2 - nI 1)), (0, .ref 22), (1, .long x1)]) rfl rfl rfl ?_
      exact p_R_compile_32 L xs d Q r2 r13 M12 h

def w_R_interpret_110 (K : Nat → xM → Prop) (l1 : Nat) (M : xM) (Q : Nat → xM → Prop) : Prop := (M.1 1 < 2147483648 ∧ ((M.1 1 = 0 → Q l1 (dN M 2 0)) ∧ (¬ (M.1 1 = 0) → w_R_fail (M.1 1) (dN (dN (dN (dN M 2 0) 9 0) 10 0) 6 0) (fun r3004 M3003 => Q r3004 M3003))))
set_option maxRecDepth 8000 in
set_option maxHeartbeats 4000000 in
theorem p_R_interpret_110 (L : Nat) (xs : Nat → Int32) (d : Nat) (Q : Nat → xM → Prop) (K : Nat → xM → Prop) (hK : ∀ (l1 : Nat) (M : xM), K l1 M → xG xem (xgt L xs) (d + 7) xi_R_interpret (42, [(0, .ref 22), (1, .int (nI l1))], []) M (xPN Q)) (l1 : Nat) (M : xM) (h : w_R_interpret_110 K l1 M Q) : xG xem (xgt L xs) (d + 7) xi_R_interpret (110, [(0, .ref 22), (1, .int (nI l1))], []) M (xPN Q) := by
  unfold w_R_interpret_110 at h
  refine xG.seg 5 (f' := (119, [(0, .ref 22), (1, .int (nI l1))], [.int (nI (M.1 1))])) (x1 := (dN M 2 0)) (fun _ => rfl) ?_
  obtain ⟨c3001, h⟩ := h
  refine xG.ifc (t := 124) (A := ¬ (M.1 1 = 0)) rfl rfl (xe_c (xt_N c3001) (show (0 : Int32).toInt = 0 from by decide) (by dsimp only; omega)) (fun k3002 => ?_) (fun k3002 => ?_)
  · replace h := h.2 k3002
    refine xG.seg 12 (f' := (144, [(0, .ref 22), (1, .int (nI l1))], [.int (nI (M.1 1)), .ref 22])) (x1 := (dN (dN (dN (dN M 2 0) 9 0) 10 0) 6 0)) (fun _ => rfl) ?_
    refine xG.call (d := d + 6) (vs := [.ref 22, .int (nI (M.1 1))]) (g := (144, [(0, .ref 22), (1, .int (nI l1))], [])) (fun _ => rfl) rfl (p_R_fail L xs (d + 6) (M.1 1) (dN (dN (dN (dN M 2 0) 9 0) 10 0) 6 0) _ h) ?_
    clear h
    rintro _ M3003 ⟨r3004, rfl, h⟩
    refine ⟨_, rfl, ?_⟩
    refine xG.eqf (f' := (147, [(0, .ref 22), (1, .int (nI l1))], [.int (nI r3004)])) rfl ?_
    exact xG.fin (fun _ => rfl) (⟨_, rfl, h⟩)
  · replace h := h.1 (Classical.not_not.mp k3002)
    refine xG.seg 1 (f' := (123, [(0, .ref 22), (1, .int (nI l1))], [.int (nI l1)])) (x1 := (dN M 2 0)) (fun _ => rfl) ?_
    exact xG.fin (fun _ => rfl) (⟨_, rfl, h⟩)

def wi_R_interpret_42 (K : Nat → xM → Prop) (l1 : Nat) (M : xM) (Q : Nat → xM → Prop) : Prop := (M.1 1 < 2147483648 ∧ ((M.1 1 = 0 → w_R_word M (fun r2004 M2003 => (r2004 < 2147483648 ∧ ((r2004 = 0 → w_R_interpret_110 K l1 M2003 Q) ∧ (¬ (r2004 = 0) → w_R_packed M2003 (fun r2008 M2007 => (M2007.1 6 < 2147483648 ∧ ((M2007.1 6 = 0 → w_R_acts r2008 M2007 (fun M2011 => (M2011.1 3 < 2147483648 ∧ (M2007.1 3 < 2147483648 ∧ ((M2011.1 3 ≤ M2007.1 3 → K (l1 + 1) M2011) ∧ (¬ (M2011.1 3 ≤ M2007.1 3) → K (l1 + 2) M2011)))))) ∧ (¬ (M2007.1 6 = 0) → w_R_compile r2008 M2007 (fun M2015 => (M2015.1 3 < 2147483648 ∧ (M2007.1 3 < 2147483648 ∧ ((M2015.1 3 ≤ M2007.1 3 → K (l1 + 1) M2015) ∧ (¬ (M2015.1 3 ≤ M2007.1 3) → K (l1 + 2) M2015)))))))))))))) ∧ (¬ (M.1 1 = 0) → w_R_interpret_110 K l1 M Q)))
set_option maxRecDepth 8000 in
set_option maxHeartbeats 4000000 in
theorem pi_R_interpret_42 (L : Nat) (xs : Nat → Int32) (d : Nat) (Q : Nat → xM → Prop) (K : Nat → xM → Prop) (hK : ∀ (l1 : Nat) (M : xM), K l1 M → xG xem (xgt L xs) (d + 7) xi_R_interpret (42, [(0, .ref 22), (1, .int (nI l1))], []) M (xPN Q)) (l1 : Nat) (M : xM) (h : wi_R_interpret_42 K l1 M Q) : xG xem (xgt L xs) (d + 7) xi_R_interpret (42, [(0, .ref 22), (1, .int (nI l1))], []) M (xPN Q) := by
  unfold wi_R_interpret_42 at h
  refine xG.seg 2 (f' := (46, [(0, .ref 22), (1, .int (nI l1))], [.int (nI (M.1 1))])) (x1 := M) (fun _ => rfl) ?_
  obtain ⟨c2001, h⟩ := h
  refine xG.ifc (t := 110) (A := ¬ (M.1 1 = 0)) rfl rfl (xe_c (xt_N c2001) (show (0 : Int32).toInt = 0 from by decide) (by dsimp only; omega)) (fun k2002 => ?_) (fun k2002 => ?_)
  · replace h := h.2 k2002
    refine xG.lv (lv := [(0, .ref 22), (1, .int (nI l1))]) (lv' := [(0, .ref 22), (1, .int (nI l1))]) rfl rfl rfl ?_
    exact p_R_interpret_110 L xs d Q K hK l1 M h
  · replace h := h.1 (Classical.not_not.mp k2002)
    refine xG.seg 1 (f' := (50, [(0, .ref 22), (1, .int (nI l1))], [.ref 22])) (x1 := M) (fun _ => rfl) ?_
    refine xG.call (d := d + 6) (vs := [.ref 22]) (g := (50, [(0, .ref 22), (1, .int (nI l1))], [])) (fun _ => rfl) rfl (p_R_word L xs (d + 6) M _ h) ?_
    clear h
    rintro _ M2003 ⟨r2004, rfl, h⟩
    refine ⟨_, rfl, ?_⟩
    refine xG.eqf (f' := (53, [(0, .ref 22), (1, .int (nI l1))], [.int (nI r2004)])) rfl ?_
    obtain ⟨c2005, h⟩ := h
    refine xG.ifc (t := 110) (A := r2004 = 0) rfl rfl (xe_c (xt_N c2005) (show (0 : Int32).toInt = 0 from by decide) (by dsimp only; omega)) (fun k2006 => ?_) (fun k2006 => ?_)
    · replace h := h.1 k2006
      refine xG.lv (lv := [(0, .ref 22), (1, .int (nI l1))]) (lv' := [(0, .ref 22), (1, .int (nI l1))]) rfl rfl rfl ?_
      exact p_R_interpret_110 L xs d Q K hK l1 M2003 h
    · replace h := h.2 k2006
      refine xG.iinc (v := (nI l1)) (w := (nI (l1 + 1))) rfl rfl (by decide) (xe_add l1 1) ?_
      refine xG.eqf (f' := (59, [(1, .int (nI (l1 + 1))), (0, .ref 22)], [])) rfl ?_
      refine xG.seg 1 (f' := (60, [(1, .int (nI (l1 + 1))), (0, .ref 22)], [.ref 22])) (x1 := M2003) (fun _ => rfl) ?_
      refine xG.call (d := d + 6) (vs := [.ref 22]) (g := (60, [(1, .int (nI (l1 + 1))), (0, .ref 22)], [])) (fun _ => rfl) rfl (p_R_packed L xs (d + 6) M2003 _ h) ?_
      clear h
      rintro _ M2007 ⟨r2008, rfl, h⟩
      refine ⟨_, rfl, ?_⟩
      refine xG.eqf (f' := (63, [(1, .int (nI (l1 + 1))), (0, .ref 22)], [.long r2008])) rfl ?_
      refine xG.seg 6 (f' := (74, [(4, .int (nI (M2007.1 3))), (2, .long r2008), (1, .int (nI (l1 + 1))), (0, .ref 22)], [.int (nI (M2007.1 6))])) (x1 := M2007) (fun _ => rfl) ?_
      obtain ⟨c2009, h⟩ := h
      refine xG.ifc (t := 85) (A := M2007.1 6 = 0) rfl rfl (xe_c (xt_N c2009) (show (0 : Int32).toInt = 0 from by decide) (by dsimp only; omega)) (fun k2010 => ?_) (fun k2010 => ?_)
      · replace h := h.1 k2010
        refine xG.seg 2 (f' := (87, [(4, .int (nI (M2007.1 3))), (2, .long r2008), (1, .int (nI (l1 + 1))), (0, .ref 22)], [.long r2008, .ref 22])) (x1 := M2007) (fun _ => rfl) ?_
        refine xG.call (d := d + 6) (vs := [.ref 22, .long r2008]) (g := (87, [(4, .int (nI (M2007.1 3))), (2, .long r2008), (1, .int (nI (l1 + 1))), (0, .ref 22)], [])) (fun _ => rfl) rfl (p_R_acts L xs d r2008 M2007 _ h) ?_
        clear h
        rintro _ M2011 ⟨rfl, h⟩
        refine ⟨_, rfl, ?_⟩
        refine xG.eqf (f' := (90, [(4, .int (nI (M2007.1 3))), (2, .long r2008), (1, .int (nI (l1 + 1))), (0, .ref 22)], [])) rfl ?_
        refine xG.seg 4 (f' := (97, [(4, .int (nI (M2007.1 3))), (2, .long r2008), (1, .int (nI (l1 + 1))), (0, .ref 22)], [.int (nI (M2007.1 3)), .int (nI (M2011.1 3)), .int (nI (l1 + 1))])) (x1 := M2011) (fun _ => rfl) ?_
        obtain ⟨c2012, h⟩ := h
        obtain ⟨c2013, h⟩ := h
        refine xG.icmp (t := 104) (A := M2011.1 3 ≤ M2007.1 3) rfl rfl (xe_c (xt_N c2012) (xt_N c2013) (by dsimp only; omega)) (fun k2014 => ?_) (fun k2014 => ?_)
        · replace h := h.1 k2014
          refine xG.seg 2 (f' := (106, [(4, .int (nI (M2007.1 3))), (2, .long r2008), (1, .int (nI (l1 + 1))), (0, .ref 22)], [.int ((nI (l1 + 1)) + (nI 0))])) (x1 := M2011) (fun _ => rfl) ?_
          refine xG.conv (xe_add (l1 + 1) 0) ?_
          refine xG.eqf (f' := (106, [(4, .int (nI (M2007.1 3))), (2, .long r2008), (1, .int (nI (l1 + 1))), (0, .ref 22)], [.int (nI (l1 + 1))])) rfl ?_
          refine xG.seg 2 (f' := (42, [(1, .int (nI (l1 + 1))), (4, .int (nI (M2007.1 3))), (2, .long r2008), (0, .ref 22)], [])) (x1 := M2011) (fun _ => rfl) ?_
          refine xG.lv (lv := [(0, .ref 22), (1, .int (nI (l1 + 1)))]) (lv' := [(1, .int (nI (l1 + 1))), (4, .int (nI (M2007.1 3))), (2, .long r2008), (0, .ref 22)]) rfl rfl rfl ?_
          exact hK (l1 + 1) M2011 h
        · replace h := h.2 k2014
          refine xG.seg 3 (f' := (106, [(4, .int (nI (M2007.1 3))), (2, .long r2008), (1, .int (nI (l1 + 1))), (0, .ref 22)], [.int ((nI (l1 + 1)) + (nI 1))])) (x1 := M2011) (fun _ => rfl) ?_
          refine xG.conv (xe_add (l1 + 1) 1) ?_
          refine xG.eqf (f' := (106, [(4, .int (nI (M2007.1 3))), (2, .long r2008), (1, .int (nI (l1 + 1))), (0, .ref 22)], [.int (nI (l1 + 2))])) rfl ?_
          refine xG.seg 2 (f' := (42, [(1, .int (nI (l1 + 2))), (4, .int (nI (M2007.1 3))), (2, .long r2008), (0, .ref 22)], [])) (x1 := M2011) (fun _ => rfl) ?_
          refine xG.lv (lv := [(0, .ref 22), (1, .int (nI (l1 + 2)))]) (lv' := [(1, .int (nI (l1 + 2))), (4, .int (nI (M2007.1 3))), (2, .long r2008), (0, .ref 22)]) rfl rfl rfl ?_
          exact hK (l1 + 2) M2011 h
      · replace h := h.2 k2010
        refine xG.seg 2 (f' := (79, [(4, .int (nI (M2007.1 3))), (2, .long r2008), (1, .int (nI (l1 + 1))), (0, .ref 22)], [.long r2008, .ref 22])) (x1 := M2007) (fun _ => rfl) ?_
        refine xG.call (d := d + 6) (vs := [.ref 22, .long r2008]) (g := (79, [(4, .int (nI (M2007.1 3))), (2, .long r2008), (1, .int (nI (l1 + 1))), (0, .ref 22)], [])) (fun _ => rfl) rfl (p_R_compile L xs (d + 3) r2008 M2007 _ h) ?_
        clear h
        rintro _ M2015 ⟨rfl, h⟩
        refine ⟨_, rfl, ?_⟩
        refine xG.eqf (f' := (82, [(4, .int (nI (M2007.1 3))), (2, .long r2008), (1, .int (nI (l1 + 1))), (0, .ref 22)], [])) rfl ?_
        refine xG.seg 5 (f' := (97, [(4, .int (nI (M2007.1 3))), (2, .long r2008), (1, .int (nI (l1 + 1))), (0, .ref 22)], [.int (nI (M2007.1 3)), .int (nI (M2015.1 3)), .int (nI (l1 + 1))])) (x1 := M2015) (fun _ => rfl) ?_
        obtain ⟨c2016, h⟩ := h
        obtain ⟨c2017, h⟩ := h
        refine xG.icmp (t := 104) (A := M2015.1 3 ≤ M2007.1 3) rfl rfl (xe_c (xt_N c2016) (xt_N c2017) (by dsimp only; omega)) (fun k2018 => ?_) (fun k2018 => ?_)
        · replace h := h.1 k2018
          refine xG.seg 2 (f' := (106, [(4, .int (nI (M2007.1 3))), (2, .long r2008), (1, .int (nI (l1 + 1))), (0, .ref 22)], [.int ((nI (l1 + 1)) + (nI 0))])) (x1 := M2015) (fun _ => rfl) ?_
          refine xG.conv (xe_add (l1 + 1) 0) ?_
          refine xG.eqf (f' := (106, [(4, .int (nI (M2007.1 3))), (2, .long r2008), (1, .int (nI (l1 + 1))), (0, .ref 22)], [.int (nI (l1 + 1))])) rfl ?_
          refine xG.seg 2 (f' := (42, [(1, .int (nI (l1 + 1))), (4, .int (nI (M2007.1 3))), (2, .long r2008), (0, .ref 22)], [])) (x1 := M2015) (fun _ => rfl) ?_
          refine xG.lv (lv := [(0, .ref 22), (1, .int (nI (l1 + 1)))]) (lv' := [(1, .int (nI (l1 + 1))), (4, .int (nI (M2007.1 3))), (2, .long r2008), (0, .ref 22)]) rfl rfl rfl ?_
          exact hK (l1 + 1) M2015 h
        · replace h := h.2 k2018
          refine xG.seg 3 (f' := (106, [(4, .int (nI (M2007.1 3))), (2, .long r2008), (1, .int (nI (l1 + 1))), (0, .ref 22)], [.int ((nI (l1 + 1)) + (nI 1))])) (x1 := M2015) (fun _ => rfl) ?_
          refine xG.conv (xe_add (l1 + 1) 1) ?_
          refine xG.eqf (f' := (106, [(4, .int (nI (M2007.1 3))), (2, .long r2008), (1, .int (nI (l1 + 1))), (0, .ref 22)], [.int (nI (l1 + 2))])) rfl ?_
          refine xG.seg 2 (f' := (42, [(1, .int (nI (l1 + 2))), (4, .int (nI (M2007.1 3))), (2, .long r2008), (0, .ref 22)], [])) (x1 := M2015) (fun _ => rfl) ?_
          refine xG.lv (lv := [(0, .ref 22), (1, .int (nI (l1 + 2)))]) (lv' := [(1, .int (nI (l1 + 2))), (4, .int (nI (M2007.1 3))), (2, .long r2008), (0, .ref 22)]) rfl rfl rfl ?_
          exact hK (l1 + 2) M2015 h

def w_R_interpret_42 : Nat → Nat → (xM) → (Nat → xM → Prop) → Prop
  | 0, _, _, _ => False
  | n + 1, l1, C, Q => wi_R_interpret_42 (fun l1 C => w_R_interpret_42 n l1 C Q) l1 C Q
theorem p_R_interpret_42 (L : Nat) (xs : Nat → Int32) (d : Nat) (Q : Nat → xM → Prop) : ∀ (n : Nat) (l1 : Nat) (M : xM), w_R_interpret_42 n l1 M Q → xG xem (xgt L xs) (d + 7) xi_R_interpret (42, [(0, .ref 22), (1, .int (nI l1))], []) M (xPN Q)
  | 0, _, _, h => by cases h
  | n + 1, l1, C, h => pi_R_interpret_42 L xs d Q (fun l1 C => w_R_interpret_42 n l1 C Q) (fun l1 C h => p_R_interpret_42 L xs d Q n l1 C h) l1 C h

def w_R_interpret (M : xM) (Q : Nat → xM → Prop) : Prop := ∃ fu1 : Nat, w_R_interpret_42 fu1 0 (dN (dN (dN (dN (dN (dN (dN (dN M 0 0) 1 0) 3 0) 11 0) 12 0) 13 0) 14 0) 15 0) Q
set_option maxRecDepth 8000 in
set_option maxHeartbeats 4000000 in
theorem p_R_interpret (L : Nat) (xs : Nat → Int32) (d : Nat) (M : xM) (Q : Nat → xM → Prop) (h : w_R_interpret M Q) : xG xem (xgt L xs) (d + 7) xi_R_interpret (0, [(0, .ref 22)], []) M (xPN Q) := by
  unfold w_R_interpret at h
  refine xG.seg 26 (f' := (42, [(1, .int (nI 0)), (0, .ref 22)], [])) (x1 := (dN (dN (dN (dN (dN (dN (dN (dN M 0 0) 1 0) 3 0) 11 0) 12 0) 13 0) 14 0) 15 0)) (fun _ => rfl) ?_
  refine xG.lv (lv := [(0, .ref 22), (1, .int (nI 0))]) (lv' := [(1, .int (nI 0)), (0, .ref 22)]) rfl rfl rfl ?_
  obtain ⟨fu1, h⟩ := h
  exact p_R_interpret_42 L xs d Q fu1 0 (dN (dN (dN (dN (dN (dN (dN (dN M 0 0) 1 0) 3 0) 11 0) 12 0) 13 0) 14 0) 15 0) h

def w_R_compiling (M : xM) (Q : Nat → xM → Prop) : Prop := (M.1 6 ≤ 1 ∧ Q (M.1 6) (dN M 0 0))
set_option maxRecDepth 8000 in
set_option maxHeartbeats 4000000 in
theorem p_R_compiling (L : Nat) (xs : Nat → Int32) (d : Nat) (M : xM) (Q : Nat → xM → Prop) (h : w_R_compiling M Q) : xG xem (xgt L xs) (d) xi_R_compiling (0, [(0, .ref 22)], []) M (xPN Q) := by
  unfold w_R_compiling at h
  refine xG.seg 5 (f' := (9, [(0, .ref 22)], [.int (nI (M.1 6))])) (x1 := (dN M 0 0)) (fun _ => rfl) ?_
  obtain ⟨c1, h⟩ := h
  exact xG.zret rfl rfl c1 (⟨_, rfl, h⟩)

def w_R_depth (M : xM) (Q : Nat → xM → Prop) : Prop := Q (M.1 9) (dN M 0 0)
set_option maxRecDepth 8000 in
set_option maxHeartbeats 4000000 in
theorem p_R_depth (L : Nat) (xs : Nat → Int32) (d : Nat) (M : xM) (Q : Nat → xM → Prop) (h : w_R_depth M Q) : xG xem (xgt L xs) (d) xi_R_depth (0, [(0, .ref 22)], []) M (xPN Q) := by
  unfold w_R_depth at h
  refine xG.seg 5 (f' := (9, [(0, .ref 22)], [.int (nI (M.1 9))])) (x1 := (dN M 0 0)) (fun _ => rfl) ?_
  exact xG.fin (fun _ => rfl) (⟨_, rfl, h⟩)

def w_R_within_GNZ (x1 : Int32) (x2 : Nat) (x3 : Nat) (y3 : Nat) (M : xM) (Q : Nat → xM → Prop) : Prop := (x1 < 0 ∧ (x2 < 2147483648 ∧ Q 0 M))
set_option maxRecDepth 8000 in
set_option maxHeartbeats 4000000 in
theorem p_R_within_GNZ (L : Nat) (xs : Nat → Int32) (d : Nat) (x1 : Int32) (x2 : Nat) (x3 : Nat) (y3 : Nat) (M : xM) (Q : Nat → xM → Prop) (h : w_R_within_GNZ x1 x2 x3 y3 M Q) : xG xem (xgt L xs) (d) xi_R_within (0, [(0, .int x1), (1, .int (nI x2)), (2, .int (nI x3 - nI y3))], []) M (xPN Q) := by
  unfold w_R_within_GNZ at h
  obtain ⟨g1, h⟩ := h
  refine xG.seg 2 (f' := (2, [(0, .int x1), (1, .int (nI x2)), (2, .int (nI x3 - nI y3))], [.int (nI x2), .int x1])) (x1 := M) (fun _ => rfl) ?_
  obtain ⟨c1, h⟩ := h
  refine xG.icmp (t := 14) rfl rfl (xe_ng g1 c1) (fun _ => ?_) (fun q => absurd (by decide) q)
  refine xG.eqf (f' := (14, [(0, .int x1), (1, .int (nI x2)), (2, .int (nI x3 - nI y3))], [])) rfl ?_
  refine xG.seg 1 (f' := (15, [(0, .int x1), (1, .int (nI x2)), (2, .int (nI x3 - nI y3))], [.int (nI 0)])) (x1 := M) (fun _ => rfl) ?_
  exact xG.fin (fun _ => rfl) (⟨_, rfl, h⟩)

def w_R_within_NNZ (x1 : Nat) (x2 : Nat) (x3 : Nat) (y3 : Nat) (M : xM) (Q : Nat → xM → Prop) : Prop := (x1 < 2147483648 ∧ (x2 < 2147483648 ∧ ((x1 < x2 → Q 0 M) ∧ (¬ (x1 < x2) → (x1 < 2147483648 ∧ (x3 < 2147483648 ∧ (y3 < 2147483648 ∧ ((x3 < x1 + y3 → Q 0 M) ∧ (¬ (x3 < x1 + y3) → Q 1 M)))))))))
set_option maxRecDepth 8000 in
set_option maxHeartbeats 4000000 in
theorem p_R_within_NNZ (L : Nat) (xs : Nat → Int32) (d : Nat) (x1 : Nat) (x2 : Nat) (x3 : Nat) (y3 : Nat) (M : xM) (Q : Nat → xM → Prop) (h : w_R_within_NNZ x1 x2 x3 y3 M Q) : xG xem (xgt L xs) (d) xi_R_within (0, [(0, .int (nI x1)), (1, .int (nI x2)), (2, .int (nI x3 - nI y3))], []) M (xPN Q) := by
  unfold w_R_within_NNZ at h
  refine xG.seg 2 (f' := (2, [(0, .int (nI x1)), (1, .int (nI x2)), (2, .int (nI x3 - nI y3))], [.int (nI x2), .int (nI x1)])) (x1 := M) (fun _ => rfl) ?_
  obtain ⟨c1, h⟩ := h
  obtain ⟨c2, h⟩ := h
  refine xG.icmp (t := 14) (A := x1 < x2) rfl rfl (xe_c (xt_N c1) (xt_N c2) (by dsimp only; omega)) (fun k3 => ?_) (fun k3 => ?_)
  · replace h := h.1 k3
    refine xG.seg 1 (f' := (15, [(0, .int (nI x1)), (1, .int (nI x2)), (2, .int (nI x3 - nI y3))], [.int (nI 0)])) (x1 := M) (fun _ => rfl) ?_
    exact xG.fin (fun _ => rfl) (⟨_, rfl, h⟩)
  · replace h := h.2 k3
    refine xG.seg 2 (f' := (7, [(0, .int (nI x1)), (1, .int (nI x2)), (2, .int (nI x3 - nI y3))], [.int (nI x3 - nI y3), .int (nI x1)])) (x1 := M) (fun _ => rfl) ?_
    obtain ⟨c4, h⟩ := h
    obtain ⟨c5, h⟩ := h
    obtain ⟨c6, h⟩ := h
    refine xG.icmp (t := 14) (A := x3 < x1 + y3) rfl rfl (xe_c (xt_N c4) (xt_Z c5 c6) (by dsimp only; omega)) (fun k7 => ?_) (fun k7 => ?_)
    · replace h := h.1 k7
      refine xG.seg 1 (f' := (15, [(0, .int (nI x1)), (1, .int (nI x2)), (2, .int (nI x3 - nI y3))], [.int (nI 0)])) (x1 := M) (fun _ => rfl) ?_
      exact xG.fin (fun _ => rfl) (⟨_, rfl, h⟩)
    · replace h := h.2 k7
      refine xG.seg 2 (f' := (15, [(0, .int (nI x1)), (1, .int (nI x2)), (2, .int (nI x3 - nI y3))], [.int (nI 1)])) (x1 := M) (fun _ => rfl) ?_
      exact xG.fin (fun _ => rfl) (⟨_, rfl, h⟩)

def w_R_top (x1 : Int32) (M : xM) (Q : Int32 → xM → Prop) : Prop := ((x1 < 0 → w_R_within_GNZ x1 0 (M.1 9) 1 (dN M 0 0) (fun r4 M3 => (r4 < 2147483648 ∧ ((r4 = 0 → w_R_fail 1 M3 (fun r8 M7 => Q (nI r8) M7)) ∧ (¬ (r4 = 0) → (∃ e9 : Nat, (nI (M3.1 9) - nI 1) - x1 = nI e9 ∧ (e9 < 32 ∧ Q (M3.2.2.1 1 e9) M3))))))) ∧ (∀ e1 : Nat, x1 = nI e1 → e1 < 2147483648 → w_R_within_NNZ e1 0 (M.1 9) 1 (dN M 0 0) (fun r13 M12 => (r13 < 2147483648 ∧ ((r13 = 0 → w_R_fail 1 M12 (fun r17 M16 => Q (nI r17) M16)) ∧ (¬ (r13 = 0) → (1 + e1 ≤ M12.1 9 ∧ (M12.1 9 - (1 + e1) < 32 ∧ Q (M12.2.2.1 1 (M12.1 9 - (1 + e1))) M12))))))))
set_option maxRecDepth 8000 in
set_option maxHeartbeats 4000000 in
theorem p_R_top (L : Nat) (xs : Nat → Int32) (d : Nat) (x1 : Int32) (M : xM) (Q : Int32 → xM → Prop) (h : w_R_top x1 M Q) : xG xem (xgt L xs) (d + 1) xi_R_top (0, [(0, .ref 22), (1, .int x1)], []) M (xPI Q) := by
  unfold w_R_top at h
  rcases xe_sgn x1 with k2 | ⟨e1, k2, k2r⟩
  · replace h := h.1 k2
    refine xG.seg 9 (f' := (13, [(0, .ref 22), (1, .int x1)], [.int (nI (M.1 9) - nI 1), .int (nI 0), .int x1])) (x1 := (dN M 0 0)) (fun _ => rfl) ?_
    refine xG.call (d := d) (vs := [.int x1, .int (nI 0), .int (nI (M.1 9) - nI 1)]) (g := (13, [(0, .ref 22), (1, .int x1)], [])) (fun _ => rfl) rfl (p_R_within_GNZ L xs d x1 0 (M.1 9) 1 (dN M 0 0) _ h) ?_
    clear h
    rintro _ M3 ⟨r4, rfl, h⟩
    refine ⟨_, rfl, ?_⟩
    refine xG.eqf (f' := (16, [(0, .ref 22), (1, .int x1)], [.int (nI r4)])) rfl ?_
    obtain ⟨c5, h⟩ := h
    refine xG.ifc (t := 35) (A := r4 = 0) rfl rfl (xe_c (xt_N c5) (show (0 : Int32).toInt = 0 from by decide) (by dsimp only; omega)) (fun k6 => ?_) (fun k6 => ?_)
    · replace h := h.1 k6
      refine xG.seg 2 (f' := (37, [(0, .ref 22), (1, .int x1)], [.int (nI 1), .ref 22])) (x1 := M3) (fun _ => rfl) ?_
      refine xG.call (d := d) (vs := [.ref 22, .int (nI 1)]) (g := (37, [(0, .ref 22), (1, .int x1)], [])) (fun _ => rfl) rfl (p_R_fail L xs d 1 M3 _ h) ?_
      clear h
      rintro _ M7 ⟨r8, rfl, h⟩
      refine ⟨_, rfl, ?_⟩
      refine xG.eqf (f' := (40, [(0, .ref 22), (1, .int x1)], [.int (nI r8)])) rfl ?_
      exact xG.fin (fun _ => rfl) (⟨(nI r8), rfl, h⟩)
    · replace h := h.2 k6
      refine xG.seg 8 (f' := (31, [(0, .ref 22), (1, .int x1)], [.int ((nI (M3.1 9) - nI 1) - x1), .ref 31])) (x1 := M3) (fun _ => rfl) ?_
      obtain ⟨e9, c10, h⟩ := h
      refine xG.conv (c10) ?_
      obtain ⟨c11, h⟩ := h
      refine xG.iald rfl (Or.inl ⟨rfl, rfl⟩) (by decide) (fun _ => rfl) (by decide) c11 ?_
      refine xG.eqf (f' := (32, [(0, .ref 22), (1, .int x1)], [.int (M3.2.2.1 1 e9)])) rfl ?_
      refine xG.seg 1 (f' := (40, [(0, .ref 22), (1, .int x1)], [.int (M3.2.2.1 1 e9)])) (x1 := M3) (fun _ => rfl) ?_
      exact xG.fin (fun _ => rfl) (⟨(M3.2.2.1 1 e9), rfl, h⟩)
  · replace h := h.2 e1 k2 k2r
    subst k2
    refine xG.seg 9 (f' := (13, [(0, .ref 22), (1, .int (nI e1))], [.int (nI (M.1 9) - nI 1), .int (nI 0), .int (nI e1)])) (x1 := (dN M 0 0)) (fun _ => rfl) ?_
    refine xG.call (d := d) (vs := [.int (nI e1), .int (nI 0), .int (nI (M.1 9) - nI 1)]) (g := (13, [(0, .ref 22), (1, .int (nI e1))], [])) (fun _ => rfl) rfl (p_R_within_NNZ L xs d e1 0 (M.1 9) 1 (dN M 0 0) _ h) ?_
    clear h
    rintro _ M12 ⟨r13, rfl, h⟩
    refine ⟨_, rfl, ?_⟩
    refine xG.eqf (f' := (16, [(0, .ref 22), (1, .int (nI e1))], [.int (nI r13)])) rfl ?_
    obtain ⟨c14, h⟩ := h
    refine xG.ifc (t := 35) (A := r13 = 0) rfl rfl (xe_c (xt_N c14) (show (0 : Int32).toInt = 0 from by decide) (by dsimp only; omega)) (fun k15 => ?_) (fun k15 => ?_)
    · replace h := h.1 k15
      refine xG.seg 2 (f' := (37, [(0, .ref 22), (1, .int (nI e1))], [.int (nI 1), .ref 22])) (x1 := M12) (fun _ => rfl) ?_
      refine xG.call (d := d) (vs := [.ref 22, .int (nI 1)]) (g := (37, [(0, .ref 22), (1, .int (nI e1))], [])) (fun _ => rfl) rfl (p_R_fail L xs d 1 M12 _ h) ?_
      clear h
      rintro _ M16 ⟨r17, rfl, h⟩
      refine ⟨_, rfl, ?_⟩
      refine xG.eqf (f' := (40, [(0, .ref 22), (1, .int (nI e1))], [.int (nI r17)])) rfl ?_
      exact xG.fin (fun _ => rfl) (⟨(nI r17), rfl, h⟩)
    · replace h := h.2 k15
      refine xG.seg 8 (f' := (31, [(0, .ref 22), (1, .int (nI e1))], [.int ((nI (M12.1 9) - nI 1) - (nI e1)), .ref 31])) (x1 := M12) (fun _ => rfl) ?_
      refine xG.conv (xe_zsn _ _ _) ?_
      refine xG.eqf (f' := (31, [(0, .ref 22), (1, .int (nI e1))], [.int (nI (M12.1 9) - nI (1 + e1)), .ref 31])) rfl ?_
      obtain ⟨c18, h⟩ := h
      refine xG.conv (xe_cut c18) ?_
      obtain ⟨c19, h⟩ := h
      refine xG.iald rfl (Or.inl ⟨rfl, rfl⟩) (by decide) (fun _ => rfl) (by decide) c19 ?_
      refine xG.eqf (f' := (32, [(0, .ref 22), (1, .int (nI e1))], [.int (M12.2.2.1 1 (M12.1 9 - (1 + e1)))])) rfl ?_
      refine xG.seg 1 (f' := (40, [(0, .ref 22), (1, .int (nI e1))], [.int (M12.2.2.1 1 (M12.1 9 - (1 + e1)))])) (x1 := M12) (fun _ => rfl) ?_
      exact xG.fin (fun _ => rfl) (⟨(M12.2.2.1 1 (M12.1 9 - (1 + e1))), rfl, h⟩)

def w_R_cell (x1 : Int32) (M : xM) (Q : Int32 → xM → Prop) : Prop := ((x1 < 0 → w_R_within_GNN x1 0 63 (dN M 0 0) (fun r4 M3 => (r4 < 2147483648 ∧ ((r4 = 0 → w_R_fail 1 M3 (fun r8 M7 => Q (nI r8) M7)) ∧ (¬ (r4 = 0) → False))))) ∧ (∀ e1 : Nat, x1 = nI e1 → e1 < 2147483648 → w_R_within_NNN e1 0 63 (dN M 0 0) (fun r10 M9 => (r10 < 2147483648 ∧ ((r10 = 0 → w_R_fail 1 M9 (fun r14 M13 => Q (nI r14) M13)) ∧ (¬ (r10 = 0) → (e1 < 64 ∧ Q (M9.2.2.1 3 e1) M9)))))))
set_option maxRecDepth 8000 in
set_option maxHeartbeats 4000000 in
theorem p_R_cell (L : Nat) (xs : Nat → Int32) (d : Nat) (x1 : Int32) (M : xM) (Q : Int32 → xM → Prop) (h : w_R_cell x1 M Q) : xG xem (xgt L xs) (d + 1) xi_R_cell (0, [(0, .ref 22), (1, .int x1)], []) M (xPI Q) := by
  unfold w_R_cell at h
  rcases xe_sgn x1 with k2 | ⟨e1, k2, k2r⟩
  · replace h := h.1 k2
    refine xG.seg 6 (f' := (9, [(0, .ref 22), (1, .int x1)], [.int (nI 63), .int (nI 0), .int x1])) (x1 := (dN M 0 0)) (fun _ => rfl) ?_
    refine xG.call (d := d) (vs := [.int x1, .int (nI 0), .int (nI 63)]) (g := (9, [(0, .ref 22), (1, .int x1)], [])) (fun _ => rfl) rfl (p_R_within_GNN L xs d x1 0 63 (dN M 0 0) _ h) ?_
    clear h
    rintro _ M3 ⟨r4, rfl, h⟩
    refine ⟨_, rfl, ?_⟩
    refine xG.eqf (f' := (12, [(0, .ref 22), (1, .int x1)], [.int (nI r4)])) rfl ?_
    obtain ⟨c5, h⟩ := h
    refine xG.ifc (t := 24) (A := r4 = 0) rfl rfl (xe_c (xt_N c5) (show (0 : Int32).toInt = 0 from by decide) (by dsimp only; omega)) (fun k6 => ?_) (fun k6 => ?_)
    · replace h := h.1 k6
      refine xG.seg 2 (f' := (26, [(0, .ref 22), (1, .int x1)], [.int (nI 1), .ref 22])) (x1 := M3) (fun _ => rfl) ?_
      refine xG.call (d := d) (vs := [.ref 22, .int (nI 1)]) (g := (26, [(0, .ref 22), (1, .int x1)], [])) (fun _ => rfl) rfl (p_R_fail L xs d 1 M3 _ h) ?_
      clear h
      rintro _ M7 ⟨r8, rfl, h⟩
      refine ⟨_, rfl, ?_⟩
      refine xG.eqf (f' := (29, [(0, .ref 22), (1, .int x1)], [.int (nI r8)])) rfl ?_
      exact xG.fin (fun _ => rfl) (⟨(nI r8), rfl, h⟩)
    · replace h := h.2 k6
      refine xG.seg 3 (f' := (20, [(0, .ref 22), (1, .int x1)], [.int x1, .ref 33])) (x1 := M3) (fun _ => rfl) ?_
      exact h.elim
  · replace h := h.2 e1 k2 k2r
    subst k2
    refine xG.seg 6 (f' := (9, [(0, .ref 22), (1, .int (nI e1))], [.int (nI 63), .int (nI 0), .int (nI e1)])) (x1 := (dN M 0 0)) (fun _ => rfl) ?_
    refine xG.call (d := d) (vs := [.int (nI e1), .int (nI 0), .int (nI 63)]) (g := (9, [(0, .ref 22), (1, .int (nI e1))], [])) (fun _ => rfl) rfl (p_R_within_NNN L xs d e1 0 63 (dN M 0 0) _ h) ?_
    clear h
    rintro _ M9 ⟨r10, rfl, h⟩
    refine ⟨_, rfl, ?_⟩
    refine xG.eqf (f' := (12, [(0, .ref 22), (1, .int (nI e1))], [.int (nI r10)])) rfl ?_
    obtain ⟨c11, h⟩ := h
    refine xG.ifc (t := 24) (A := r10 = 0) rfl rfl (xe_c (xt_N c11) (show (0 : Int32).toInt = 0 from by decide) (by dsimp only; omega)) (fun k12 => ?_) (fun k12 => ?_)
    · replace h := h.1 k12
      refine xG.seg 2 (f' := (26, [(0, .ref 22), (1, .int (nI e1))], [.int (nI 1), .ref 22])) (x1 := M9) (fun _ => rfl) ?_
      refine xG.call (d := d) (vs := [.ref 22, .int (nI 1)]) (g := (26, [(0, .ref 22), (1, .int (nI e1))], [])) (fun _ => rfl) rfl (p_R_fail L xs d 1 M9 _ h) ?_
      clear h
      rintro _ M13 ⟨r14, rfl, h⟩
      refine ⟨_, rfl, ?_⟩
      refine xG.eqf (f' := (29, [(0, .ref 22), (1, .int (nI e1))], [.int (nI r14)])) rfl ?_
      exact xG.fin (fun _ => rfl) (⟨(nI r14), rfl, h⟩)
    · replace h := h.2 k12
      refine xG.seg 3 (f' := (20, [(0, .ref 22), (1, .int (nI e1))], [.int (nI e1), .ref 33])) (x1 := M9) (fun _ => rfl) ?_
      obtain ⟨c15, h⟩ := h
      refine xG.iald rfl (Or.inl ⟨rfl, rfl⟩) (by decide) (fun _ => rfl) (by decide) c15 ?_
      refine xG.eqf (f' := (21, [(0, .ref 22), (1, .int (nI e1))], [.int (M9.2.2.1 3 e1)])) rfl ?_
      refine xG.seg 1 (f' := (29, [(0, .ref 22), (1, .int (nI e1))], [.int (M9.2.2.1 3 e1)])) (x1 := M9) (fun _ => rfl) ?_
      exact xG.fin (fun _ => rfl) (⟨(M9.2.2.1 3 e1), rfl, h⟩)

def w_R_said (M : xM) (Q : Nat → xM → Prop) : Prop := Q (M.1 11) (dN M 0 0)
set_option maxRecDepth 8000 in
set_option maxHeartbeats 4000000 in
theorem p_R_said (L : Nat) (xs : Nat → Int32) (d : Nat) (M : xM) (Q : Nat → xM → Prop) (h : w_R_said M Q) : xG xem (xgt L xs) (d) xi_R_said (0, [(0, .ref 22)], []) M (xPN Q) := by
  unfold w_R_said at h
  refine xG.seg 5 (f' := (9, [(0, .ref 22)], [.int (nI (M.1 11))])) (x1 := (dN M 0 0)) (fun _ => rfl) ?_
  exact xG.fin (fun _ => rfl) (⟨_, rfl, h⟩)

def w_R_saying (x1 : Int32) (M : xM) (Q : Int32 → xM → Prop) : Prop := ((x1 < 0 → w_R_within_GNN x1 0 39 (dN M 0 0) (fun r4 M3 => (r4 < 2147483648 ∧ ((r4 = 0 → w_R_fail 1 M3 (fun r8 M7 => Q (nI r8) M7)) ∧ (¬ (r4 = 0) → (M3.1 11 < 2147483648 ∧ False)))))) ∧ (∀ e1 : Nat, x1 = nI e1 → e1 < 2147483648 → w_R_within_NNN e1 0 39 (dN M 0 0) (fun r11 M10 => (r11 < 2147483648 ∧ ((r11 = 0 → w_R_fail 1 M10 (fun r15 M14 => Q (nI r15) M14)) ∧ (¬ (r11 = 0) → (e1 < 2147483648 ∧ (M10.1 11 < 2147483648 ∧ ((M10.1 11 ≤ e1 → w_R_fail 1 M10 (fun r20 M19 => Q (nI r20) M19)) ∧ (¬ (M10.1 11 ≤ e1) → (e1 < 40 ∧ Q (M10.2.2.1 4 e1) M10)))))))))))
set_option maxRecDepth 8000 in
set_option maxHeartbeats 4000000 in
theorem p_R_saying (L : Nat) (xs : Nat → Int32) (d : Nat) (x1 : Int32) (M : xM) (Q : Int32 → xM → Prop) (h : w_R_saying x1 M Q) : xG xem (xgt L xs) (d + 1) xi_R_saying (0, [(0, .ref 22), (1, .int x1)], []) M (xPI Q) := by
  unfold w_R_saying at h
  rcases xe_sgn x1 with k2 | ⟨e1, k2, k2r⟩
  · replace h := h.1 k2
    refine xG.seg 6 (f' := (9, [(0, .ref 22), (1, .int x1)], [.int (nI 39), .int (nI 0), .int x1])) (x1 := (dN M 0 0)) (fun _ => rfl) ?_
    refine xG.call (d := d) (vs := [.int x1, .int (nI 0), .int (nI 39)]) (g := (9, [(0, .ref 22), (1, .int x1)], [])) (fun _ => rfl) rfl (p_R_within_GNN L xs d x1 0 39 (dN M 0 0) _ h) ?_
    clear h
    rintro _ M3 ⟨r4, rfl, h⟩
    refine ⟨_, rfl, ?_⟩
    refine xG.eqf (f' := (12, [(0, .ref 22), (1, .int x1)], [.int (nI r4)])) rfl ?_
    obtain ⟨c5, h⟩ := h
    refine xG.ifc (t := 32) (A := r4 = 0) rfl rfl (xe_c (xt_N c5) (show (0 : Int32).toInt = 0 from by decide) (by dsimp only; omega)) (fun k6 => ?_) (fun k6 => ?_)
    · replace h := h.1 k6
      refine xG.seg 2 (f' := (34, [(0, .ref 22), (1, .int x1)], [.int (nI 1), .ref 22])) (x1 := M3) (fun _ => rfl) ?_
      refine xG.call (d := d) (vs := [.ref 22, .int (nI 1)]) (g := (34, [(0, .ref 22), (1, .int x1)], [])) (fun _ => rfl) rfl (p_R_fail L xs d 1 M3 _ h) ?_
      clear h
      rintro _ M7 ⟨r8, rfl, h⟩
      refine ⟨_, rfl, ?_⟩
      refine xG.eqf (f' := (37, [(0, .ref 22), (1, .int x1)], [.int (nI r8)])) rfl ?_
      exact xG.fin (fun _ => rfl) (⟨(nI r8), rfl, h⟩)
    · replace h := h.2 k6
      refine xG.seg 3 (f' := (20, [(0, .ref 22), (1, .int x1)], [.int (nI (M3.1 11)), .int x1])) (x1 := M3) (fun _ => rfl) ?_
      obtain ⟨c9, h⟩ := h
      refine xG.icmp (t := 32) rfl rfl (xe_ng k2 c9) (fun q => absurd q (by decide)) (fun _ => ?_)
      refine xG.eqf (f' := (23, [(0, .ref 22), (1, .int x1)], [])) rfl ?_
      refine xG.seg 3 (f' := (28, [(0, .ref 22), (1, .int x1)], [.int x1, .ref 34])) (x1 := M3) (fun _ => rfl) ?_
      exact h.elim
  · replace h := h.2 e1 k2 k2r
    subst k2
    refine xG.seg 6 (f' := (9, [(0, .ref 22), (1, .int (nI e1))], [.int (nI 39), .int (nI 0), .int (nI e1)])) (x1 := (dN M 0 0)) (fun _ => rfl) ?_
    refine xG.call (d := d) (vs := [.int (nI e1), .int (nI 0), .int (nI 39)]) (g := (9, [(0, .ref 22), (1, .int (nI e1))], [])) (fun _ => rfl) rfl (p_R_within_NNN L xs d e1 0 39 (dN M 0 0) _ h) ?_
    clear h
    rintro _ M10 ⟨r11, rfl, h⟩
    refine ⟨_, rfl, ?_⟩
    refine xG.eqf (f' := (12, [(0, .ref 22), (1, .int (nI e1))], [.int (nI r11)])) rfl ?_
    obtain ⟨c12, h⟩ := h
    refine xG.ifc (t := 32) (A := r11 = 0) rfl rfl (xe_c (xt_N c12) (show (0 : Int32).toInt = 0 from by decide) (by dsimp only; omega)) (fun k13 => ?_) (fun k13 => ?_)
    · replace h := h.1 k13
      refine xG.seg 2 (f' := (34, [(0, .ref 22), (1, .int (nI e1))], [.int (nI 1), .ref 22])) (x1 := M10) (fun _ => rfl) ?_
      refine xG.call (d := d) (vs := [.ref 22, .int (nI 1)]) (g := (34, [(0, .ref 22), (1, .int (nI e1))], [])) (fun _ => rfl) rfl (p_R_fail L xs d 1 M10 _ h) ?_
      clear h
      rintro _ M14 ⟨r15, rfl, h⟩
      refine ⟨_, rfl, ?_⟩
      refine xG.eqf (f' := (37, [(0, .ref 22), (1, .int (nI e1))], [.int (nI r15)])) rfl ?_
      exact xG.fin (fun _ => rfl) (⟨(nI r15), rfl, h⟩)
    · replace h := h.2 k13
      refine xG.seg 3 (f' := (20, [(0, .ref 22), (1, .int (nI e1))], [.int (nI (M10.1 11)), .int (nI e1)])) (x1 := M10) (fun _ => rfl) ?_
      obtain ⟨c16, h⟩ := h
      obtain ⟨c17, h⟩ := h
      refine xG.icmp (t := 32) (A := M10.1 11 ≤ e1) rfl rfl (xe_c (xt_N c16) (xt_N c17) (by dsimp only; omega)) (fun k18 => ?_) (fun k18 => ?_)
      · replace h := h.1 k18
        refine xG.seg 2 (f' := (34, [(0, .ref 22), (1, .int (nI e1))], [.int (nI 1), .ref 22])) (x1 := M10) (fun _ => rfl) ?_
        refine xG.call (d := d) (vs := [.ref 22, .int (nI 1)]) (g := (34, [(0, .ref 22), (1, .int (nI e1))], [])) (fun _ => rfl) rfl (p_R_fail L xs d 1 M10 _ h) ?_
        clear h
        rintro _ M19 ⟨r20, rfl, h⟩
        refine ⟨_, rfl, ?_⟩
        refine xG.eqf (f' := (37, [(0, .ref 22), (1, .int (nI e1))], [.int (nI r20)])) rfl ?_
        exact xG.fin (fun _ => rfl) (⟨(nI r20), rfl, h⟩)
      · replace h := h.2 k18
        refine xG.seg 3 (f' := (28, [(0, .ref 22), (1, .int (nI e1))], [.int (nI e1), .ref 34])) (x1 := M10) (fun _ => rfl) ?_
        obtain ⟨c21, h⟩ := h
        refine xG.iald rfl (Or.inl ⟨rfl, rfl⟩) (by decide) (fun _ => rfl) (by decide) c21 ?_
        refine xG.eqf (f' := (29, [(0, .ref 22), (1, .int (nI e1))], [.int (M10.2.2.1 4 e1)])) rfl ?_
        refine xG.seg 1 (f' := (37, [(0, .ref 22), (1, .int (nI e1))], [.int (M10.2.2.1 4 e1)])) (x1 := M10) (fun _ => rfl) ?_
        exact xG.fin (fun _ => rfl) (⟨(M10.2.2.1 4 e1), rfl, h⟩)

def wi_R_definition_42 (K : Nat → Nat → Nat → Nat → xM → Prop) (l1 : Nat) (l2 : Nat) (l3 : Nat) (l4 : Nat) (M : xM) (Q : Nat → xM → Prop) : Prop := (l1 < 41 ∧ (l4 < 2147483648 ∧ (60 * l1 + (M.2.1 1 l1) < 2147483648 ∧ ((60 * l1 + (M.2.1 1 l1) ≤ l4 → Q l3 M) ∧ (¬ (60 * l1 + (M.2.1 1 l1) ≤ l4) → (l2 < 2147483648 ∧ ((l2 = 0 → K l1 l2 (l3 + 1) (l4 + 1) M) ∧ (¬ (l2 = 0) → (l2 < 2147483648 ∧ ((l2 = 1 → (l4 < 2460 ∧ (M.2.1 3 l4 < 2147483648 ∧ K l1 l2 (l3 + ((M.2.1 3 l4) / 16)) (l4 + 1) M))) ∧ (¬ (l2 = 1) → (l4 < 2460 ∧ (M.2.1 3 l4 < 2147483648 ∧ K l1 l2 (l3 + ((M.2.1 3 l4) % 16)) (l4 + 1) M)))))))))))))
set_option maxRecDepth 8000 in
set_option maxHeartbeats 4000000 in
theorem pi_R_definition_42 (L : Nat) (xs : Nat → Int32) (d : Nat) (Q : Nat → xM → Prop) (K : Nat → Nat → Nat → Nat → xM → Prop) (hK : ∀ (l1 : Nat) (l2 : Nat) (l3 : Nat) (l4 : Nat) (M : xM), K l1 l2 l3 l4 M → xG xem (xgt L xs) (d + 1) xi_R_definition (42, [(0, .ref 22), (1, .int (nI l1)), (2, .int (nI l2)), (3, .int (nI l3)), (4, .int (nI l4))], []) M (xPN Q)) (l1 : Nat) (l2 : Nat) (l3 : Nat) (l4 : Nat) (M : xM) (h : wi_R_definition_42 K l1 l2 l3 l4 M Q) : xG xem (xgt L xs) (d + 1) xi_R_definition (42, [(0, .ref 22), (1, .int (nI l1)), (2, .int (nI l2)), (3, .int (nI l3)), (4, .int (nI l4))], []) M (xPN Q) := by
  unfold wi_R_definition_42 at h
  refine xG.seg 4 (f' := (48, [(0, .ref 22), (1, .int (nI l1)), (2, .int (nI l2)), (3, .int (nI l3)), (4, .int (nI l4))], [.int ((nI 60) * (nI l1)), .int (nI l4)])) (x1 := M) (fun _ => rfl) ?_
  refine xG.conv (xe_mul _ _) ?_
  refine xG.seg 3 (f' := (53, [(0, .ref 22), (1, .int (nI l1)), (2, .int (nI l2)), (3, .int (nI l3)), (4, .int (nI l4))], [.int (nI l1), .ref 25, .int (nI (60 * l1)), .int (nI l4)])) (x1 := M) (fun _ => rfl) ?_
  obtain ⟨c2001, h⟩ := h
  refine xG.iald rfl (Or.inl ⟨rfl, rfl⟩) (by decide) (fun _ => rfl) (by decide) c2001 ?_
  refine xG.eqf (f' := (54, [(0, .ref 22), (1, .int (nI l1)), (2, .int (nI l2)), (3, .int (nI l3)), (4, .int (nI l4))], [.int (nI (M.2.1 1 l1)), .int (nI (60 * l1)), .int (nI l4)])) rfl ?_
  refine xG.seg 1 (f' := (55, [(0, .ref 22), (1, .int (nI l1)), (2, .int (nI l2)), (3, .int (nI l3)), (4, .int (nI l4))], [.int ((nI (60 * l1)) + (nI (M.2.1 1 l1))), .int (nI l4)])) (x1 := M) (fun _ => rfl) ?_
  refine xG.conv (xe_add (60 * l1) (M.2.1 1 l1)) ?_
  refine xG.eqf (f' := (55, [(0, .ref 22), (1, .int (nI l1)), (2, .int (nI l2)), (3, .int (nI l3)), (4, .int (nI l4))], [.int (nI (60 * l1 + (M.2.1 1 l1))), .int (nI l4)])) rfl ?_
  obtain ⟨c2002, h⟩ := h
  obtain ⟨c2003, h⟩ := h
  refine xG.icmp (t := 103) (A := 60 * l1 + (M.2.1 1 l1) ≤ l4) rfl rfl (xe_c (xt_N c2002) (xt_N c2003) (by dsimp only; omega)) (fun k2004 => ?_) (fun k2004 => ?_)
  · replace h := h.1 k2004
    refine xG.seg 1 (f' := (104, [(0, .ref 22), (1, .int (nI l1)), (2, .int (nI l2)), (3, .int (nI l3)), (4, .int (nI l4))], [.int (nI l3)])) (x1 := M) (fun _ => rfl) ?_
    exact xG.fin (fun _ => rfl) (⟨_, rfl, h⟩)
  · replace h := h.2 k2004
    refine xG.seg 2 (f' := (60, [(0, .ref 22), (1, .int (nI l1)), (2, .int (nI l2)), (3, .int (nI l3)), (4, .int (nI l4))], [.int (nI l2), .int (nI l3)])) (x1 := M) (fun _ => rfl) ?_
    obtain ⟨c2005, h⟩ := h
    refine xG.ifc (t := 67) (A := ¬ (l2 = 0)) rfl rfl (xe_c (xt_N c2005) (show (0 : Int32).toInt = 0 from by decide) (by dsimp only; omega)) (fun k2006 => ?_) (fun k2006 => ?_)
    · replace h := h.2 k2006
      refine xG.seg 2 (f' := (69, [(0, .ref 22), (1, .int (nI l1)), (2, .int (nI l2)), (3, .int (nI l3)), (4, .int (nI l4))], [.int (nI 1), .int (nI l2), .int (nI l3)])) (x1 := M) (fun _ => rfl) ?_
      obtain ⟨c2007, h⟩ := h
      refine xG.icmp (t := 85) (A := ¬ (l2 = 1)) rfl rfl (xe_c (xt_N c2007) (show ((nI 1) : Int32).toInt = 1 from by decide) (by dsimp only; omega)) (fun k2008 => ?_) (fun k2008 => ?_)
      · replace h := h.2 k2008
        refine xG.seg 3 (f' := (91, [(0, .ref 22), (1, .int (nI l1)), (2, .int (nI l2)), (3, .int (nI l3)), (4, .int (nI l4))], [.int (nI l4), .ref 28, .int (nI l3)])) (x1 := M) (fun _ => rfl) ?_
        obtain ⟨c2009, h⟩ := h
        refine xG.iald rfl (Or.inl ⟨rfl, rfl⟩) (by decide) (fun _ => rfl) (by decide) c2009 ?_
        refine xG.eqf (f' := (92, [(0, .ref 22), (1, .int (nI l1)), (2, .int (nI l2)), (3, .int (nI l3)), (4, .int (nI l4))], [.int (nI (M.2.1 3 l4)), .int (nI l3)])) rfl ?_
        obtain ⟨c2010, h⟩ := h
        refine xG.seg 2 (f' := (95, [(0, .ref 22), (1, .int (nI l1)), (2, .int (nI l2)), (3, .int (nI l3)), (4, .int (nI l4))], [.int ((nI (M.2.1 3 l4)) - (nI (M.2.1 3 l4)) / (nI 16) * (nI 16)), .int (nI l3)])) (x1 := M) (fun _ => rfl) ?_
        refine xG.conv (xe_rem c2010 (by decide) (by decide)) ?_
        refine xG.seg 1 (f' := (96, [(0, .ref 22), (1, .int (nI l1)), (2, .int (nI l2)), (3, .int (nI l3)), (4, .int (nI l4))], [.int ((nI l3) + (nI ((M.2.1 3 l4) % 16)))])) (x1 := M) (fun _ => rfl) ?_
        refine xG.conv (xe_add l3 ((M.2.1 3 l4) % 16)) ?_
        refine xG.eqf (f' := (96, [(0, .ref 22), (1, .int (nI l1)), (2, .int (nI l2)), (3, .int (nI l3)), (4, .int (nI l4))], [.int (nI (l3 + ((M.2.1 3 l4) % 16)))])) rfl ?_
        refine xG.seg 1 (f' := (97, [(3, .int (nI (l3 + ((M.2.1 3 l4) % 16)))), (0, .ref 22), (1, .int (nI l1)), (2, .int (nI l2)), (4, .int (nI l4))], [])) (x1 := M) (fun _ => rfl) ?_
        refine xG.iinc (v := (nI l4)) (w := (nI (l4 + 1))) rfl rfl (by decide) (xe_add l4 1) ?_
        refine xG.eqf (f' := (100, [(4, .int (nI (l4 + 1))), (3, .int (nI (l3 + ((M.2.1 3 l4) % 16)))), (0, .ref 22), (1, .int (nI l1)), (2, .int (nI l2))], [])) rfl ?_
        refine xG.seg 1 (f' := (42, [(4, .int (nI (l4 + 1))), (3, .int (nI (l3 + ((M.2.1 3 l4) % 16)))), (0, .ref 22), (1, .int (nI l1)), (2, .int (nI l2))], [])) (x1 := M) (fun _ => rfl) ?_
        refine xG.lv (lv := [(0, .ref 22), (1, .int (nI l1)), (2, .int (nI l2)), (3, .int (nI (l3 + ((M.2.1 3 l4) % 16)))), (4, .int (nI (l4 + 1)))]) (lv' := [(4, .int (nI (l4 + 1))), (3, .int (nI (l3 + ((M.2.1 3 l4) % 16)))), (0, .ref 22), (1, .int (nI l1)), (2, .int (nI l2))]) rfl rfl rfl ?_
        exact hK l1 l2 (l3 + ((M.2.1 3 l4) % 16)) (l4 + 1) M h
      · replace h := h.1 (Classical.not_not.mp k2008)
        refine xG.seg 3 (f' := (78, [(0, .ref 22), (1, .int (nI l1)), (2, .int (nI l2)), (3, .int (nI l3)), (4, .int (nI l4))], [.int (nI l4), .ref 28, .int (nI l3)])) (x1 := M) (fun _ => rfl) ?_
        obtain ⟨c2011, h⟩ := h
        refine xG.iald rfl (Or.inl ⟨rfl, rfl⟩) (by decide) (fun _ => rfl) (by decide) c2011 ?_
        refine xG.eqf (f' := (79, [(0, .ref 22), (1, .int (nI l1)), (2, .int (nI l2)), (3, .int (nI l3)), (4, .int (nI l4))], [.int (nI (M.2.1 3 l4)), .int (nI l3)])) rfl ?_
        obtain ⟨c2012, h⟩ := h
        refine xG.seg 2 (f' := (82, [(0, .ref 22), (1, .int (nI l1)), (2, .int (nI l2)), (3, .int (nI l3)), (4, .int (nI l4))], [.int ((nI (M.2.1 3 l4)) / (nI 16)), .int (nI l3)])) (x1 := M) (fun _ => rfl) ?_
        refine xG.conv (xe_div c2012 (by decide) (by decide)) ?_
        refine xG.seg 2 (f' := (96, [(0, .ref 22), (1, .int (nI l1)), (2, .int (nI l2)), (3, .int (nI l3)), (4, .int (nI l4))], [.int ((nI l3) + (nI ((M.2.1 3 l4) / 16)))])) (x1 := M) (fun _ => rfl) ?_
        refine xG.conv (xe_add l3 ((M.2.1 3 l4) / 16)) ?_
        refine xG.eqf (f' := (96, [(0, .ref 22), (1, .int (nI l1)), (2, .int (nI l2)), (3, .int (nI l3)), (4, .int (nI l4))], [.int (nI (l3 + ((M.2.1 3 l4) / 16)))])) rfl ?_
        refine xG.seg 1 (f' := (97, [(3, .int (nI (l3 + ((M.2.1 3 l4) / 16)))), (0, .ref 22), (1, .int (nI l1)), (2, .int (nI l2)), (4, .int (nI l4))], [])) (x1 := M) (fun _ => rfl) ?_
        refine xG.iinc (v := (nI l4)) (w := (nI (l4 + 1))) rfl rfl (by decide) (xe_add l4 1) ?_
        refine xG.eqf (f' := (100, [(4, .int (nI (l4 + 1))), (3, .int (nI (l3 + ((M.2.1 3 l4) / 16)))), (0, .ref 22), (1, .int (nI l1)), (2, .int (nI l2))], [])) rfl ?_
        refine xG.seg 1 (f' := (42, [(4, .int (nI (l4 + 1))), (3, .int (nI (l3 + ((M.2.1 3 l4) / 16)))), (0, .ref 22), (1, .int (nI l1)), (2, .int (nI l2))], [])) (x1 := M) (fun _ => rfl) ?_
        refine xG.lv (lv := [(0, .ref 22), (1, .int (nI l1)), (2, .int (nI l2)), (3, .int (nI (l3 + ((M.2.1 3 l4) / 16)))), (4, .int (nI (l4 + 1)))]) (lv' := [(4, .int (nI (l4 + 1))), (3, .int (nI (l3 + ((M.2.1 3 l4) / 16)))), (0, .ref 22), (1, .int (nI l1)), (2, .int (nI l2))]) rfl rfl rfl ?_
        exact hK l1 l2 (l3 + ((M.2.1 3 l4) / 16)) (l4 + 1) M h
    · replace h := h.1 (Classical.not_not.mp k2006)
      refine xG.seg 3 (f' := (96, [(0, .ref 22), (1, .int (nI l1)), (2, .int (nI l2)), (3, .int (nI l3)), (4, .int (nI l4))], [.int ((nI l3) + (nI 1))])) (x1 := M) (fun _ => rfl) ?_
      refine xG.conv (xe_add l3 1) ?_
      refine xG.eqf (f' := (96, [(0, .ref 22), (1, .int (nI l1)), (2, .int (nI l2)), (3, .int (nI l3)), (4, .int (nI l4))], [.int (nI (l3 + 1))])) rfl ?_
      refine xG.seg 1 (f' := (97, [(3, .int (nI (l3 + 1))), (0, .ref 22), (1, .int (nI l1)), (2, .int (nI l2)), (4, .int (nI l4))], [])) (x1 := M) (fun _ => rfl) ?_
      refine xG.iinc (v := (nI l4)) (w := (nI (l4 + 1))) rfl rfl (by decide) (xe_add l4 1) ?_
      refine xG.eqf (f' := (100, [(4, .int (nI (l4 + 1))), (3, .int (nI (l3 + 1))), (0, .ref 22), (1, .int (nI l1)), (2, .int (nI l2))], [])) rfl ?_
      refine xG.seg 1 (f' := (42, [(4, .int (nI (l4 + 1))), (3, .int (nI (l3 + 1))), (0, .ref 22), (1, .int (nI l1)), (2, .int (nI l2))], [])) (x1 := M) (fun _ => rfl) ?_
      refine xG.lv (lv := [(0, .ref 22), (1, .int (nI l1)), (2, .int (nI l2)), (3, .int (nI (l3 + 1))), (4, .int (nI (l4 + 1)))]) (lv' := [(4, .int (nI (l4 + 1))), (3, .int (nI (l3 + 1))), (0, .ref 22), (1, .int (nI l1)), (2, .int (nI l2))]) rfl rfl rfl ?_
      exact hK l1 l2 (l3 + 1) (l4 + 1) M h

def w_R_definition_42 : Nat → Nat → Nat → Nat → Nat → (xM) → (Nat → xM → Prop) → Prop
  | 0, _, _, _, _, _, _ => False
  | n + 1, l1, l2, l3, l4, C, Q => wi_R_definition_42 (fun l1 l2 l3 l4 C => w_R_definition_42 n l1 l2 l3 l4 C Q) l1 l2 l3 l4 C Q
theorem p_R_definition_42 (L : Nat) (xs : Nat → Int32) (d : Nat) (Q : Nat → xM → Prop) : ∀ (n : Nat) (l1 : Nat) (l2 : Nat) (l3 : Nat) (l4 : Nat) (M : xM), w_R_definition_42 n l1 l2 l3 l4 M Q → xG xem (xgt L xs) (d + 1) xi_R_definition (42, [(0, .ref 22), (1, .int (nI l1)), (2, .int (nI l2)), (3, .int (nI l3)), (4, .int (nI l4))], []) M (xPN Q)
  | 0, _, _, _, _, _, h => by cases h
  | n + 1, l1, l2, l3, l4, C, h => pi_R_definition_42 L xs d Q (fun l1 l2 l3 l4 C => w_R_definition_42 n l1 l2 l3 l4 C Q) (fun l1 l2 l3 l4 C h => p_R_definition_42 L xs d Q n l1 l2 l3 l4 C h) l1 l2 l3 l4 C h

def w_R_definition (x1 : Int32) (x2 : Int32) (M : xM) (Q : Nat → xM → Prop) : Prop := ((x1 < 0 → ((x2 < 0 → w_R_within_GNZ x1 0 (M.1 4) 1 (dN M 0 0) (fun r6 M5 => (r6 < 2147483648 ∧ ((r6 = 0 → w_R_fail 1 M5 (fun r10 M9 => Q r10 M9)) ∧ (¬ (r6 = 0) → w_R_within_GNN x2 0 2 M5 (fun r12 M11 => (r12 < 2147483648 ∧ ((r12 = 0 → w_R_fail 1 M11 (fun r16 M15 => Q r16 M15)) ∧ (¬ (r12 = 0) → False))))))))) ∧ (∀ e3 : Nat, x2 = nI e3 → e3 < 2147483648 → w_R_within_GNZ x1 0 (M.1 4) 1 (dN M 0 0) (fun r18 M17 => (r18 < 2147483648 ∧ ((r18 = 0 → w_R_fail 1 M17 (fun r22 M21 => Q r22 M21)) ∧ (¬ (r18 = 0) → w_R_within_NNN e3 0 2 M17 (fun r24 M23 => (r24 < 2147483648 ∧ ((r24 = 0 → w_R_fail 1 M23 (fun r28 M27 => Q r28 M27)) ∧ (¬ (r24 = 0) → False))))))))))) ∧ (∀ e1 : Nat, x1 = nI e1 → e1 < 2147483648 → ((x2 < 0 → w_R_within_NNZ e1 0 (M.1 4) 1 (dN M 0 0) (fun r32 M31 => (r32 < 2147483648 ∧ ((r32 = 0 → w_R_fail 1 M31 (fun r36 M35 => Q r36 M35)) ∧ (¬ (r32 = 0) → w_R_within_GNN x2 0 2 M31 (fun r38 M37 => (r38 < 2147483648 ∧ ((r38 = 0 → w_R_fail 1 M37 (fun r42 M41 => Q r42 M41)) ∧ (¬ (r38 = 0) → False))))))))) ∧ (∀ e29 : Nat, x2 = nI e29 → e29 < 2147483648 → w_R_within_NNZ e1 0 (M.1 4) 1 (dN M 0 0) (fun r44 M43 => (r44 < 2147483648 ∧ ((r44 = 0 → w_R_fail 1 M43 (fun r48 M47 => Q r48 M47)) ∧ (¬ (r44 = 0) → w_R_within_NNN e29 0 2 M43 (fun r50 M49 => (r50 < 2147483648 ∧ ((r50 = 0 → w_R_fail 1 M49 (fun r55 M54 => Q r55 M54)) ∧ (¬ (r50 = 0) → ∃ fu53 : Nat, w_R_definition_42 fu53 e1 e29 0 (60 * e1) M49 Q))))))))))))
set_option maxRecDepth 8000 in
set_option maxHeartbeats 4000000 in
theorem p_R_definition (L : Nat) (xs : Nat → Int32) (d : Nat) (x1 : Int32) (x2 : Int32) (M : xM) (Q : Nat → xM → Prop) (h : w_R_definition x1 x2 M Q) : xG xem (xgt L xs) (d + 1) xi_R_definition (0, [(0, .ref 22), (1, .int x1), (2, .int x2)], []) M (xPN Q) := by
  unfold w_R_definition at h
  rcases xe_sgn x1 with k2 | ⟨e1, k2, k2r⟩
  · replace h := h.1 k2
    rcases xe_sgn x2 with k4 | ⟨e3, k4, k4r⟩
    · replace h := h.1 k4
      refine xG.seg 9 (f' := (13, [(0, .ref 22), (1, .int x1), (2, .int x2)], [.int (nI (M.1 4) - nI 1), .int (nI 0), .int x1])) (x1 := (dN M 0 0)) (fun _ => rfl) ?_
      refine xG.call (d := d) (vs := [.int x1, .int (nI 0), .int (nI (M.1 4) - nI 1)]) (g := (13, [(0, .ref 22), (1, .int x1), (2, .int x2)], [])) (fun _ => rfl) rfl (p_R_within_GNZ L xs d x1 0 (M.1 4) 1 (dN M 0 0) _ h) ?_
      clear h
      rintro _ M5 ⟨r6, rfl, h⟩
      refine ⟨_, rfl, ?_⟩
      refine xG.eqf (f' := (16, [(0, .ref 22), (1, .int x1), (2, .int x2)], [.int (nI r6)])) rfl ?_
      obtain ⟨c7, h⟩ := h
      refine xG.ifc (t := 28) (A := r6 = 0) rfl rfl (xe_c (xt_N c7) (show (0 : Int32).toInt = 0 from by decide) (by dsimp only; omega)) (fun k8 => ?_) (fun k8 => ?_)
      · replace h := h.1 k8
        refine xG.seg 2 (f' := (30, [(0, .ref 22), (1, .int x1), (2, .int x2)], [.int (nI 1), .ref 22])) (x1 := M5) (fun _ => rfl) ?_
        refine xG.call (d := d) (vs := [.ref 22, .int (nI 1)]) (g := (30, [(0, .ref 22), (1, .int x1), (2, .int x2)], [])) (fun _ => rfl) rfl (p_R_fail L xs d 1 M5 _ h) ?_
        clear h
        rintro _ M9 ⟨r10, rfl, h⟩
        refine ⟨_, rfl, ?_⟩
        refine xG.eqf (f' := (33, [(0, .ref 22), (1, .int x1), (2, .int x2)], [.int (nI r10)])) rfl ?_
        exact xG.fin (fun _ => rfl) (⟨_, rfl, h⟩)
      · replace h := h.2 k8
        refine xG.seg 3 (f' := (22, [(0, .ref 22), (1, .int x1), (2, .int x2)], [.int (nI 2), .int (nI 0), .int x2])) (x1 := M5) (fun _ => rfl) ?_
        refine xG.call (d := d) (vs := [.int x2, .int (nI 0), .int (nI 2)]) (g := (22, [(0, .ref 22), (1, .int x1), (2, .int x2)], [])) (fun _ => rfl) rfl (p_R_within_GNN L xs d x2 0 2 M5 _ h) ?_
        clear h
        rintro _ M11 ⟨r12, rfl, h⟩
        refine ⟨_, rfl, ?_⟩
        refine xG.eqf (f' := (25, [(0, .ref 22), (1, .int x1), (2, .int x2)], [.int (nI r12)])) rfl ?_
        obtain ⟨c13, h⟩ := h
        refine xG.ifc (t := 34) (A := ¬ (r12 = 0)) rfl rfl (xe_c (xt_N c13) (show (0 : Int32).toInt = 0 from by decide) (by dsimp only; omega)) (fun k14 => ?_) (fun k14 => ?_)
        · replace h := h.2 k14
          refine xG.seg 6 (f' := (42, [(4, .int ((nI 60) * x1)), (3, .int (nI 0)), (0, .ref 22), (1, .int x1), (2, .int x2)], [])) (x1 := M11) (fun _ => rfl) ?_
          exact h.elim
        · replace h := h.1 (Classical.not_not.mp k14)
          refine xG.seg 2 (f' := (30, [(0, .ref 22), (1, .int x1), (2, .int x2)], [.int (nI 1), .ref 22])) (x1 := M11) (fun _ => rfl) ?_
          refine xG.call (d := d) (vs := [.ref 22, .int (nI 1)]) (g := (30, [(0, .ref 22), (1, .int x1), (2, .int x2)], [])) (fun _ => rfl) rfl (p_R_fail L xs d 1 M11 _ h) ?_
          clear h
          rintro _ M15 ⟨r16, rfl, h⟩
          refine ⟨_, rfl, ?_⟩
          refine xG.eqf (f' := (33, [(0, .ref 22), (1, .int x1), (2, .int x2)], [.int (nI r16)])) rfl ?_
          exact xG.fin (fun _ => rfl) (⟨_, rfl, h⟩)
    · replace h := h.2 e3 k4 k4r
      subst k4
      refine xG.seg 9 (f' := (13, [(0, .ref 22), (1, .int x1), (2, .int (nI e3))], [.int (nI (M.1 4) - nI 1), .int (nI 0), .int x1])) (x1 := (dN M 0 0)) (fun _ => rfl) ?_
      refine xG.call (d := d) (vs := [.int x1, .int (nI 0), .int (nI (M.1 4) - nI 1)]) (g := (13, [(0, .ref 22), (1, .int x1), (2, .int (nI e3))], [])) (fun _ => rfl) rfl (p_R_within_GNZ L xs d x1 0 (M.1 4) 1 (dN M 0 0) _ h) ?_
      clear h
      rintro _ M17 ⟨r18, rfl, h⟩
      refine ⟨_, rfl, ?_⟩
      refine xG.eqf (f' := (16, [(0, .ref 22), (1, .int x1), (2, .int (nI e3))], [.int (nI r18)])) rfl ?_
      obtain ⟨c19, h⟩ := h
      refine xG.ifc (t := 28) (A := r18 = 0) rfl rfl (xe_c (xt_N c19) (show (0 : Int32).toInt = 0 from by decide) (by dsimp only; omega)) (fun k20 => ?_) (fun k20 => ?_)
      · replace h := h.1 k20
        refine xG.seg 2 (f' := (30, [(0, .ref 22), (1, .int x1), (2, .int (nI e3))], [.int (nI 1), .ref 22])) (x1 := M17) (fun _ => rfl) ?_
        refine xG.call (d := d) (vs := [.ref 22, .int (nI 1)]) (g := (30, [(0, .ref 22), (1, .int x1), (2, .int (nI e3))], [])) (fun _ => rfl) rfl (p_R_fail L xs d 1 M17 _ h) ?_
        clear h
        rintro _ M21 ⟨r22, rfl, h⟩
        refine ⟨_, rfl, ?_⟩
        refine xG.eqf (f' := (33, [(0, .ref 22), (1, .int x1), (2, .int (nI e3))], [.int (nI r22)])) rfl ?_
        exact xG.fin (fun _ => rfl) (⟨_, rfl, h⟩)
      · replace h := h.2 k20
        refine xG.seg 3 (f' := (22, [(0, .ref 22), (1, .int x1), (2, .int (nI e3))], [.int (nI 2), .int (nI 0), .int (nI e3)])) (x1 := M17) (fun _ => rfl) ?_
        refine xG.call (d := d) (vs := [.int (nI e3), .int (nI 0), .int (nI 2)]) (g := (22, [(0, .ref 22), (1, .int x1), (2, .int (nI e3))], [])) (fun _ => rfl) rfl (p_R_within_NNN L xs d e3 0 2 M17 _ h) ?_
        clear h
        rintro _ M23 ⟨r24, rfl, h⟩
        refine ⟨_, rfl, ?_⟩
        refine xG.eqf (f' := (25, [(0, .ref 22), (1, .int x1), (2, .int (nI e3))], [.int (nI r24)])) rfl ?_
        obtain ⟨c25, h⟩ := h
        refine xG.ifc (t := 34) (A := ¬ (r24 = 0)) rfl rfl (xe_c (xt_N c25) (show (0 : Int32).toInt = 0 from by decide) (by dsimp only; omega)) (fun k26 => ?_) (fun k26 => ?_)
        · replace h := h.2 k26
          refine xG.seg 6 (f' := (42, [(4, .int ((nI 60) * x1)), (3, .int (nI 0)), (0, .ref 22), (1, .int x1), (2, .int (nI e3))], [])) (x1 := M23) (fun _ => rfl) ?_
          exact h.elim
        · replace h := h.1 (Classical.not_not.mp k26)
          refine xG.seg 2 (f' := (30, [(0, .ref 22), (1, .int x1), (2, .int (nI e3))], [.int (nI 1), .ref 22])) (x1 := M23) (fun _ => rfl) ?_
          refine xG.call (d := d) (vs := [.ref 22, .int (nI 1)]) (g := (30, [(0, .ref 22), (1, .int x1), (2, .int (nI e3))], [])) (fun _ => rfl) rfl (p_R_fail L xs d 1 M23 _ h) ?_
          clear h
          rintro _ M27 ⟨r28, rfl, h⟩
          refine ⟨_, rfl, ?_⟩
          refine xG.eqf (f' := (33, [(0, .ref 22), (1, .int x1), (2, .int (nI e3))], [.int (nI r28)])) rfl ?_
          exact xG.fin (fun _ => rfl) (⟨_, rfl, h⟩)
  · replace h := h.2 e1 k2 k2r
    subst k2
    rcases xe_sgn x2 with k30 | ⟨e29, k30, k30r⟩
    · replace h := h.1 k30
      refine xG.seg 9 (f' := (13, [(0, .ref 22), (1, .int (nI e1)), (2, .int x2)], [.int (nI (M.1 4) - nI 1), .int (nI 0), .int (nI e1)])) (x1 := (dN M 0 0)) (fun _ => rfl) ?_
      refine xG.call (d := d) (vs := [.int (nI e1), .int (nI 0), .int (nI (M.1 4) - nI 1)]) (g := (13, [(0, .ref 22), (1, .int (nI e1)), (2, .int x2)], [])) (fun _ => rfl) rfl (p_R_within_NNZ L xs d e1 0 (M.1 4) 1 (dN M 0 0) _ h) ?_
      clear h
      rintro _ M31 ⟨r32, rfl, h⟩
      refine ⟨_, rfl, ?_⟩
      refine xG.eqf (f' := (16, [(0, .ref 22), (1, .int (nI e1)), (2, .int x2)], [.int (nI r32)])) rfl ?_
      obtain ⟨c33, h⟩ := h
      refine xG.ifc (t := 28) (A := r32 = 0) rfl rfl (xe_c (xt_N c33) (show (0 : Int32).toInt = 0 from by decide) (by dsimp only; omega)) (fun k34 => ?_) (fun k34 => ?_)
      · replace h := h.1 k34
        refine xG.seg 2 (f' := (30, [(0, .ref 22), (1, .int (nI e1)), (2, .int x2)], [.int (nI 1), .ref 22])) (x1 := M31) (fun _ => rfl) ?_
        refine xG.call (d := d) (vs := [.ref 22, .int (nI 1)]) (g := (30, [(0, .ref 22), (1, .int (nI e1)), (2, .int x2)], [])) (fun _ => rfl) rfl (p_R_fail L xs d 1 M31 _ h) ?_
        clear h
        rintro _ M35 ⟨r36, rfl, h⟩
        refine ⟨_, rfl, ?_⟩
        refine xG.eqf (f' := (33, [(0, .ref 22), (1, .int (nI e1)), (2, .int x2)], [.int (nI r36)])) rfl ?_
        exact xG.fin (fun _ => rfl) (⟨_, rfl, h⟩)
      · replace h := h.2 k34
        refine xG.seg 3 (f' := (22, [(0, .ref 22), (1, .int (nI e1)), (2, .int x2)], [.int (nI 2), .int (nI 0), .int x2])) (x1 := M31) (fun _ => rfl) ?_
        refine xG.call (d := d) (vs := [.int x2, .int (nI 0), .int (nI 2)]) (g := (22, [(0, .ref 22), (1, .int (nI e1)), (2, .int x2)], [])) (fun _ => rfl) rfl (p_R_within_GNN L xs d x2 0 2 M31 _ h) ?_
        clear h
        rintro _ M37 ⟨r38, rfl, h⟩
        refine ⟨_, rfl, ?_⟩
        refine xG.eqf (f' := (25, [(0, .ref 22), (1, .int (nI e1)), (2, .int x2)], [.int (nI r38)])) rfl ?_
        obtain ⟨c39, h⟩ := h
        refine xG.ifc (t := 34) (A := ¬ (r38 = 0)) rfl rfl (xe_c (xt_N c39) (show (0 : Int32).toInt = 0 from by decide) (by dsimp only; omega)) (fun k40 => ?_) (fun k40 => ?_)
        · replace h := h.2 k40
          refine xG.seg 5 (f' := (40, [(3, .int (nI 0)), (0, .ref 22), (1, .int (nI e1)), (2, .int x2)], [.int ((nI 60) * (nI e1))])) (x1 := M37) (fun _ => rfl) ?_
          refine xG.conv (xe_mul _ _) ?_
          refine xG.seg 1 (f' := (42, [(4, .int (nI (60 * e1))), (3, .int (nI 0)), (0, .ref 22), (1, .int (nI e1)), (2, .int x2)], [])) (x1 := M37) (fun _ => rfl) ?_
          exact h.elim
        · replace h := h.1 (Classical.not_not.mp k40)
          refine xG.seg 2 (f' := (30, [(0, .ref 22), (1, .int (nI e1)), (2, .int x2)], [.int (nI 1), .ref 22])) (x1 := M37) (fun _ => rfl) ?_
          refine xG.call (d := d) (vs := [.ref 22, .int (nI 1)]) (g := (30, [(0, .ref 22), (1, .int (nI e1)), (2, .int x2)], [])) (fun _ => rfl) rfl (p_R_fail L xs d 1 M37 _ h) ?_
          clear h
          rintro _ M41 ⟨r42, rfl, h⟩
          refine ⟨_, rfl, ?_⟩
          refine xG.eqf (f' := (33, [(0, .ref 22), (1, .int (nI e1)), (2, .int x2)], [.int (nI r42)])) rfl ?_
          exact xG.fin (fun _ => rfl) (⟨_, rfl, h⟩)
    · replace h := h.2 e29 k30 k30r
      subst k30
      refine xG.seg 9 (f' := (13, [(0, .ref 22), (1, .int (nI e1)), (2, .int (nI e29))], [.int (nI (M.1 4) - nI 1), .int (nI 0), .int (nI e1)])) (x1 := (dN M 0 0)) (fun _ => rfl) ?_
      refine xG.call (d := d) (vs := [.int (nI e1), .int (nI 0), .int (nI (M.1 4) - nI 1)]) (g := (13, [(0, .ref 22), (1, .int (nI e1)), (2, .int (nI e29))], [])) (fun _ => rfl) rfl (p_R_within_NNZ L xs d e1 0 (M.1 4) 1 (dN M 0 0) _ h) ?_
      clear h
      rintro _ M43 ⟨r44, rfl, h⟩
      refine ⟨_, rfl, ?_⟩
      refine xG.eqf (f' := (16, [(0, .ref 22), (1, .int (nI e1)), (2, .int (nI e29))], [.int (nI r44)])) rfl ?_
      obtain ⟨c45, h⟩ := h
      refine xG.ifc (t := 28) (A := r44 = 0) rfl rfl (xe_c (xt_N c45) (show (0 : Int32).toInt = 0 from by decide) (by dsimp only; omega)) (fun k46 => ?_) (fun k46 => ?_)
      · replace h := h.1 k46
        refine xG.seg 2 (f' := (30, [(0, .ref 22), (1, .int (nI e1)), (2, .int (nI e29))], [.int (nI 1), .ref 22])) (x1 := M43) (fun _ => rfl) ?_
        refine xG.call (d := d) (vs := [.ref 22, .int (nI 1)]) (g := (30, [(0, .ref 22), (1, .int (nI e1)), (2, .int (nI e29))], [])) (fun _ => rfl) rfl (p_R_fail L xs d 1 M43 _ h) ?_
        clear h
        rintro _ M47 ⟨r48, rfl, h⟩
        refine ⟨_, rfl, ?_⟩
        refine xG.eqf (f' := (33, [(0, .ref 22), (1, .int (nI e1)), (2, .int (nI e29))], [.int (nI r48)])) rfl ?_
        exact xG.fin (fun _ => rfl) (⟨_, rfl, h⟩)
      · replace h := h.2 k46
        refine xG.seg 3 (f' := (22, [(0, .ref 22), (1, .int (nI e1)), (2, .int (nI e29))], [.int (nI 2), .int (nI 0), .int (nI e29)])) (x1 := M43) (fun _ => rfl) ?_
        refine xG.call (d := d) (vs := [.int (nI e29), .int (nI 0), .int (nI 2)]) (g := (22, [(0, .ref 22), (1, .int (nI e1)), (2, .int (nI e29))], [])) (fun _ => rfl) rfl (p_R_within_NNN L xs d e29 0 2 M43 _ h) ?_
        clear h
        rintro _ M49 ⟨r50, rfl, h⟩
        refine ⟨_, rfl, ?_⟩
        refine xG.eqf (f' := (25, [(0, .ref 22), (1, .int (nI e1)), (2, .int (nI e29))], [.int (nI r50)])) rfl ?_
        obtain ⟨c51, h⟩ := h
        refine xG.ifc (t := 34) (A := ¬ (r50 = 0)) rfl rfl (xe_c (xt_N c51) (show (0 : Int32).toInt = 0 from by decide) (by dsimp only; omega)) (fun k52 => ?_) (fun k52 => ?_)
        · replace h := h.2 k52
          refine xG.seg 5 (f' := (40, [(3, .int (nI 0)), (0, .ref 22), (1, .int (nI e1)), (2, .int (nI e29))], [.int ((nI 60) * (nI e1))])) (x1 := M49) (fun _ => rfl) ?_
          refine xG.conv (xe_mul _ _) ?_
          refine xG.seg 1 (f' := (42, [(4, .int (nI (60 * e1))), (3, .int (nI 0)), (0, .ref 22), (1, .int (nI e1)), (2, .int (nI e29))], [])) (x1 := M49) (fun _ => rfl) ?_
          refine xG.lv (lv := [(0, .ref 22), (1, .int (nI e1)), (2, .int (nI e29)), (3, .int (nI 0)), (4, .int (nI (60 * e1)))]) (lv' := [(4, .int (nI (60 * e1))), (3, .int (nI 0)), (0, .ref 22), (1, .int (nI e1)), (2, .int (nI e29))]) rfl rfl rfl ?_
          obtain ⟨fu53, h⟩ := h
          exact p_R_definition_42 L xs d Q fu53 e1 e29 0 (60 * e1) M49 h
        · replace h := h.1 (Classical.not_not.mp k52)
          refine xG.seg 2 (f' := (30, [(0, .ref 22), (1, .int (nI e1)), (2, .int (nI e29))], [.int (nI 1), .ref 22])) (x1 := M49) (fun _ => rfl) ?_
          refine xG.call (d := d) (vs := [.ref 22, .int (nI 1)]) (g := (30, [(0, .ref 22), (1, .int (nI e1)), (2, .int (nI e29))], [])) (fun _ => rfl) rfl (p_R_fail L xs d 1 M49 _ h) ?_
          clear h
          rintro _ M54 ⟨r55, rfl, h⟩
          refine ⟨_, rfl, ?_⟩
          refine xG.eqf (f' := (33, [(0, .ref 22), (1, .int (nI e1)), (2, .int (nI e29))], [.int (nI r55)])) rfl ?_
          exact xG.fin (fun _ => rfl) (⟨_, rfl, h⟩)

def w_R_count (x1 : Int32) (M : xM) (Q : Nat → xM → Prop) : Prop := ((x1 < 0 → w_R_within_GNN x1 0 5 (dN M 0 0) (fun r4 M3 => (r4 < 2147483648 ∧ ((r4 = 0 → w_R_fail 1 M3 (fun r10 M9 => Q r10 M9)) ∧ (¬ (r4 = 0) → ((x1 = 0 → Q (M3.1 4) M3) ∧ (¬ (x1 = 0) → ((x1 = (nI 1) → Q (M3.1 12) M3) ∧ (¬ (x1 = (nI 1)) → Q (M3.1 13) M3))))))))) ∧ (∀ e1 : Nat, x1 = nI e1 → e1 < 2147483648 → w_R_within_NNN e1 0 5 (dN M 0 0) (fun r12 M11 => (r12 < 2147483648 ∧ ((r12 = 0 → w_R_fail 1 M11 (fun r26 M25 => Q r26 M25)) ∧ (¬ (r12 = 0) → (e1 < 2147483648 ∧ ((3 ≤ e1 → (e1 < 2147483648 ∧ ((e1 = 3 → Q (M11.1 14) M11) ∧ (¬ (e1 = 3) → (e1 < 2147483648 ∧ ((e1 = 4 → Q (M11.1 5) M11) ∧ (¬ (e1 = 4) → Q (M11.1 10) M11))))))) ∧ (¬ (3 ≤ e1) → (e1 < 2147483648 ∧ ((e1 = 0 → Q (M11.1 4) M11) ∧ (¬ (e1 = 0) → (e1 < 2147483648 ∧ ((e1 = 1 → Q (M11.1 12) M11) ∧ (¬ (e1 = 1) → Q (M11.1 13) M11)))))))))))))))
set_option maxRecDepth 8000 in
set_option maxHeartbeats 4000000 in
theorem p_R_count (L : Nat) (xs : Nat → Int32) (d : Nat) (x1 : Int32) (M : xM) (Q : Nat → xM → Prop) (h : w_R_count x1 M Q) : xG xem (xgt L xs) (d + 1) xi_R_count (0, [(0, .ref 22), (1, .int x1)], []) M (xPN Q) := by
  unfold w_R_count at h
  rcases xe_sgn x1 with k2 | ⟨e1, k2, k2r⟩
  · replace h := h.1 k2
    refine xG.seg 6 (f' := (8, [(0, .ref 22), (1, .int x1)], [.int (nI 5), .int (nI 0), .int x1])) (x1 := (dN M 0 0)) (fun _ => rfl) ?_
    refine xG.call (d := d) (vs := [.int x1, .int (nI 0), .int (nI 5)]) (g := (8, [(0, .ref 22), (1, .int x1)], [])) (fun _ => rfl) rfl (p_R_within_GNN L xs d x1 0 5 (dN M 0 0) _ h) ?_
    clear h
    rintro _ M3 ⟨r4, rfl, h⟩
    refine ⟨_, rfl, ?_⟩
    refine xG.eqf (f' := (11, [(0, .ref 22), (1, .int x1)], [.int (nI r4)])) rfl ?_
    obtain ⟨c5, h⟩ := h
    refine xG.ifc (t := 20) (A := ¬ (r4 = 0)) rfl rfl (xe_c (xt_N c5) (show (0 : Int32).toInt = 0 from by decide) (by dsimp only; omega)) (fun k6 => ?_) (fun k6 => ?_)
    · replace h := h.2 k6
      refine xG.seg 2 (f' := (22, [(0, .ref 22), (1, .int x1)], [.int (nI 3), .int x1])) (x1 := M3) (fun _ => rfl) ?_
      refine xG.icmp (t := 53) rfl rfl (xe_ng k2 (by decide)) (fun q => absurd q (by decide)) (fun _ => ?_)
      refine xG.eqf (f' := (25, [(0, .ref 22), (1, .int x1)], [])) rfl ?_
      refine xG.seg 1 (f' := (26, [(0, .ref 22), (1, .int x1)], [.int x1])) (x1 := M3) (fun _ => rfl) ?_
      refine xG.ifc (t := 36) (A := ¬ (x1 = 0)) rfl rfl (xe_rn _ _) (fun k7 => ?_) (fun k7 => ?_)
      · replace h := h.2 k7
        refine xG.seg 2 (f' := (38, [(0, .ref 22), (1, .int x1)], [.int (nI 1), .int x1])) (x1 := M3) (fun _ => rfl) ?_
        refine xG.icmp (t := 48) (A := ¬ (x1 = (nI 1))) rfl rfl (xe_rn _ _) (fun k8 => ?_) (fun k8 => ?_)
        · replace h := h.2 k8
          refine xG.seg 2 (f' := (52, [(0, .ref 22), (1, .int x1)], [.int (nI (M3.1 13))])) (x1 := M3) (fun _ => rfl) ?_
          exact xG.fin (fun _ => rfl) (⟨_, rfl, h⟩)
        · replace h := h.1 (Classical.not_not.mp k8)
          refine xG.seg 3 (f' := (52, [(0, .ref 22), (1, .int x1)], [.int (nI (M3.1 12))])) (x1 := M3) (fun _ => rfl) ?_
          exact xG.fin (fun _ => rfl) (⟨_, rfl, h⟩)
      · replace h := h.1 (Classical.not_not.mp k7)
        refine xG.seg 3 (f' := (52, [(0, .ref 22), (1, .int x1)], [.int (nI (M3.1 4))])) (x1 := M3) (fun _ => rfl) ?_
        exact xG.fin (fun _ => rfl) (⟨_, rfl, h⟩)
    · replace h := h.1 (Classical.not_not.mp k6)
      refine xG.seg 2 (f' := (16, [(0, .ref 22), (1, .int x1)], [.int (nI 1), .ref 22])) (x1 := M3) (fun _ => rfl) ?_
      refine xG.call (d := d) (vs := [.ref 22, .int (nI 1)]) (g := (16, [(0, .ref 22), (1, .int x1)], [])) (fun _ => rfl) rfl (p_R_fail L xs d 1 M3 _ h) ?_
      clear h
      rintro _ M9 ⟨r10, rfl, h⟩
      refine ⟨_, rfl, ?_⟩
      refine xG.eqf (f' := (19, [(0, .ref 22), (1, .int x1)], [.int (nI r10)])) rfl ?_
      exact xG.fin (fun _ => rfl) (⟨_, rfl, h⟩)
  · replace h := h.2 e1 k2 k2r
    subst k2
    refine xG.seg 6 (f' := (8, [(0, .ref 22), (1, .int (nI e1))], [.int (nI 5), .int (nI 0), .int (nI e1)])) (x1 := (dN M 0 0)) (fun _ => rfl) ?_
    refine xG.call (d := d) (vs := [.int (nI e1), .int (nI 0), .int (nI 5)]) (g := (8, [(0, .ref 22), (1, .int (nI e1))], [])) (fun _ => rfl) rfl (p_R_within_NNN L xs d e1 0 5 (dN M 0 0) _ h) ?_
    clear h
    rintro _ M11 ⟨r12, rfl, h⟩
    refine ⟨_, rfl, ?_⟩
    refine xG.eqf (f' := (11, [(0, .ref 22), (1, .int (nI e1))], [.int (nI r12)])) rfl ?_
    obtain ⟨c13, h⟩ := h
    refine xG.ifc (t := 20) (A := ¬ (r12 = 0)) rfl rfl (xe_c (xt_N c13) (show (0 : Int32).toInt = 0 from by decide) (by dsimp only; omega)) (fun k14 => ?_) (fun k14 => ?_)
    · replace h := h.2 k14
      refine xG.seg 2 (f' := (22, [(0, .ref 22), (1, .int (nI e1))], [.int (nI 3), .int (nI e1)])) (x1 := M11) (fun _ => rfl) ?_
      obtain ⟨c15, h⟩ := h
      refine xG.icmp (t := 53) (A := 3 ≤ e1) rfl rfl (xe_c (xt_N c15) (show ((nI 3) : Int32).toInt = 3 from by decide) (by dsimp only; omega)) (fun k16 => ?_) (fun k16 => ?_)
      · replace h := h.1 k16
        refine xG.seg 2 (f' := (55, [(0, .ref 22), (1, .int (nI e1))], [.int (nI 3), .int (nI e1)])) (x1 := M11) (fun _ => rfl) ?_
        obtain ⟨c17, h⟩ := h
        refine xG.icmp (t := 65) (A := ¬ (e1 = 3)) rfl rfl (xe_c (xt_N c17) (show ((nI 3) : Int32).toInt = 3 from by decide) (by dsimp only; omega)) (fun k18 => ?_) (fun k18 => ?_)
        · replace h := h.2 k18
          refine xG.seg 2 (f' := (67, [(0, .ref 22), (1, .int (nI e1))], [.int (nI 4), .int (nI e1)])) (x1 := M11) (fun _ => rfl) ?_
          obtain ⟨c19, h⟩ := h
          refine xG.icmp (t := 77) (A := ¬ (e1 = 4)) rfl rfl (xe_c (xt_N c19) (show ((nI 4) : Int32).toInt = 4 from by decide) (by dsimp only; omega)) (fun k20 => ?_) (fun k20 => ?_)
          · replace h := h.2 k20
            refine xG.seg 2 (f' := (81, [(0, .ref 22), (1, .int (nI e1))], [.int (nI (M11.1 10))])) (x1 := M11) (fun _ => rfl) ?_
            exact xG.fin (fun _ => rfl) (⟨_, rfl, h⟩)
          · replace h := h.1 (Classical.not_not.mp k20)
            refine xG.seg 3 (f' := (81, [(0, .ref 22), (1, .int (nI e1))], [.int (nI (M11.1 5))])) (x1 := M11) (fun _ => rfl) ?_
            exact xG.fin (fun _ => rfl) (⟨_, rfl, h⟩)
        · replace h := h.1 (Classical.not_not.mp k18)
          refine xG.seg 3 (f' := (81, [(0, .ref 22), (1, .int (nI e1))], [.int (nI (M11.1 14))])) (x1 := M11) (fun _ => rfl) ?_
          exact xG.fin (fun _ => rfl) (⟨_, rfl, h⟩)
      · replace h := h.2 k16
        refine xG.seg 1 (f' := (26, [(0, .ref 22), (1, .int (nI e1))], [.int (nI e1)])) (x1 := M11) (fun _ => rfl) ?_
        obtain ⟨c21, h⟩ := h
        refine xG.ifc (t := 36) (A := ¬ (e1 = 0)) rfl rfl (xe_c (xt_N c21) (show (0 : Int32).toInt = 0 from by decide) (by dsimp only; omega)) (fun k22 => ?_) (fun k22 => ?_)
        · replace h := h.2 k22
          refine xG.seg 2 (f' := (38, [(0, .ref 22), (1, .int (nI e1))], [.int (nI 1), .int (nI e1)])) (x1 := M11) (fun _ => rfl) ?_
          obtain ⟨c23, h⟩ := h
          refine xG.icmp (t := 48) (A := ¬ (e1 = 1)) rfl rfl (xe_c (xt_N c23) (show ((nI 1) : Int32).toInt = 1 from by decide) (by dsimp only; omega)) (fun k24 => ?_) (fun k24 => ?_)
          · replace h := h.2 k24
            refine xG.seg 2 (f' := (52, [(0, .ref 22), (1, .int (nI e1))], [.int (nI (M11.1 13))])) (x1 := M11) (fun _ => rfl) ?_
            exact xG.fin (fun _ => rfl) (⟨_, rfl, h⟩)
          · replace h := h.1 (Classical.not_not.mp k24)
            refine xG.seg 3 (f' := (52, [(0, .ref 22), (1, .int (nI e1))], [.int (nI (M11.1 12))])) (x1 := M11) (fun _ => rfl) ?_
            exact xG.fin (fun _ => rfl) (⟨_, rfl, h⟩)
        · replace h := h.1 (Classical.not_not.mp k22)
          refine xG.seg 3 (f' := (52, [(0, .ref 22), (1, .int (nI e1))], [.int (nI (M11.1 4))])) (x1 := M11) (fun _ => rfl) ?_
          exact xG.fin (fun _ => rfl) (⟨_, rfl, h⟩)
    · replace h := h.1 (Classical.not_not.mp k14)
      refine xG.seg 2 (f' := (16, [(0, .ref 22), (1, .int (nI e1))], [.int (nI 1), .ref 22])) (x1 := M11) (fun _ => rfl) ?_
      refine xG.call (d := d) (vs := [.ref 22, .int (nI 1)]) (g := (16, [(0, .ref 22), (1, .int (nI e1))], [])) (fun _ => rfl) rfl (p_R_fail L xs d 1 M11 _ h) ?_
      clear h
      rintro _ M25 ⟨r26, rfl, h⟩
      refine ⟨_, rfl, ?_⟩
      refine xG.eqf (f' := (19, [(0, .ref 22), (1, .int (nI e1))], [.int (nI r26)])) rfl ?_
      exact xG.fin (fun _ => rfl) (⟨_, rfl, h⟩)

