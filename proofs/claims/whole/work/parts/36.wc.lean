/-! the class: the same -/
def w_F_compiling (C : xC) (Q : Nat → xC → Prop) : Prop := (C.1 5 ≤ 1 ∧ Q (C.1 5) C)
set_option maxRecDepth 8000 in
set_option maxHeartbeats 4000000 in
theorem p_F_compiling (L : Nat) (xs : Nat → Int32) (d : Nat) (C : xC) (Q : Nat → xC → Prop) (h : w_F_compiling C Q) : xG xec (xgt L xs) (d) xi_F_compiling (0, [(0, .ref 0)], []) C (xPN Q) := by
  unfold w_F_compiling at h
  refine xG.seg 3 (f' := (7, [(0, .ref 0)], [.int (nI (C.1 5))])) (x1 := C) (fun _ => rfl) ?_
  obtain ⟨c1, h⟩ := h
  exact xG.zret rfl rfl c1 (⟨_, rfl, h⟩)

def w_F_depth (C : xC) (Q : Nat → xC → Prop) : Prop := Q (C.1 9) C
set_option maxRecDepth 8000 in
set_option maxHeartbeats 4000000 in
theorem p_F_depth (L : Nat) (xs : Nat → Int32) (d : Nat) (C : xC) (Q : Nat → xC → Prop) (h : w_F_depth C Q) : xG xec (xgt L xs) (d) xi_F_depth (0, [(0, .ref 0)], []) C (xPN Q) := by
  unfold w_F_depth at h
  refine xG.seg 4 (f' := (10, [(0, .ref 0)], [.int (nI (C.1 9))])) (x1 := C) (fun _ => rfl) ?_
  exact xG.fin (fun _ => rfl) (⟨_, rfl, h⟩)

def w_F_said (C : xC) (Q : Nat → xC → Prop) : Prop := Q (C.1 13) C
set_option maxRecDepth 8000 in
set_option maxHeartbeats 4000000 in
theorem p_F_said (L : Nat) (xs : Nat → Int32) (d : Nat) (C : xC) (Q : Nat → xC → Prop) (h : w_F_said C Q) : xG xec (xgt L xs) (d) xi_F_said (0, [(0, .ref 0)], []) C (xPN Q) := by
  unfold w_F_said at h
  refine xG.seg 3 (f' := (7, [(0, .ref 0)], [.int (nI (C.1 13))])) (x1 := C) (fun _ => rfl) ?_
  exact xG.fin (fun _ => rfl) (⟨_, rfl, h⟩)

def w_T_byteOf (x1 : Int64) (x2 : Nat) (C : xC) (Q : Int32 → xC → Prop) : Prop := Q ((((x1.toUInt64 >>> ((nI (8 * x2)).toInt64.toUInt64 &&& Int64.toUInt64 63)).toInt64).toInt32) &&& (nI 255)) C
set_option maxRecDepth 8000 in
set_option maxHeartbeats 4000000 in
theorem p_T_byteOf (L : Nat) (xs : Nat → Int32) (d : Nat) (x1 : Int64) (x2 : Nat) (C : xC) (Q : Int32 → xC → Prop) (h : w_T_byteOf x1 x2 C Q) : xG xec (xgt L xs) (d) xi_T_byteOf (0, [(0, .long x1), (2, .int (nI x2))], []) C (xPI Q) := by
  unfold w_T_byteOf at h
  refine xG.seg 4 (f' := (5, [(0, .long x1), (2, .int (nI x2))], [.int ((nI 8) * (nI x2)), .long x1])) (x1 := C) (fun _ => rfl) ?_
  refine xG.conv (xe_mul _ _) ?_
  refine xG.seg 4 (f' := (11, [(0, .long x1), (2, .int (nI x2))], [.int ((((x1.toUInt64 >>> ((nI (8 * x2)).toInt64.toUInt64 &&& Int64.toUInt64 63)).toInt64).toInt32) &&& (nI 255))])) (x1 := C) (fun _ => rfl) ?_
  exact xG.fin (fun _ => rfl) (⟨((((x1.toUInt64 >>> ((nI (8 * x2)).toInt64.toUInt64 &&& Int64.toUInt64 63)).toInt64).toInt32) &&& (nI 255)), rfl, h⟩)

def wi_T_areCharacters_2 (K : Int64 → Nat → Nat → xC → Prop) (l0 : Int64) (l2 : Nat) (l3 : Nat) (C : xC) (Q : Nat → xC → Prop) : Prop := (l3 < 2147483648 ∧ (l2 < 2147483648 ∧ ((l2 ≤ l3 → Q 1 C) ∧ (¬ (l2 ≤ l3) → w_T_byteOf l0 l3 C (fun r2005 C2004 => ((r2005 < 0 → Q 0 C2004) ∧ (∀ e2006 : Nat, r2005 = nI e2006 → e2006 < 2147483648 → (e2006 < 2147483648 ∧ ((e2006 < 32 → Q 0 C2004) ∧ (¬ (e2006 < 32) → (e2006 < 2147483648 ∧ ((e2006 ≤ 126 → K l0 l2 (l3 + 1) C2004) ∧ (¬ (e2006 ≤ 126) → Q 0 C2004)))))))))))))
set_option maxRecDepth 8000 in
set_option maxHeartbeats 4000000 in
theorem pi_T_areCharacters_2 (L : Nat) (xs : Nat → Int32) (d : Nat) (Q : Nat → xC → Prop) (K : Int64 → Nat → Nat → xC → Prop) (hK : ∀ (l0 : Int64) (l2 : Nat) (l3 : Nat) (C : xC), K l0 l2 l3 C → xG xec (xgt L xs) (d + 1) xi_T_areCharacters (2, [(0, .long l0), (2, .int (nI l2)), (3, .int (nI l3))], []) C (xPN Q)) (l0 : Int64) (l2 : Nat) (l3 : Nat) (C : xC) (h : wi_T_areCharacters_2 K l0 l2 l3 C Q) : xG xec (xgt L xs) (d + 1) xi_T_areCharacters (2, [(0, .long l0), (2, .int (nI l2)), (3, .int (nI l3))], []) C (xPN Q) := by
  unfold wi_T_areCharacters_2 at h
  refine xG.seg 2 (f' := (4, [(0, .long l0), (2, .int (nI l2)), (3, .int (nI l3))], [.int (nI l2), .int (nI l3)])) (x1 := C) (fun _ => rfl) ?_
  obtain ⟨c2001, h⟩ := h
  obtain ⟨c2002, h⟩ := h
  refine xG.icmp (t := 36) (A := l2 ≤ l3) rfl rfl (xe_c (xt_N c2001) (xt_N c2002) (by dsimp only; omega)) (fun k2003 => ?_) (fun k2003 => ?_)
  · replace h := h.1 k2003
    refine xG.seg 1 (f' := (37, [(0, .long l0), (2, .int (nI l2)), (3, .int (nI l3))], [.int (nI 1)])) (x1 := C) (fun _ => rfl) ?_
    exact xG.fin (fun _ => rfl) (⟨_, rfl, h⟩)
  · replace h := h.2 k2003
    refine xG.seg 2 (f' := (9, [(0, .long l0), (2, .int (nI l2)), (3, .int (nI l3))], [.int (nI l3), .long l0])) (x1 := C) (fun _ => rfl) ?_
    refine xG.call (d := d) (vs := [.long l0, .int (nI l3)]) (g := (9, [(0, .long l0), (2, .int (nI l2)), (3, .int (nI l3))], [])) (fun _ => rfl) rfl (p_T_byteOf L xs d l0 l3 C _ h) ?_
    clear h
    rintro _ C2004 ⟨r2005, rfl, h⟩
    refine ⟨_, rfl, ?_⟩
    refine xG.eqf (f' := (12, [(0, .long l0), (2, .int (nI l2)), (3, .int (nI l3))], [.int r2005])) rfl ?_
    refine xG.seg 3 (f' := (18, [(4, .int r2005), (0, .long l0), (2, .int (nI l2)), (3, .int (nI l3))], [.int (nI 32), .int r2005])) (x1 := C2004) (fun _ => rfl) ?_
    rcases xe_sgn r2005 with k2007 | ⟨e2006, k2007, k2007r⟩
    · replace h := h.1 k2007
      refine xG.icmp (t := 28) rfl rfl (xe_ng k2007 (by decide)) (fun _ => ?_) (fun q => absurd (by decide) q)
      refine xG.seg 1 (f' := (29, [(4, .int r2005), (0, .long l0), (2, .int (nI l2)), (3, .int (nI l3))], [.int (nI 0)])) (x1 := C2004) (fun _ => rfl) ?_
      exact xG.fin (fun _ => rfl) (⟨_, rfl, h⟩)
    · replace h := h.2 e2006 k2007 k2007r
      subst k2007
      obtain ⟨c2008, h⟩ := h
      refine xG.icmp (t := 28) (A := e2006 < 32) rfl rfl (xe_c (xt_N c2008) (show ((nI 32) : Int32).toInt = 32 from by decide) (by dsimp only; omega)) (fun k2009 => ?_) (fun k2009 => ?_)
      · replace h := h.1 k2009
        refine xG.seg 1 (f' := (29, [(4, .int (nI e2006)), (0, .long l0), (2, .int (nI l2)), (3, .int (nI l3))], [.int (nI 0)])) (x1 := C2004) (fun _ => rfl) ?_
        exact xG.fin (fun _ => rfl) (⟨_, rfl, h⟩)
      · replace h := h.2 k2009
        refine xG.seg 2 (f' := (25, [(4, .int (nI e2006)), (0, .long l0), (2, .int (nI l2)), (3, .int (nI l3))], [.int (nI 126), .int (nI e2006)])) (x1 := C2004) (fun _ => rfl) ?_
        obtain ⟨c2010, h⟩ := h
        refine xG.icmp (t := 30) (A := e2006 ≤ 126) rfl rfl (xe_c (xt_N c2010) (show ((nI 126) : Int32).toInt = 126 from by decide) (by dsimp only; omega)) (fun k2011 => ?_) (fun k2011 => ?_)
        · replace h := h.1 k2011
          refine xG.iinc (v := (nI l3)) (w := (nI (l3 + 1))) rfl rfl (by decide) (xe_add l3 1) ?_
          refine xG.eqf (f' := (33, [(3, .int (nI (l3 + 1))), (4, .int (nI e2006)), (0, .long l0), (2, .int (nI l2))], [])) rfl ?_
          refine xG.seg 1 (f' := (2, [(3, .int (nI (l3 + 1))), (4, .int (nI e2006)), (0, .long l0), (2, .int (nI l2))], [])) (x1 := C2004) (fun _ => rfl) ?_
          refine xG.lv (lv := [(0, .long l0), (2, .int (nI l2)), (3, .int (nI (l3 + 1)))]) (lv' := [(3, .int (nI (l3 + 1))), (4, .int (nI e2006)), (0, .long l0), (2, .int (nI l2))]) rfl rfl rfl ?_
          exact hK l0 l2 (l3 + 1) C2004 h
        · replace h := h.2 k2011
          refine xG.seg 1 (f' := (29, [(4, .int (nI e2006)), (0, .long l0), (2, .int (nI l2)), (3, .int (nI l3))], [.int (nI 0)])) (x1 := C2004) (fun _ => rfl) ?_
          exact xG.fin (fun _ => rfl) (⟨_, rfl, h⟩)

def w_T_areCharacters_2 : Nat → Int64 → Nat → Nat → (xC) → (Nat → xC → Prop) → Prop
  | 0, _, _, _, _, _ => False
  | n + 1, l0, l2, l3, C, Q => wi_T_areCharacters_2 (fun l0 l2 l3 C => w_T_areCharacters_2 n l0 l2 l3 C Q) l0 l2 l3 C Q
theorem p_T_areCharacters_2 (L : Nat) (xs : Nat → Int32) (d : Nat) (Q : Nat → xC → Prop) : ∀ (n : Nat) (l0 : Int64) (l2 : Nat) (l3 : Nat) (C : xC), w_T_areCharacters_2 n l0 l2 l3 C Q → xG xec (xgt L xs) (d + 1) xi_T_areCharacters (2, [(0, .long l0), (2, .int (nI l2)), (3, .int (nI l3))], []) C (xPN Q)
  | 0, _, _, _, _, h => by cases h
  | n + 1, l0, l2, l3, C, h => pi_T_areCharacters_2 L xs d Q (fun l0 l2 l3 C => w_T_areCharacters_2 n l0 l2 l3 C Q) (fun l0 l2 l3 C h => p_T_areCharacters_2 L xs d Q n l0 l2 l3 C h) l0 l2 l3 C h

def w_T_areCharacters (x1 : Int64) (x2 : Nat) (C : xC) (Q : Nat → xC → Prop) : Prop := ∃ fu1 : Nat, w_T_areCharacters_2 fu1 x1 x2 0 C Q
set_option maxRecDepth 8000 in
set_option maxHeartbeats 4000000 in
theorem p_T_areCharacters (L : Nat) (xs : Nat → Int32) (d : Nat) (x1 : Int64) (x2 : Nat) (C : xC) (Q : Nat → xC → Prop) (h : w_T_areCharacters x1 x2 C Q) : xG xec (xgt L xs) (d + 1) xi_T_areCharacters (0, [(0, .long x1), (2, .int (nI x2))], []) C (xPN Q) := by
  unfold w_T_areCharacters at h
  refine xG.seg 2 (f' := (2, [(3, .int (nI 0)), (0, .long x1), (2, .int (nI x2))], [])) (x1 := C) (fun _ => rfl) ?_
  refine xG.lv (lv := [(0, .long x1), (2, .int (nI x2)), (3, .int (nI 0))]) (lv' := [(3, .int (nI 0)), (0, .long x1), (2, .int (nI x2))]) rfl rfl rfl ?_
  obtain ⟨fu1, h⟩ := h
  exact p_T_areCharacters_2 L xs d Q fu1 x1 x2 0 C h

def wi_T_append_3 (K : Int64 → Nat → Nat → xC → Prop) (l1 : Int64) (l3 : Nat) (l4 : Nat) (C : xC) (Q : xC → Prop) : Prop := (l4 < 2147483648 ∧ (l3 < 2147483648 ∧ ((l3 ≤ l4 → Q C) ∧ (¬ (l3 ≤ l4) → w_T_byteOf l1 l4 C (fun r2005 C2004 => (∃ e2006 : Nat, (r2005.toUInt32 % 65536).toInt32 = nI e2006 ∧ (C.1 0 < 160 ∧ (e2006 < 65536 ∧ K l1 l3 (l4 + 1) (cN (cB C2004 0 (C.1 0) e2006) 0 (C2004.1 0 + 1))))))))))
set_option maxRecDepth 8000 in
set_option maxHeartbeats 4000000 in
theorem pi_T_append_3 (L : Nat) (xs : Nat → Int32) (d : Nat) (Q : xC → Prop) (K : Int64 → Nat → Nat → xC → Prop) (hK : ∀ (l1 : Int64) (l3 : Nat) (l4 : Nat) (C : xC), K l1 l3 l4 C → xG xec (xgt L xs) (d + 1) xi_T_append (3, [(0, .ref 1), (1, .long l1), (3, .int (nI l3)), (4, .int (nI l4))], []) C (xPV Q)) (l1 : Int64) (l3 : Nat) (l4 : Nat) (C : xC) (h : wi_T_append_3 K l1 l3 l4 C Q) : xG xec (xgt L xs) (d + 1) xi_T_append (3, [(0, .ref 1), (1, .long l1), (3, .int (nI l3)), (4, .int (nI l4))], []) C (xPV Q) := by
  unfold wi_T_append_3 at h
  refine xG.seg 2 (f' := (6, [(0, .ref 1), (1, .long l1), (3, .int (nI l3)), (4, .int (nI l4))], [.int (nI l3), .int (nI l4)])) (x1 := C) (fun _ => rfl) ?_
  obtain ⟨c2001, h⟩ := h
  obtain ⟨c2002, h⟩ := h
  refine xG.icmp (t := 41) (A := l3 ≤ l4) rfl rfl (xe_c (xt_N c2001) (xt_N c2002) (by dsimp only; omega)) (fun k2003 => ?_) (fun k2003 => ?_)
  · replace h := h.1 k2003
    exact xG.fin (fun _ => rfl) (⟨rfl, h⟩)
  · replace h := h.2 k2003
    refine xG.seg 6 (f' := (20, [(0, .ref 1), (1, .long l1), (3, .int (nI l3)), (4, .int (nI l4))], [.int (nI l4), .long l1, .int (nI (C.1 0)), .ref 2])) (x1 := C) (fun _ => rfl) ?_
    refine xG.call (d := d) (vs := [.long l1, .int (nI l4)]) (g := (20, [(0, .ref 1), (1, .long l1), (3, .int (nI l3)), (4, .int (nI l4))], [.int (nI (C.1 0)), .ref 2])) (fun _ => rfl) rfl (p_T_byteOf L xs d l1 l4 C _ h) ?_
    clear h
    rintro _ C2004 ⟨r2005, rfl, h⟩
    refine ⟨_, rfl, ?_⟩
    refine xG.eqf (f' := (23, [(0, .ref 1), (1, .long l1), (3, .int (nI l3)), (4, .int (nI l4))], [.int r2005, .int (nI (C.1 0)), .ref 2])) rfl ?_
    refine xG.seg 1 (f' := (24, [(0, .ref 1), (1, .long l1), (3, .int (nI l3)), (4, .int (nI l4))], [.int ((r2005.toUInt32 % 65536).toInt32), .int (nI (C.1 0)), .ref 2])) (x1 := C2004) (fun _ => rfl) ?_
    obtain ⟨e2006, c2007, h⟩ := h
    refine xG.conv (c2007) ?_
    obtain ⟨c2008, h⟩ := h
    obtain ⟨c2009, h⟩ := h
    refine xG.cast (x1 := (cB C2004 0 (C.1 0) e2006)) rfl (by decide) (fun _ => rfl) (by decide) c2008 (fun _ => by rw [xn_c c2009, xu_nI]; rfl) ?_
    refine xG.eqf (f' := (25, [(0, .ref 1), (1, .long l1), (3, .int (nI l3)), (4, .int (nI l4))], [])) rfl ?_
    refine xG.seg 5 (f' := (32, [(0, .ref 1), (1, .long l1), (3, .int (nI l3)), (4, .int (nI l4))], [.int ((nI (C2004.1 0)) + (nI 1)), .ref 1])) (x1 := (cB C2004 0 (C.1 0) e2006)) (fun _ => rfl) ?_
    refine xG.conv (xe_add (C2004.1 0) 1) ?_
    refine xG.eqf (f' := (32, [(0, .ref 1), (1, .long l1), (3, .int (nI l3)), (4, .int (nI l4))], [.int (nI (C2004.1 0 + 1)), .ref 1])) rfl ?_
    refine xG.seg 1 (f' := (35, [(0, .ref 1), (1, .long l1), (3, .int (nI l3)), (4, .int (nI l4))], [])) (x1 := (cN (cB C2004 0 (C.1 0) e2006) 0 (C2004.1 0 + 1))) (fun _ => rfl) ?_
    refine xG.iinc (v := (nI l4)) (w := (nI (l4 + 1))) rfl rfl (by decide) (xe_add l4 1) ?_
    refine xG.eqf (f' := (38, [(4, .int (nI (l4 + 1))), (0, .ref 1), (1, .long l1), (3, .int (nI l3))], [])) rfl ?_
    refine xG.seg 1 (f' := (3, [(4, .int (nI (l4 + 1))), (0, .ref 1), (1, .long l1), (3, .int (nI l3))], [])) (x1 := (cN (cB C2004 0 (C.1 0) e2006) 0 (C2004.1 0 + 1))) (fun _ => rfl) ?_
    refine xG.lv (lv := [(0, .ref 1), (1, .long l1), (3, .int (nI l3)), (4, .int (nI (l4 + 1)))]) (lv' := [(4, .int (nI (l4 + 1))), (0, .ref 1), (1, .long l1), (3, .int (nI l3))]) rfl rfl rfl ?_
    exact hK l1 l3 (l4 + 1) (cN (cB C2004 0 (C.1 0) e2006) 0 (C2004.1 0 + 1)) h

def w_T_append_3 : Nat → Int64 → Nat → Nat → (xC) → (xC → Prop) → Prop
  | 0, _, _, _, _, _ => False
  | n + 1, l1, l3, l4, C, Q => wi_T_append_3 (fun l1 l3 l4 C => w_T_append_3 n l1 l3 l4 C Q) l1 l3 l4 C Q
theorem p_T_append_3 (L : Nat) (xs : Nat → Int32) (d : Nat) (Q : xC → Prop) : ∀ (n : Nat) (l1 : Int64) (l3 : Nat) (l4 : Nat) (C : xC), w_T_append_3 n l1 l3 l4 C Q → xG xec (xgt L xs) (d + 1) xi_T_append (3, [(0, .ref 1), (1, .long l1), (3, .int (nI l3)), (4, .int (nI l4))], []) C (xPV Q)
  | 0, _, _, _, _, h => by cases h
  | n + 1, l1, l3, l4, C, h => pi_T_append_3 L xs d Q (fun l1 l3 l4 C => w_T_append_3 n l1 l3 l4 C Q) (fun l1 l3 l4 C h => p_T_append_3 L xs d Q n l1 l3 l4 C h) l1 l3 l4 C h

def w_T_append (x1 : Int64) (x2 : Nat) (C : xC) (Q : xC → Prop) : Prop := ∃ fu1 : Nat, w_T_append_3 fu1 x1 x2 0 C Q
set_option maxRecDepth 8000 in
set_option maxHeartbeats 4000000 in
theorem p_T_append (L : Nat) (xs : Nat → Int32) (d : Nat) (x1 : Int64) (x2 : Nat) (C : xC) (Q : xC → Prop) (h : w_T_append x1 x2 C Q) : xG xec (xgt L xs) (d + 1) xi_T_append (0, [(0, .ref 1), (1, .long x1), (3, .int (nI x2))], []) C (xPV Q) := by
  unfold w_T_append at h
  refine xG.seg 2 (f' := (3, [(4, .int (nI 0)), (0, .ref 1), (1, .long x1), (3, .int (nI x2))], [])) (x1 := C) (fun _ => rfl) ?_
  refine xG.lv (lv := [(0, .ref 1), (1, .long x1), (3, .int (nI x2)), (4, .int (nI 0))]) (lv' := [(4, .int (nI 0)), (0, .ref 1), (1, .long x1), (3, .int (nI x2))]) rfl rfl rfl ?_
  obtain ⟨fu1, h⟩ := h
  exact p_T_append_3 L xs d Q fu1 x1 x2 0 C h

def w_F_write (x1 : Int64) (x2 : Int32) (C : xC) (Q : Nat → xC → Prop) (E : Nat → xC → Prop) : Prop := ((x2 < 0 → (C.2.2.2.2.2.2.1.length + 38 < 1048576 ∧ E 8 (cX C 8))) ∧ (∀ e1 : Nat, x2 = nI e1 → e1 < 2147483648 → (e1 < 2147483648 ∧ ((e1 < 1 → (C.2.2.2.2.2.2.1.length + 38 < 1048576 ∧ E 8 (cX C 8))) ∧ (¬ (e1 < 1) → (e1 < 2147483648 ∧ ((8 < e1 → (C.2.2.2.2.2.2.1.length + 38 < 1048576 ∧ E 8 (cX C 8))) ∧ (¬ (8 < e1) → w_T_areCharacters x1 e1 C (fun r11 C10 => (r11 < 2147483648 ∧ ((r11 = 0 → (C10.2.2.2.2.2.2.1.length + 38 < 1048576 ∧ E 8 (cX C10 8))) ∧ (¬ (r11 = 0) → (C10.1 0 + e1 < 2147483648 ∧ ((C10.1 0 + e1 ≤ 160 → w_T_append x1 e1 C10 (fun C16 => Q (C16.1 0) C16)) ∧ (¬ (C10.1 0 + e1 ≤ 160) → (C10.2.2.2.2.2.2.1.length + 38 < 1048576 ∧ E 9 (cX C10 9)))))))))))))))))
set_option maxRecDepth 8000 in
set_option maxHeartbeats 4000000 in
theorem p_F_write (L : Nat) (xs : Nat → Int32) (d : Nat) (x1 : Int64) (x2 : Int32) (C : xC) (Q : Nat → xC → Prop) (E : Nat → xC → Prop) (h : w_F_write x1 x2 C Q E) : xG xec (xgt L xs) (d + 6) xi_F_write (0, [(0, .ref 0), (1, .long x1), (3, .int x2)], []) C (xEN Q E) := by
  unfold w_F_write at h
  refine xG.seg 2 (f' := (2, [(0, .ref 0), (1, .long x1), (3, .int x2)], [.int (nI 1), .int x2])) (x1 := C) (fun _ => rfl) ?_
  rcases xe_sgn x2 with k2 | ⟨e1, k2, k2r⟩
  · replace h := h.1 k2
    refine xG.icmp (t := 19) rfl rfl (xe_ng k2 (by decide)) (fun _ => ?_) (fun q => absurd (by decide) q)
    obtain ⟨c3, h⟩ := h
    exact xG.exc (x1 := (cX C 8)) (a := C.2.2.2.2.2.2.1.length + 38) (fun _ => rfl) (fun _ => xexc_e rfl rfl rfl rfl rfl rfl rfl c3 (Nat.le_of_ble_eq_true rfl) rfl) (fun _ => rfl) (fun _ => rfl) (by omega) (Or.inr (xEX_mk c3 h))
  · replace h := h.2 e1 k2 k2r
    subst k2
    obtain ⟨c4, h⟩ := h
    refine xG.icmp (t := 19) (A := e1 < 1) rfl rfl (xe_c (xt_N c4) (show ((nI 1) : Int32).toInt = 1 from by decide) (by dsimp only; omega)) (fun k5 => ?_) (fun k5 => ?_)
    · replace h := h.1 k5
      obtain ⟨c6, h⟩ := h
      exact xG.exc (x1 := (cX C 8)) (a := C.2.2.2.2.2.2.1.length + 38) (fun _ => rfl) (fun _ => xexc_e rfl rfl rfl rfl rfl rfl rfl c6 (Nat.le_of_ble_eq_true rfl) rfl) (fun _ => rfl) (fun _ => rfl) (by omega) (Or.inr (xEX_mk c6 h))
    · replace h := h.2 k5
      refine xG.seg 2 (f' := (8, [(0, .ref 0), (1, .long x1), (3, .int (nI e1))], [.int (nI 8), .int (nI e1)])) (x1 := C) (fun _ => rfl) ?_
      obtain ⟨c7, h⟩ := h
      refine xG.icmp (t := 19) (A := 8 < e1) rfl rfl (xe_c (xt_N c7) (show ((nI 8) : Int32).toInt = 8 from by decide) (by dsimp only; omega)) (fun k8 => ?_) (fun k8 => ?_)
      · replace h := h.1 k8
        obtain ⟨c9, h⟩ := h
        exact xG.exc (x1 := (cX C 8)) (a := C.2.2.2.2.2.2.1.length + 38) (fun _ => rfl) (fun _ => xexc_e rfl rfl rfl rfl rfl rfl rfl c9 (Nat.le_of_ble_eq_true rfl) rfl) (fun _ => rfl) (fun _ => rfl) (by omega) (Or.inr (xEX_mk c9 h))
      · replace h := h.2 k8
        refine xG.seg 2 (f' := (13, [(0, .ref 0), (1, .long x1), (3, .int (nI e1))], [.int (nI e1), .long x1])) (x1 := C) (fun _ => rfl) ?_
        refine xG.call (d := d + 5) (vs := [.long x1, .int (nI e1)]) (g := (13, [(0, .ref 0), (1, .long x1), (3, .int (nI e1))], [])) (fun _ => rfl) rfl (p_T_areCharacters L xs (d + 4) x1 e1 C _ h) ?_
        clear h
        rintro _ C10 ⟨r11, rfl, h⟩
        refine ⟨_, rfl, ?_⟩
        refine xG.eqf (f' := (16, [(0, .ref 0), (1, .long x1), (3, .int (nI e1))], [.int (nI r11)])) rfl ?_
        obtain ⟨c12, h⟩ := h
        refine xG.ifc (t := 27) (A := ¬ (r11 = 0)) rfl rfl (xe_c (xt_N c12) (show (0 : Int32).toInt = 0 from by decide) (by dsimp only; omega)) (fun k13 => ?_) (fun k13 => ?_)
        · replace h := h.2 k13
          refine xG.seg 5 (f' := (36, [(0, .ref 0), (1, .long x1), (3, .int (nI e1))], [.int ((nI (C10.1 0)) + (nI e1))])) (x1 := C10) (fun _ => rfl) ?_
          refine xG.conv (xe_add (C10.1 0) e1) ?_
          refine xG.eqf (f' := (36, [(0, .ref 0), (1, .long x1), (3, .int (nI e1))], [.int (nI (C10.1 0 + e1))])) rfl ?_
          refine xG.seg 1 (f' := (39, [(0, .ref 0), (1, .long x1), (3, .int (nI e1))], [.int (nI 160), .int (nI (C10.1 0 + e1))])) (x1 := C10) (fun _ => rfl) ?_
          obtain ⟨c14, h⟩ := h
          refine xG.icmp (t := 50) (A := C10.1 0 + e1 ≤ 160) rfl rfl (xe_c (xt_N c14) (show ((nI 160) : Int32).toInt = 160 from by decide) (by dsimp only; omega)) (fun k15 => ?_) (fun k15 => ?_)
          · replace h := h.1 k15
            refine xG.seg 4 (f' := (56, [(0, .ref 0), (1, .long x1), (3, .int (nI e1))], [.int (nI e1), .long x1, .ref 1])) (x1 := C10) (fun _ => rfl) ?_
            refine xG.call (d := d + 5) (vs := [.ref 1, .long x1, .int (nI e1)]) (g := (56, [(0, .ref 0), (1, .long x1), (3, .int (nI e1))], [])) (fun _ => rfl) rfl (p_T_append L xs (d + 4) x1 e1 C10 _ h) ?_
            clear h
            rintro _ C16 ⟨rfl, h⟩
            refine ⟨_, rfl, ?_⟩
            refine xG.eqf (f' := (59, [(0, .ref 0), (1, .long x1), (3, .int (nI e1))], [])) rfl ?_
            refine xG.seg 3 (f' := (66, [(0, .ref 0), (1, .long x1), (3, .int (nI e1))], [.int (nI (C16.1 0))])) (x1 := C16) (fun _ => rfl) ?_
            exact xG.fin (fun _ => rfl) (Or.inl ⟨_, rfl, h⟩)
          · replace h := h.2 k15
            obtain ⟨c17, h⟩ := h
            exact xG.exc (x1 := (cX C10 9)) (a := C10.2.2.2.2.2.2.1.length + 38) (fun _ => rfl) (fun _ => xexc_e rfl rfl rfl rfl rfl rfl rfl c17 (Nat.le_of_ble_eq_true rfl) rfl) (fun _ => rfl) (fun _ => rfl) (by omega) (Or.inr (xEX_mk c17 h))
        · replace h := h.1 (Classical.not_not.mp k13)
          obtain ⟨c18, h⟩ := h
          exact xG.exc (x1 := (cX C10 8)) (a := C10.2.2.2.2.2.2.1.length + 38) (fun _ => rfl) (fun _ => xexc_e rfl rfl rfl rfl rfl rfl rfl c18 (Nat.le_of_ble_eq_true rfl) rfl) (fun _ => rfl) (fun _ => rfl) (by omega) (Or.inr (xEX_mk c18 h))

def w_M_beginText (C : xC) (Q : xC → Prop) : Prop := Q (cN (cN (cN (cN C 13 0) 14 0) 15 0) 16 0)
set_option maxRecDepth 8000 in
set_option maxHeartbeats 4000000 in
theorem p_M_beginText (L : Nat) (xs : Nat → Int32) (d : Nat) (C : xC) (Q : xC → Prop) (h : w_M_beginText C Q) : xG xec (xgt L xs) (d) xi_M_beginText (0, [(0, .ref 12)], []) C (xPV Q) := by
  unfold w_M_beginText at h
  refine xG.seg 12 (f' := (20, [(0, .ref 12)], [])) (x1 := (cN (cN (cN (cN C 13 0) 14 0) 15 0) 16 0)) (fun _ => rfl) ?_
  exact xG.fin (fun _ => rfl) (⟨rfl, h⟩)

def w_T_clear (C : xC) (Q : xC → Prop) : Prop := Q (cN (cN (cN (cN C 0 0) 1 0) 2 0) 3 0)
set_option maxRecDepth 8000 in
set_option maxHeartbeats 4000000 in
theorem p_T_clear (L : Nat) (xs : Nat → Int32) (d : Nat) (C : xC) (Q : xC → Prop) (h : w_T_clear C Q) : xG xec (xgt L xs) (d) xi_T_clear (0, [(0, .ref 1)], []) C (xPV Q) := by
  unfold w_T_clear at h
  refine xG.seg 12 (f' := (20, [(0, .ref 1)], [])) (x1 := (cN (cN (cN (cN C 0 0) 1 0) 2 0) 3 0)) (fun _ => rfl) ?_
  exact xG.fin (fun _ => rfl) (⟨rfl, h⟩)

def w_M_emptyStacks (C : xC) (Q : xC → Prop) : Prop := Q (cN (cN C 9 0) 10 0)
set_option maxRecDepth 8000 in
set_option maxHeartbeats 4000000 in
theorem p_M_emptyStacks (L : Nat) (xs : Nat → Int32) (d : Nat) (C : xC) (Q : xC → Prop) (h : w_M_emptyStacks C Q) : xG xec (xgt L xs) (d) xi_M_emptyStacks (0, [(0, .ref 12)], []) C (xPV Q) := by
  unfold w_M_emptyStacks at h
  refine xG.seg 8 (f' := (16, [(0, .ref 12)], [])) (x1 := (cN (cN C 9 0) 10 0)) (fun _ => rfl) ?_
  exact xG.fin (fun _ => rfl) (⟨rfl, h⟩)

def w_C_drop (C : xC) (Q : xC → Prop) : Prop := Q (cN C 5 0)
set_option maxRecDepth 8000 in
set_option maxHeartbeats 4000000 in
theorem p_C_drop (L : Nat) (xs : Nat → Int32) (d : Nat) (C : xC) (Q : xC → Prop) (h : w_C_drop C Q) : xG xec (xgt L xs) (d) xi_C_drop (0, [(0, .ref 5)], []) C (xPV Q) := by
  unfold w_C_drop at h
  refine xG.seg 3 (f' := (5, [(0, .ref 5)], [])) (x1 := (cN C 5 0)) (fun _ => rfl) ?_
  exact xG.fin (fun _ => rfl) (⟨rfl, h⟩)

def w_F_raise (x1 : Nat) (C : xC) (Q : xC → Prop) (E : Nat → xC → Prop) : Prop := ((55 ≤ x1 ∧ x1 < 61) ∧ (x1 - 55 < 6 ∧ (xwF (x1 - 55) < 2147483648 ∧ ((xwF (x1 - 55) = 1 → (C.2.2.2.2.2.2.1.length + 38 < 1048576 ∧ E 10 (cX C 10))) ∧ (¬ xwF (x1 - 55) = 1 → ((xwF (x1 - 55) = 2 → (C.2.2.2.2.2.2.1.length + 38 < 1048576 ∧ E 8 (cX C 8))) ∧ (¬ xwF (x1 - 55) = 2 → ((xwF (x1 - 55) = 3 → (C.2.2.2.2.2.2.1.length + 38 < 1048576 ∧ E 9 (cX C 9))) ∧ (¬ xwF (x1 - 55) = 3 → ((xwF (x1 - 55) = 4 → (C.2.2.2.2.2.2.1.length + 38 < 1048576 ∧ E 11 (cX C 11))) ∧ (¬ xwF (x1 - 55) = 4 → (C.2.2.2.2.2.2.1.length + 38 < 1048576 ∧ E 12 (cX C 12)))))))))))))
set_option maxRecDepth 8000 in
set_option maxHeartbeats 4000000 in
theorem p_F_raise (L : Nat) (xs : Nat → Int32) (d : Nat) (x1 : Nat) (C : xC) (Q : xC → Prop) (E : Nat → xC → Prop) (h : w_F_raise x1 C Q E) : xG xec (xgt L xs) (d + 6) xi_F_raise (0, [(0, .ref (1048576 + x1))], []) C (xEV Q E) := by
  unfold w_F_raise at h
  refine xG.seg 2 (f' := (4, [(0, .ref (1048576 + x1))], [.ref (1048576 + x1), .ref 1048639])) (x1 := C) (fun _ => rfl) ?_
  obtain ⟨c1, h⟩ := h
  refine xG.prim (fun _ => rfl) (fun _ => rfl) (show mx_prim xi_F_raise (4, [(0, .ref (1048576 + x1))], [.ref (1048576 + x1), .ref 1048639]) = some _ from mx_pr_e (I := xi_F_raise) (ix := 640) (k := 1) (g := xp_g 7) (pc := 4) (lv := [(0, .ref (1048576 + x1))]) (st := [.ref (1048576 + x1), .ref 1048639]) rfl (Nat.le_of_ble_eq_true rfl) (Nat.le_of_ble_eq_true rfl) (xpg_7 c1)) (by omega) ?_
  refine xG.eqf (f' := (7, [(0, .ref (1048576 + x1))], [.int (nI (x1 - 55)), .ref 1048639])) rfl ?_
  obtain ⟨c2, h⟩ := h
  refine xG.cald rfl (Or.inl ⟨rfl, rfl⟩) (by decide) rfl (by decide) c2 ?_
  refine xG.eqf (f' := (8, [(0, .ref (1048576 + x1))], [.int (xw_sf.getD (x1 - 55) 0)])) rfl ?_
  refine xG.conv (xwF_e c2) ?_
  obtain ⟨c3, h⟩ := h
  by_cases k4 : xwF (x1 - 55) = 1
  · replace h := h.1 k4
    refine xG.tsw (t := 40) rfl c3 (by rw [k4]; rfl) ?_
    obtain ⟨c5, h⟩ := h
    exact xG.exc (x1 := (cX C 10)) (a := C.2.2.2.2.2.2.1.length + 38) (fun _ => rfl) (fun _ => xexc_e rfl rfl rfl rfl rfl rfl rfl c5 (Nat.le_of_ble_eq_true rfl) rfl) (fun _ => rfl) (fun _ => rfl) (by omega) (Or.inr (xEX_mk c5 h))
  replace h := h.2 k4
  by_cases k6 : xwF (x1 - 55) = 2
  · replace h := h.1 k6
    refine xG.tsw (t := 48) rfl c3 (by rw [k6]; rfl) ?_
    obtain ⟨c7, h⟩ := h
    exact xG.exc (x1 := (cX C 8)) (a := C.2.2.2.2.2.2.1.length + 38) (fun _ => rfl) (fun _ => xexc_e rfl rfl rfl rfl rfl rfl rfl c7 (Nat.le_of_ble_eq_true rfl) rfl) (fun _ => rfl) (fun _ => rfl) (by omega) (Or.inr (xEX_mk c7 h))
  replace h := h.2 k6
  by_cases k8 : xwF (x1 - 55) = 3
  · replace h := h.1 k8
    refine xG.tsw (t := 56) rfl c3 (by rw [k8]; rfl) ?_
    obtain ⟨c9, h⟩ := h
    exact xG.exc (x1 := (cX C 9)) (a := C.2.2.2.2.2.2.1.length + 38) (fun _ => rfl) (fun _ => xexc_e rfl rfl rfl rfl rfl rfl rfl c9 (Nat.le_of_ble_eq_true rfl) rfl) (fun _ => rfl) (fun _ => rfl) (by omega) (Or.inr (xEX_mk c9 h))
  replace h := h.2 k8
  by_cases k10 : xwF (x1 - 55) = 4
  · replace h := h.1 k10
    refine xG.tsw (t := 64) rfl c3 (by rw [k10]; rfl) ?_
    obtain ⟨c11, h⟩ := h
    exact xG.exc (x1 := (cX C 11)) (a := C.2.2.2.2.2.2.1.length + 38) (fun _ => rfl) (fun _ => xexc_e rfl rfl rfl rfl rfl rfl rfl c11 (Nat.le_of_ble_eq_true rfl) rfl) (fun _ => rfl) (fun _ => rfl) (by omega) (Or.inr (xEX_mk c11 h))
  replace h := h.2 k10
  refine xG.tsw (t := 72) rfl c3 (xtsw_d [1, 2, 3, 4] rfl (by decide) rfl (by decide) (by simp only [List.mem_cons, List.not_mem_nil, or_false]; omega)) ?_
  obtain ⟨c12, h⟩ := h
  exact xG.exc (x1 := (cX C 12)) (a := C.2.2.2.2.2.2.1.length + 38) (fun _ => rfl) (fun _ => xexc_e rfl rfl rfl rfl rfl rfl rfl c12 (Nat.le_of_ble_eq_true rfl) rfl) (fun _ => rfl) (fun _ => rfl) (by omega) (Or.inr (xEX_mk c12 h))

def w_T_nextWord_92 (K : xC → Prop) (C : xC) (Q : Nat → xC → Prop) : Prop := (C.1 2 < 2147483648 ∧ (C.1 3 < 2147483648 ∧ ((C.1 2 = C.1 3 → Q 0 C) ∧ (¬ (C.1 2 = C.1 3) → Q 1 (cN C 1 (C.1 1 + 1))))))
set_option maxRecDepth 8000 in
set_option maxHeartbeats 4000000 in
theorem p_T_nextWord_92 (L : Nat) (xs : Nat → Int32) (d : Nat) (Q : Nat → xC → Prop) (K : xC → Prop) (hK : ∀ (C : xC), K C → xG xec (xgt L xs) (d) xi_T_nextWord (54, [(0, .ref 1)], []) C (xPN Q)) (C : xC) (h : w_T_nextWord_92 K C Q) : xG xec (xgt L xs) (d) xi_T_nextWord (92, [(0, .ref 1)], []) C (xPN Q) := by
  unfold w_T_nextWord_92 at h
  refine xG.seg 4 (f' := (100, [(0, .ref 1)], [.int (nI (C.1 3)), .int (nI (C.1 2))])) (x1 := C) (fun _ => rfl) ?_
  obtain ⟨c4001, h⟩ := h
  obtain ⟨c4002, h⟩ := h
  refine xG.icmp (t := 105) (A := ¬ (C.1 2 = C.1 3)) rfl rfl (xe_c (xt_N c4001) (xt_N c4002) (by dsimp only; omega)) (fun k4003 => ?_) (fun k4003 => ?_)
  · replace h := h.2 k4003
    refine xG.seg 5 (f' := (112, [(0, .ref 1)], [.int ((nI (C.1 1)) + (nI 1)), .ref 1])) (x1 := C) (fun _ => rfl) ?_
    refine xG.conv (xe_add (C.1 1) 1) ?_
    refine xG.eqf (f' := (112, [(0, .ref 1)], [.int (nI (C.1 1 + 1)), .ref 1])) rfl ?_
    refine xG.seg 2 (f' := (116, [(0, .ref 1)], [.int (nI 1)])) (x1 := (cN C 1 (C.1 1 + 1))) (fun _ => rfl) ?_
    exact xG.fin (fun _ => rfl) (⟨_, rfl, h⟩)
  · replace h := h.1 (Classical.not_not.mp k4003)
    refine xG.seg 1 (f' := (104, [(0, .ref 1)], [.int (nI 0)])) (x1 := C) (fun _ => rfl) ?_
    exact xG.fin (fun _ => rfl) (⟨_, rfl, h⟩)

def wi_T_nextWord_54 (K : xC → Prop) (C : xC) (Q : Nat → xC → Prop) : Prop := (C.1 3 < 2147483648 ∧ (C.1 0 < 2147483648 ∧ ((C.1 0 ≤ C.1 3 → w_T_nextWord_92 K C Q) ∧ (¬ (C.1 0 ≤ C.1 3) → (C.1 3 < 160 ∧ (C.2.1 0 (C.1 3) < 2147483648 ∧ ((C.2.1 0 (C.1 3) = 32 → w_T_nextWord_92 K C Q) ∧ (¬ (C.2.1 0 (C.1 3) = 32) → K (cN C 3 (C.1 3 + 1))))))))))
set_option maxRecDepth 8000 in
set_option maxHeartbeats 4000000 in
theorem pi_T_nextWord_54 (L : Nat) (xs : Nat → Int32) (d : Nat) (Q : Nat → xC → Prop) (K : xC → Prop) (hK : ∀ (C : xC), K C → xG xec (xgt L xs) (d) xi_T_nextWord (54, [(0, .ref 1)], []) C (xPN Q)) (C : xC) (h : wi_T_nextWord_54 K C Q) : xG xec (xgt L xs) (d) xi_T_nextWord (54, [(0, .ref 1)], []) C (xPN Q) := by
  unfold wi_T_nextWord_54 at h
  refine xG.seg 4 (f' := (62, [(0, .ref 1)], [.int (nI (C.1 0)), .int (nI (C.1 3))])) (x1 := C) (fun _ => rfl) ?_
  obtain ⟨c3001, h⟩ := h
  obtain ⟨c3002, h⟩ := h
  refine xG.icmp (t := 92) (A := C.1 0 ≤ C.1 3) rfl rfl (xe_c (xt_N c3001) (xt_N c3002) (by dsimp only; omega)) (fun k3003 => ?_) (fun k3003 => ?_)
  · replace h := h.1 k3003
    refine xG.lv (lv := [(0, .ref 1)]) (lv' := [(0, .ref 1)]) rfl rfl rfl ?_
    exact p_T_nextWord_92 L xs d Q K hK C h
  · replace h := h.2 k3003
    refine xG.seg 4 (f' := (73, [(0, .ref 1)], [.int (nI (C.1 3)), .ref 2])) (x1 := C) (fun _ => rfl) ?_
    obtain ⟨c3004, h⟩ := h
    refine xG.iald rfl (Or.inr ⟨rfl, rfl⟩) (by decide) (fun _ => rfl) (by decide) c3004 ?_
    refine xG.eqf (f' := (74, [(0, .ref 1)], [.int (nI (C.2.1 0 (C.1 3)))])) rfl ?_
    refine xG.seg 1 (f' := (76, [(0, .ref 1)], [.int (nI 32), .int (nI (C.2.1 0 (C.1 3)))])) (x1 := C) (fun _ => rfl) ?_
    obtain ⟨c3005, h⟩ := h
    refine xG.icmp (t := 92) (A := C.2.1 0 (C.1 3) = 32) rfl rfl (xe_c (xt_N c3005) (show ((nI 32) : Int32).toInt = 32 from by decide) (by dsimp only; omega)) (fun k3006 => ?_) (fun k3006 => ?_)
    · replace h := h.1 k3006
      refine xG.lv (lv := [(0, .ref 1)]) (lv' := [(0, .ref 1)]) rfl rfl rfl ?_
      exact p_T_nextWord_92 L xs d Q K hK C h
    · replace h := h.2 k3006
      refine xG.seg 5 (f' := (86, [(0, .ref 1)], [.int ((nI (C.1 3)) + (nI 1)), .ref 1])) (x1 := C) (fun _ => rfl) ?_
      refine xG.conv (xe_add (C.1 3) 1) ?_
      refine xG.eqf (f' := (86, [(0, .ref 1)], [.int (nI (C.1 3 + 1)), .ref 1])) rfl ?_
      refine xG.seg 2 (f' := (54, [(0, .ref 1)], [])) (x1 := (cN C 3 (C.1 3 + 1))) (fun _ => rfl) ?_
      refine xG.lv (lv := [(0, .ref 1)]) (lv' := [(0, .ref 1)]) rfl rfl rfl ?_
      exact hK (cN C 3 (C.1 3 + 1)) h

def w_T_nextWord_54 : Nat → (xC) → (Nat → xC → Prop) → Prop
  | 0, _, _ => False
  | n + 1, C, Q => wi_T_nextWord_54 (fun C => w_T_nextWord_54 n C Q) C Q
theorem p_T_nextWord_54 (L : Nat) (xs : Nat → Int32) (d : Nat) (Q : Nat → xC → Prop) : ∀ (n : Nat) (C : xC), w_T_nextWord_54 n C Q → xG xec (xgt L xs) (d) xi_T_nextWord (54, [(0, .ref 1)], []) C (xPN Q)
  | 0, _, h => by cases h
  | n + 1, C, h => pi_T_nextWord_54 L xs d Q (fun C => w_T_nextWord_54 n C Q) (fun C h => p_T_nextWord_54 L xs d Q n C h) C h

def wi_T_nextWord_8 (K : xC → Prop) (C : xC) (Q : Nat → xC → Prop) : Prop := (C.1 2 < 2147483648 ∧ (C.1 0 < 2147483648 ∧ ((C.1 0 ≤ C.1 2 → ∃ fu2004 : Nat, w_T_nextWord_54 fu2004 (cN C 3 (C.1 2)) Q) ∧ (¬ (C.1 0 ≤ C.1 2) → (C.1 2 < 160 ∧ (C.2.1 0 (C.1 2) < 2147483648 ∧ ((C.2.1 0 (C.1 2) = 32 → K (cN C 2 (C.1 2 + 1))) ∧ (¬ (C.2.1 0 (C.1 2) = 32) → ∃ fu2008 : Nat, w_T_nextWord_54 fu2008 (cN C 3 (C.1 2)) Q))))))))
set_option maxRecDepth 8000 in
set_option maxHeartbeats 4000000 in
theorem pi_T_nextWord_8 (L : Nat) (xs : Nat → Int32) (d : Nat) (Q : Nat → xC → Prop) (K : xC → Prop) (hK : ∀ (C : xC), K C → xG xec (xgt L xs) (d) xi_T_nextWord (8, [(0, .ref 1)], []) C (xPN Q)) (C : xC) (h : wi_T_nextWord_8 K C Q) : xG xec (xgt L xs) (d) xi_T_nextWord (8, [(0, .ref 1)], []) C (xPN Q) := by
  unfold wi_T_nextWord_8 at h
  refine xG.seg 4 (f' := (16, [(0, .ref 1)], [.int (nI (C.1 0)), .int (nI (C.1 2))])) (x1 := C) (fun _ => rfl) ?_
  obtain ⟨c2001, h⟩ := h
  obtain ⟨c2002, h⟩ := h
  refine xG.icmp (t := 46) (A := C.1 0 ≤ C.1 2) rfl rfl (xe_c (xt_N c2001) (xt_N c2002) (by dsimp only; omega)) (fun k2003 => ?_) (fun k2003 => ?_)
  · replace h := h.1 k2003
    refine xG.seg 4 (f' := (54, [(0, .ref 1)], [])) (x1 := (cN C 3 (C.1 2))) (fun _ => rfl) ?_
    refine xG.lv (lv := [(0, .ref 1)]) (lv' := [(0, .ref 1)]) rfl rfl rfl ?_
    obtain ⟨fu2004, h⟩ := h
    exact p_T_nextWord_54 L xs d Q fu2004 (cN C 3 (C.1 2)) h
  · replace h := h.2 k2003
    refine xG.seg 4 (f' := (27, [(0, .ref 1)], [.int (nI (C.1 2)), .ref 2])) (x1 := C) (fun _ => rfl) ?_
    obtain ⟨c2005, h⟩ := h
    refine xG.iald rfl (Or.inr ⟨rfl, rfl⟩) (by decide) (fun _ => rfl) (by decide) c2005 ?_
    refine xG.eqf (f' := (28, [(0, .ref 1)], [.int (nI (C.2.1 0 (C.1 2)))])) rfl ?_
    refine xG.seg 1 (f' := (30, [(0, .ref 1)], [.int (nI 32), .int (nI (C.2.1 0 (C.1 2)))])) (x1 := C) (fun _ => rfl) ?_
    obtain ⟨c2006, h⟩ := h
    refine xG.icmp (t := 46) (A := ¬ (C.2.1 0 (C.1 2) = 32)) rfl rfl (xe_c (xt_N c2006) (show ((nI 32) : Int32).toInt = 32 from by decide) (by dsimp only; omega)) (fun k2007 => ?_) (fun k2007 => ?_)
    · replace h := h.2 k2007
      refine xG.seg 4 (f' := (54, [(0, .ref 1)], [])) (x1 := (cN C 3 (C.1 2))) (fun _ => rfl) ?_
      refine xG.lv (lv := [(0, .ref 1)]) (lv' := [(0, .ref 1)]) rfl rfl rfl ?_
      obtain ⟨fu2008, h⟩ := h
      exact p_T_nextWord_54 L xs d Q fu2008 (cN C 3 (C.1 2)) h
    · replace h := h.1 (Classical.not_not.mp k2007)
      refine xG.seg 5 (f' := (40, [(0, .ref 1)], [.int ((nI (C.1 2)) + (nI 1)), .ref 1])) (x1 := C) (fun _ => rfl) ?_
      refine xG.conv (xe_add (C.1 2) 1) ?_
      refine xG.eqf (f' := (40, [(0, .ref 1)], [.int (nI (C.1 2 + 1)), .ref 1])) rfl ?_
      refine xG.seg 2 (f' := (8, [(0, .ref 1)], [])) (x1 := (cN C 2 (C.1 2 + 1))) (fun _ => rfl) ?_
      refine xG.lv (lv := [(0, .ref 1)]) (lv' := [(0, .ref 1)]) rfl rfl rfl ?_
      exact hK (cN C 2 (C.1 2 + 1)) h

def w_T_nextWord_8 : Nat → (xC) → (Nat → xC → Prop) → Prop
  | 0, _, _ => False
  | n + 1, C, Q => wi_T_nextWord_8 (fun C => w_T_nextWord_8 n C Q) C Q
theorem p_T_nextWord_8 (L : Nat) (xs : Nat → Int32) (d : Nat) (Q : Nat → xC → Prop) : ∀ (n : Nat) (C : xC), w_T_nextWord_8 n C Q → xG xec (xgt L xs) (d) xi_T_nextWord (8, [(0, .ref 1)], []) C (xPN Q)
  | 0, _, h => by cases h
  | n + 1, C, h => pi_T_nextWord_8 L xs d Q (fun C => w_T_nextWord_8 n C Q) (fun C h => p_T_nextWord_8 L xs d Q n C h) C h

def w_T_nextWord (C : xC) (Q : Nat → xC → Prop) : Prop := ∃ fu1 : Nat, w_T_nextWord_8 fu1 (cN C 2 (C.1 3)) Q
set_option maxRecDepth 8000 in
set_option maxHeartbeats 4000000 in
theorem p_T_nextWord (L : Nat) (xs : Nat → Int32) (d : Nat) (C : xC) (Q : Nat → xC → Prop) (h : w_T_nextWord C Q) : xG xec (xgt L xs) (d) xi_T_nextWord (0, [(0, .ref 1)], []) C (xPN Q) := by
  unfold w_T_nextWord at h
  refine xG.seg 4 (f' := (8, [(0, .ref 1)], [])) (x1 := (cN C 2 (C.1 3))) (fun _ => rfl) ?_
  refine xG.lv (lv := [(0, .ref 1)]) (lv' := [(0, .ref 1)]) rfl rfl rfl ?_
  obtain ⟨fu1, h⟩ := h
  exact p_T_nextWord_8 L xs d Q fu1 (cN C 2 (C.1 3)) h

def wi_T_key_27 (K : Int64 → Nat → xC → Prop) (l1 : Int64) (l3 : Nat) (C : xC) (Q : Int64 → xC → Prop) : Prop := (l3 < 2147483648 ∧ (C.1 2 < 2147483648 ∧ ((l3 < C.1 2 + 1 → Q l1 C) ∧ (¬ (l3 < C.1 2 + 1) → (1 ≤ l3 ∧ (l3 - 1 < 160 ∧ (1 ≤ l3 ∧ K ((l1 <<< ((nI 8).toInt64 &&& 63)) ||| ((nI (C.2.1 0 (l3 - 1))).toInt64)) (l3 - 1) C)))))))
set_option maxRecDepth 8000 in
set_option maxHeartbeats 4000000 in
theorem pi_T_key_27 (L : Nat) (xs : Nat → Int32) (d : Nat) (Q : Int64 → xC → Prop) (K : Int64 → Nat → xC → Prop) (hK : ∀ (l1 : Int64) (l3 : Nat) (C : xC), K l1 l3 C → xG xec (xgt L xs) (d) xi_T_key (27, [(0, .ref 1), (1, .long l1), (3, .int (nI l3 - nI 1))], []) C (xPL Q)) (l1 : Int64) (l3 : Nat) (C : xC) (h : wi_T_key_27 K l1 l3 C Q) : xG xec (xgt L xs) (d) xi_T_key (27, [(0, .ref 1), (1, .long l1), (3, .int (nI l3 - nI 1))], []) C (xPL Q) := by
  unfold wi_T_key_27 at h
  refine xG.seg 3 (f' := (32, [(0, .ref 1), (1, .long l1), (3, .int (nI l3 - nI 1))], [.int (nI (C.1 2)), .int (nI l3 - nI 1)])) (x1 := C) (fun _ => rfl) ?_
  obtain ⟨c2001, h⟩ := h
  obtain ⟨c2002, h⟩ := h
  refine xG.icmp (t := 54) (A := l3 < C.1 2 + 1) rfl rfl (xe_c (xt_Z c2001 (by decide)) (xt_N c2002) (by dsimp only; omega)) (fun k2003 => ?_) (fun k2003 => ?_)
  · replace h := h.1 k2003
    refine xG.seg 1 (f' := (55, [(0, .ref 1), (1, .long l1), (3, .int (nI l3 - nI 1))], [.long l1])) (x1 := C) (fun _ => rfl) ?_
    exact xG.fin (fun _ => rfl) (⟨_, rfl, h⟩)
  · replace h := h.2 k2003
    refine xG.seg 6 (f' := (44, [(0, .ref 1), (1, .long l1), (3, .int (nI l3 - nI 1))], [.int (nI l3 - nI 1), .ref 2, .long (l1 <<< ((nI 8).toInt64 &&& 63))])) (x1 := C) (fun _ => rfl) ?_
    obtain ⟨c2004, h⟩ := h
    refine xG.conv (xe_cut c2004) ?_
    obtain ⟨c2005, h⟩ := h
    refine xG.iald rfl (Or.inr ⟨rfl, rfl⟩) (by decide) (fun _ => rfl) (by decide) c2005 ?_
    refine xG.eqf (f' := (45, [(0, .ref 1), (1, .long l1), (3, .int (nI l3 - nI 1))], [.int (nI (C.2.1 0 (l3 - 1))), .long (l1 <<< ((nI 8).toInt64 &&& 63))])) rfl ?_
    refine xG.seg 3 (f' := (48, [(1, .long ((l1 <<< ((nI 8).toInt64 &&& 63)) ||| ((nI (C.2.1 0 (l3 - 1))).toInt64))), (0, .ref 1), (3, .int (nI l3 - nI 1))], [])) (x1 := C) (fun _ => rfl) ?_
    refine xG.iinc (v := (nI l3 - nI 1)) (w := (nI l3 - nI 2)) rfl rfl (by decide) (xe_dec l3 1) ?_
    refine xG.eqf (f' := (51, [(3, .int (nI l3 - nI 2)), (1, .long ((l1 <<< ((nI 8).toInt64 &&& 63)) ||| ((nI (C.2.1 0 (l3 - 1))).toInt64))), (0, .ref 1)], [])) rfl ?_
    refine xG.seg 1 (f' := (27, [(3, .int (nI l3 - nI 2)), (1, .long ((l1 <<< ((nI 8).toInt64 &&& 63)) ||| ((nI (C.2.1 0 (l3 - 1))).toInt64))), (0, .ref 1)], [])) (x1 := C) (fun _ => rfl) ?_
    obtain ⟨c2006, h⟩ := h
    refine xG.eqf (f' := (27, [(3, .int (nI (l3 - 1) - nI 1)), (1, .long ((l1 <<< ((nI 8).toInt64 &&& 63)) ||| ((nI (C.2.1 0 (l3 - 1))).toInt64))), (0, .ref 1)], [])) (by rw [xe_dn (k := 1) c2006]) ?_
    refine xG.lv (lv := [(0, .ref 1), (1, .long ((l1 <<< ((nI 8).toInt64 &&& 63)) ||| ((nI (C.2.1 0 (l3 - 1))).toInt64))), (3, .int (nI (l3 - 1) - nI 1))]) (lv' := [(3, .int (nI (l3 - 1) - nI 1)), (1, .long ((l1 <<< ((nI 8).toInt64 &&& 63)) ||| ((nI (C.2.1 0 (l3 - 1))).toInt64))), (0, .ref 1)]) rfl rfl rfl ?_
    exact hK ((l1 <<< ((nI 8).toInt64 &&& 63)) ||| ((nI (C.2.1 0 (l3 - 1))).toInt64)) (l3 - 1) C h

def w_T_key_27 : Nat → Int64 → Nat → (xC) → (Int64 → xC → Prop) → Prop
  | 0, _, _, _, _ => False
  | n + 1, l1, l3, C, Q => wi_T_key_27 (fun l1 l3 C => w_T_key_27 n l1 l3 C Q) l1 l3 C Q
theorem p_T_key_27 (L : Nat) (xs : Nat → Int32) (d : Nat) (Q : Int64 → xC → Prop) : ∀ (n : Nat) (l1 : Int64) (l3 : Nat) (C : xC), w_T_key_27 n l1 l3 C Q → xG xec (xgt L xs) (d) xi_T_key (27, [(0, .ref 1), (1, .long l1), (3, .int (nI l3 - nI 1))], []) C (xPL Q)
  | 0, _, _, _, h => by cases h
  | n + 1, l1, l3, C, h => pi_T_key_27 L xs d Q (fun l1 l3 C => w_T_key_27 n l1 l3 C Q) (fun l1 l3 C h => p_T_key_27 L xs d Q n l1 l3 C h) l1 l3 C h

def w_T_key (C : xC) (Q : Int64 → xC → Prop) : Prop := (C.1 3 < 2147483648 ∧ (C.1 2 < 2147483648 ∧ ((C.1 3 ≤ 8 + (C.1 2) → ∃ fu4 : Nat, w_T_key_27 fu4 ((Int64.ofNat 0)) (C.1 3) C Q) ∧ (¬ (C.1 3 ≤ 8 + (C.1 2)) → Q ((-1)) C))))
set_option maxRecDepth 8000 in
set_option maxHeartbeats 4000000 in
theorem p_T_key (L : Nat) (xs : Nat → Int32) (d : Nat) (C : xC) (Q : Int64 → xC → Prop) (h : w_T_key C Q) : xG xec (xgt L xs) (d) xi_T_key (0, [(0, .ref 1)], []) C (xPL Q) := by
  unfold w_T_key at h
  refine xG.seg 6 (f' := (11, [(0, .ref 1)], [.int (nI 8), .int (nI (C.1 3) - nI (C.1 2))])) (x1 := C) (fun _ => rfl) ?_
  obtain ⟨c1, h⟩ := h
  obtain ⟨c2, h⟩ := h
  refine xG.icmp (t := 18) (A := C.1 3 ≤ 8 + (C.1 2)) rfl rfl (xe_c (xt_Z c1 c2) (show ((nI 8) : Int32).toInt = 8 from by decide) (by dsimp only; omega)) (fun k3 => ?_) (fun k3 => ?_)
  · replace h := h.1 k3
    refine xG.seg 7 (f' := (27, [(3, .int (nI (C.1 3) - nI 1)), (1, .long ((Int64.ofNat 0))), (0, .ref 1)], [])) (x1 := C) (fun _ => rfl) ?_
    refine xG.lv (lv := [(0, .ref 1), (1, .long ((Int64.ofNat 0))), (3, .int (nI (C.1 3) - nI 1))]) (lv' := [(3, .int (nI (C.1 3) - nI 1)), (1, .long ((Int64.ofNat 0))), (0, .ref 1)]) rfl rfl rfl ?_
    obtain ⟨fu4, h⟩ := h
    exact p_T_key_27 L xs d Q fu4 ((Int64.ofNat 0)) (C.1 3) C h
  · replace h := h.2 k3
    refine xG.seg 1 (f' := (17, [(0, .ref 1)], [.long ((-1))])) (x1 := C) (fun _ => rfl) ?_
    exact xG.fin (fun _ => rfl) (⟨_, rfl, h⟩)

def wi_D_find_7 (K : Int64 → Nat → xC → Prop) (l1 : Int64) (l3 : Nat) (C : xC) (Q : Nat → xC → Prop) : Prop := (l3 < 2147483648 ∧ ((l3 < 1 → Q 0 C) ∧ (¬ (l3 < 1) → (1 ≤ l3 ∧ (l3 - 1 < 40 ∧ (∃ (a2006 : Nat) (D2007 : xDf), C.2.2.2.2.1 0 (l3 - 1) = some a2006 ∧ xD C a2006 D2007 ∧ ((D2007.1 = l1 → Q l3 C) ∧ (¬ (D2007.1 = l1) → (1 ≤ l3 ∧ K l1 (l3 - 1) C)))))))))
set_option maxRecDepth 8000 in
set_option maxHeartbeats 4000000 in
theorem pi_D_find_7 (L : Nat) (xs : Nat → Int32) (d : Nat) (Q : Nat → xC → Prop) (K : Int64 → Nat → xC → Prop) (hK : ∀ (l1 : Int64) (l3 : Nat) (C : xC), K l1 l3 C → xG xec (xgt L xs) (d) xi_D_find (7, [(0, .ref 3), (1, .long l1), (3, .int (nI l3 - nI 1))], []) C (xPM Q)) (l1 : Int64) (l3 : Nat) (C : xC) (h : wi_D_find_7 K l1 l3 C Q) : xG xec (xgt L xs) (d) xi_D_find (7, [(0, .ref 3), (1, .long l1), (3, .int (nI l3 - nI 1))], []) C (xPM Q) := by
  unfold wi_D_find_7 at h
  refine xG.seg 1 (f' := (8, [(0, .ref 3), (1, .long l1), (3, .int (nI l3 - nI 1))], [.int (nI l3 - nI 1)])) (x1 := C) (fun _ => rfl) ?_
  obtain ⟨c2001, h⟩ := h
  refine xG.ifc (t := 33) (A := l3 < 1) rfl rfl (xe_c (xt_Z c2001 (by decide)) (show (0 : Int32).toInt = 0 from by decide) (by dsimp only; omega)) (fun k2002 => ?_) (fun k2002 => ?_)
  · replace h := h.1 k2002
    refine xG.seg 1 (f' := (34, [(0, .ref 3), (1, .long l1), (3, .int (nI l3 - nI 1))], [.int (-1)])) (x1 := C) (fun _ => rfl) ?_
    exact xG.fin (fun _ => rfl) (⟨0, rfl, h⟩)
  · replace h := h.2 k2002
    refine xG.seg 3 (f' := (16, [(0, .ref 3), (1, .long l1), (3, .int (nI l3 - nI 1))], [.int (nI l3 - nI 1), .ref 4])) (x1 := C) (fun _ => rfl) ?_
    obtain ⟨c2003, h⟩ := h
    refine xG.conv (xe_cut c2003) ?_
    obtain ⟨c2004, h⟩ := h
    refine xG.aald rfl (Or.inr rfl) (by decide) (fun _ => rfl) (by decide) c2004 ?_
    refine xG.eqf (f' := (17, [(0, .ref 3), (1, .long l1), (3, .int (nI l3 - nI 1))], [va_rf (C.2.2.2.2.1 0 (l3 - 1))])) rfl ?_
    obtain ⟨a2006, D2007, c2005, hD2007, h⟩ := h
    refine xG.eqf (f' := (17, [(0, .ref 3), (1, .long l1), (3, .int (nI l3 - nI 1))], [.ref a2006])) (by rw [c2005]; rfl) ?_
    refine xG.geto rfl rfl hD2007.lt (fun y => hD2007.at0 y) rfl ?_
    refine xG.eqf (f' := (20, [(0, .ref 3), (1, .long l1), (3, .int (nI l3 - nI 1))], [.long D2007.1])) rfl ?_
    refine xG.seg 2 (f' := (22, [(0, .ref 3), (1, .long l1), (3, .int (nI l3 - nI 1))], [.int (lg_cmp D2007.1 l1)])) (x1 := C) (fun _ => rfl) ?_
    refine xG.ifc (t := 27) (A := ¬ (D2007.1 = l1)) rfl rfl (xe_lcn _ _) (fun k2008 => ?_) (fun k2008 => ?_)
    · replace h := h.2 k2008
      refine xG.iinc (v := (nI l3 - nI 1)) (w := (nI l3 - nI 2)) rfl rfl (by decide) (xe_dec l3 1) ?_
      refine xG.eqf (f' := (30, [(3, .int (nI l3 - nI 2)), (0, .ref 3), (1, .long l1)], [])) rfl ?_
      refine xG.seg 1 (f' := (7, [(3, .int (nI l3 - nI 2)), (0, .ref 3), (1, .long l1)], [])) (x1 := C) (fun _ => rfl) ?_
      obtain ⟨c2009, h⟩ := h
      refine xG.eqf (f' := (7, [(3, .int (nI (l3 - 1) - nI 1)), (0, .ref 3), (1, .long l1)], [])) (by rw [xe_dn (k := 1) c2009]) ?_
      refine xG.lv (lv := [(0, .ref 3), (1, .long l1), (3, .int (nI (l3 - 1) - nI 1))]) (lv' := [(3, .int (nI (l3 - 1) - nI 1)), (0, .ref 3), (1, .long l1)]) rfl rfl rfl ?_
      exact hK l1 (l3 - 1) C h
    · replace h := h.1 (Classical.not_not.mp k2008)
      refine xG.seg 1 (f' := (26, [(0, .ref 3), (1, .long l1), (3, .int (nI l3 - nI 1))], [.int (nI l3 - nI 1)])) (x1 := C) (fun _ => rfl) ?_
      exact xG.fin (fun _ => rfl) (⟨_, rfl, h⟩)

def w_D_find_7 : Nat → Int64 → Nat → (xC) → (Nat → xC → Prop) → Prop
  | 0, _, _, _, _ => False
  | n + 1, l1, l3, C, Q => wi_D_find_7 (fun l1 l3 C => w_D_find_7 n l1 l3 C Q) l1 l3 C Q
theorem p_D_find_7 (L : Nat) (xs : Nat → Int32) (d : Nat) (Q : Nat → xC → Prop) : ∀ (n : Nat) (l1 : Int64) (l3 : Nat) (C : xC), w_D_find_7 n l1 l3 C Q → xG xec (xgt L xs) (d) xi_D_find (7, [(0, .ref 3), (1, .long l1), (3, .int (nI l3 - nI 1))], []) C (xPM Q)
  | 0, _, _, _, h => by cases h
  | n + 1, l1, l3, C, h => pi_D_find_7 L xs d Q (fun l1 l3 C => w_D_find_7 n l1 l3 C Q) (fun l1 l3 C h => p_D_find_7 L xs d Q n l1 l3 C h) l1 l3 C h

def w_D_find (x1 : Int64) (C : xC) (Q : Nat → xC → Prop) : Prop := ∃ fu1 : Nat, w_D_find_7 fu1 x1 (C.1 4) C Q
set_option maxRecDepth 8000 in
set_option maxHeartbeats 4000000 in
theorem p_D_find (L : Nat) (xs : Nat → Int32) (d : Nat) (x1 : Int64) (C : xC) (Q : Nat → xC → Prop) (h : w_D_find x1 C Q) : xG xec (xgt L xs) (d) xi_D_find (0, [(0, .ref 3), (1, .long x1)], []) C (xPM Q) := by
  unfold w_D_find at h
  refine xG.seg 5 (f' := (7, [(3, .int (nI (C.1 4) - nI 1)), (0, .ref 3), (1, .long x1)], [])) (x1 := C) (fun _ => rfl) ?_
  refine xG.lv (lv := [(0, .ref 3), (1, .long x1), (3, .int (nI (C.1 4) - nI 1))]) (lv' := [(3, .int (nI (C.1 4) - nI 1)), (0, .ref 3), (1, .long x1)]) rfl rfl rfl ?_
  obtain ⟨fu1, h⟩ := h
  exact p_D_find_7 L xs d Q fu1 x1 (C.1 4) C h

def wi_W_withKey_2 (K : Int64 → Nat → xC → Prop) (l0 : Int64) (l2 : Nat) (C : xC) (Q : Option Nat → xC → Prop) : Prop := (l2 < 2147483648 ∧ ((55 ≤ l2 → Q none C) ∧ (¬ (55 ≤ l2) → (l2 < 55 ∧ (l2 < 55 ∧ (((xwY l2) = l0 → (l2 < 55 ∧ Q (some (1048576 + l2)) C)) ∧ (¬ ((xwY l2) = l0) → K l0 (l2 + 1) C)))))))
set_option maxRecDepth 8000 in
set_option maxHeartbeats 4000000 in
theorem pi_W_withKey_2 (L : Nat) (xs : Nat → Int32) (d : Nat) (Q : Option Nat → xC → Prop) (K : Int64 → Nat → xC → Prop) (hK : ∀ (l0 : Int64) (l2 : Nat) (C : xC), K l0 l2 C → xG xec (xgt L xs) (d) xi_W_withKey (2, [(0, .long l0), (2, .int (nI l2))], []) C (xPO Q)) (l0 : Int64) (l2 : Nat) (C : xC) (h : wi_W_withKey_2 K l0 l2 C Q) : xG xec (xgt L xs) (d) xi_W_withKey (2, [(0, .long l0), (2, .int (nI l2))], []) C (xPO Q) := by
  unfold wi_W_withKey_2 at h
  refine xG.seg 2 (f' := (6, [(0, .long l0), (2, .int (nI l2))], [.ref 1048637, .int (nI l2)])) (x1 := C) (fun _ => rfl) ?_
  refine xG.seg 1 (f' := (7, [(0, .long l0), (2, .int (nI l2))], [.int (nI 55), .int (nI l2)])) (x1 := C) (fun _ => rfl) ?_
  obtain ⟨c2001, h⟩ := h
  refine xG.icmp (t := 35) (A := 55 ≤ l2) rfl rfl (xe_c (xt_N c2001) (show ((nI 55) : Int32).toInt = 55 from by decide) (by dsimp only; omega)) (fun k2002 => ?_) (fun k2002 => ?_)
  · replace h := h.1 k2002
    refine xG.seg 1 (f' := (36, [(0, .long l0), (2, .int (nI l2))], [.null])) (x1 := C) (fun _ => rfl) ?_
    exact xG.aret (q := none) rfl ⟨_, rfl⟩ ⟨_, rfl, h⟩
  · replace h := h.2 k2002
    refine xG.seg 2 (f' := (14, [(0, .long l0), (2, .int (nI l2))], [.int (nI l2), .ref 1048637])) (x1 := C) (fun _ => rfl) ?_
    obtain ⟨c2003, h⟩ := h
    refine xG.cald rfl (Or.inr ⟨rfl, rfl⟩) (by decide) rfl (by decide) c2003 ?_
    refine xG.eqf (f' := (15, [(0, .long l0), (2, .int (nI l2))], [.ref (1048576 + l2)])) rfl ?_
    obtain ⟨c2004, h⟩ := h
    refine xG.getc rfl (by omega) (xgc_0 (l := xg_W) (ix := 194) rfl c2004) ?_
    refine xG.eqf (f' := (18, [(0, .long l0), (2, .int (nI l2))], [.long (xwY l2)])) rfl ?_
    refine xG.seg 2 (f' := (20, [(0, .long l0), (2, .int (nI l2))], [.int (lg_cmp (xwY l2) l0)])) (x1 := C) (fun _ => rfl) ?_
    refine xG.ifc (t := 29) (A := ¬ ((xwY l2) = l0)) rfl rfl (xe_lcn _ _) (fun k2005 => ?_) (fun k2005 => ?_)
    · replace h := h.2 k2005
      refine xG.iinc (v := (nI l2)) (w := (nI (l2 + 1))) rfl rfl (by decide) (xe_add l2 1) ?_
      refine xG.eqf (f' := (32, [(2, .int (nI (l2 + 1))), (0, .long l0)], [])) rfl ?_
      refine xG.seg 1 (f' := (2, [(2, .int (nI (l2 + 1))), (0, .long l0)], [])) (x1 := C) (fun _ => rfl) ?_
      refine xG.lv (lv := [(0, .long l0), (2, .int (nI (l2 + 1)))]) (lv' := [(2, .int (nI (l2 + 1))), (0, .long l0)]) rfl rfl rfl ?_
      exact hK l0 (l2 + 1) C h
    · replace h := h.1 (Classical.not_not.mp k2005)
      refine xG.seg 2 (f' := (27, [(0, .long l0), (2, .int (nI l2))], [.int (nI l2), .ref 1048637])) (x1 := C) (fun _ => rfl) ?_
      obtain ⟨c2006, h⟩ := h
      refine xG.cald rfl (Or.inr ⟨rfl, rfl⟩) (by decide) rfl (by decide) c2006 ?_
      refine xG.eqf (f' := (28, [(0, .long l0), (2, .int (nI l2))], [.ref (1048576 + l2)])) rfl ?_
      exact xG.aret (q := (some (1048576 + l2))) rfl ⟨_, rfl⟩ ⟨_, rfl, h⟩

def w_W_withKey_2 : Nat → Int64 → Nat → (xC) → (Option Nat → xC → Prop) → Prop
  | 0, _, _, _, _ => False
  | n + 1, l0, l2, C, Q => wi_W_withKey_2 (fun l0 l2 C => w_W_withKey_2 n l0 l2 C Q) l0 l2 C Q
theorem p_W_withKey_2 (L : Nat) (xs : Nat → Int32) (d : Nat) (Q : Option Nat → xC → Prop) : ∀ (n : Nat) (l0 : Int64) (l2 : Nat) (C : xC), w_W_withKey_2 n l0 l2 C Q → xG xec (xgt L xs) (d) xi_W_withKey (2, [(0, .long l0), (2, .int (nI l2))], []) C (xPO Q)
  | 0, _, _, _, h => by cases h
  | n + 1, l0, l2, C, h => pi_W_withKey_2 L xs d Q (fun l0 l2 C => w_W_withKey_2 n l0 l2 C Q) (fun l0 l2 C h => p_W_withKey_2 L xs d Q n l0 l2 C h) l0 l2 C h

def w_W_withKey (x1 : Int64) (C : xC) (Q : Option Nat → xC → Prop) : Prop := ∃ fu1 : Nat, w_W_withKey_2 fu1 x1 0 C Q
set_option maxRecDepth 8000 in
set_option maxHeartbeats 4000000 in
theorem p_W_withKey (L : Nat) (xs : Nat → Int32) (d : Nat) (x1 : Int64) (C : xC) (Q : Option Nat → xC → Prop) (h : w_W_withKey x1 C Q) : xG xec (xgt L xs) (d) xi_W_withKey (0, [(0, .long x1)], []) C (xPO Q) := by
  unfold w_W_withKey at h
  refine xG.seg 2 (f' := (2, [(2, .int (nI 0)), (0, .long x1)], [])) (x1 := C) (fun _ => rfl) ?_
  refine xG.lv (lv := [(0, .long x1), (2, .int (nI 0))]) (lv' := [(2, .int (nI 0)), (0, .long x1)]) rfl rfl rfl ?_
  obtain ⟨fu1, h⟩ := h
  exact p_W_withKey_2 L xs d Q fu1 x1 0 C h

def w_T_firstDigit (C : xC) (Q : Nat → xC → Prop) : Prop := (C.1 2 < 2147483648 ∧ (C.1 3 < 2147483648 ∧ ((C.1 3 ≤ C.1 2 → Q (C.1 2) C) ∧ (¬ (C.1 3 ≤ C.1 2) → (C.1 2 < 160 ∧ (C.2.1 0 (C.1 2) < 2147483648 ∧ ((C.2.1 0 (C.1 2) = 45 → Q (C.1 2 + 1) C) ∧ (¬ (C.2.1 0 (C.1 2) = 45) → Q (C.1 2) C))))))))
set_option maxRecDepth 8000 in
set_option maxHeartbeats 4000000 in
theorem p_T_firstDigit (L : Nat) (xs : Nat → Int32) (d : Nat) (C : xC) (Q : Nat → xC → Prop) (h : w_T_firstDigit C Q) : xG xec (xgt L xs) (d) xi_T_firstDigit (0, [(0, .ref 1)], []) C (xPN Q) := by
  unfold w_T_firstDigit at h
  refine xG.seg 4 (f' := (8, [(0, .ref 1)], [.int (nI (C.1 3)), .int (nI (C.1 2))])) (x1 := C) (fun _ => rfl) ?_
  obtain ⟨c1, h⟩ := h
  obtain ⟨c2, h⟩ := h
  refine xG.icmp (t := 34) (A := C.1 3 ≤ C.1 2) rfl rfl (xe_c (xt_N c1) (xt_N c2) (by dsimp only; omega)) (fun k3 => ?_) (fun k3 => ?_)
  · replace h := h.1 k3
    refine xG.seg 2 (f' := (38, [(0, .ref 1)], [.int (nI (C.1 2))])) (x1 := C) (fun _ => rfl) ?_
    exact xG.fin (fun _ => rfl) (⟨_, rfl, h⟩)
  · replace h := h.2 k3
    refine xG.seg 4 (f' := (19, [(0, .ref 1)], [.int (nI (C.1 2)), .ref 2])) (x1 := C) (fun _ => rfl) ?_
    obtain ⟨c4, h⟩ := h
    refine xG.iald rfl (Or.inr ⟨rfl, rfl⟩) (by decide) (fun _ => rfl) (by decide) c4 ?_
    refine xG.eqf (f' := (20, [(0, .ref 1)], [.int (nI (C.2.1 0 (C.1 2)))])) rfl ?_
    refine xG.seg 1 (f' := (22, [(0, .ref 1)], [.int (nI 45), .int (nI (C.2.1 0 (C.1 2)))])) (x1 := C) (fun _ => rfl) ?_
    obtain ⟨c5, h⟩ := h
    refine xG.icmp (t := 34) (A := ¬ (C.2.1 0 (C.1 2) = 45)) rfl rfl (xe_c (xt_N c5) (show ((nI 45) : Int32).toInt = 45 from by decide) (by dsimp only; omega)) (fun k6 => ?_) (fun k6 => ?_)
    · replace h := h.2 k6
      refine xG.seg 2 (f' := (38, [(0, .ref 1)], [.int (nI (C.1 2))])) (x1 := C) (fun _ => rfl) ?_
      exact xG.fin (fun _ => rfl) (⟨_, rfl, h⟩)
    · replace h := h.1 (Classical.not_not.mp k6)
      refine xG.seg 4 (f' := (31, [(0, .ref 1)], [.int ((nI (C.1 2)) + (nI 1))])) (x1 := C) (fun _ => rfl) ?_
      refine xG.conv (xe_add (C.1 2) 1) ?_
      refine xG.eqf (f' := (31, [(0, .ref 1)], [.int (nI (C.1 2 + 1))])) rfl ?_
      refine xG.seg 1 (f' := (38, [(0, .ref 1)], [.int (nI (C.1 2 + 1))])) (x1 := C) (fun _ => rfl) ?_
      exact xG.fin (fun _ => rfl) (⟨_, rfl, h⟩)

def wi_T_isNumber_28 (K : Nat → xC → Prop) (l2 : Nat) (C : xC) (Q : Nat → xC → Prop) : Prop := (l2 < 2147483648 ∧ (C.1 3 < 2147483648 ∧ ((C.1 3 ≤ l2 → Q 1 C) ∧ (¬ (C.1 3 ≤ l2) → (l2 < 160 ∧ (C.2.1 0 l2 < 2147483648 ∧ ((C.2.1 0 l2 < 48 → Q 0 C) ∧ (¬ (C.2.1 0 l2 < 48) → (l2 < 160 ∧ (C.2.1 0 l2 < 2147483648 ∧ ((C.2.1 0 l2 ≤ 57 → K (l2 + 1) C) ∧ (¬ (C.2.1 0 l2 ≤ 57) → Q 0 C))))))))))))
set_option maxRecDepth 8000 in
set_option maxHeartbeats 4000000 in
theorem pi_T_isNumber_28 (L : Nat) (xs : Nat → Int32) (d : Nat) (Q : Nat → xC → Prop) (K : Nat → xC → Prop) (hK : ∀ (l2 : Nat) (C : xC), K l2 C → xG xec (xgt L xs) (d + 1) xi_T_isNumber (28, [(0, .ref 1), (2, .int (nI l2))], []) C (xPN Q)) (l2 : Nat) (C : xC) (h : wi_T_isNumber_28 K l2 C Q) : xG xec (xgt L xs) (d + 1) xi_T_isNumber (28, [(0, .ref 1), (2, .int (nI l2))], []) C (xPN Q) := by
  unfold wi_T_isNumber_28 at h
  refine xG.seg 3 (f' := (33, [(0, .ref 1), (2, .int (nI l2))], [.int (nI (C.1 3)), .int (nI l2)])) (x1 := C) (fun _ => rfl) ?_
  obtain ⟨c2001, h⟩ := h
  obtain ⟨c2002, h⟩ := h
  refine xG.icmp (t := 66) (A := C.1 3 ≤ l2) rfl rfl (xe_c (xt_N c2001) (xt_N c2002) (by dsimp only; omega)) (fun k2003 => ?_) (fun k2003 => ?_)
  · replace h := h.1 k2003
    refine xG.seg 1 (f' := (67, [(0, .ref 1), (2, .int (nI l2))], [.int (nI 1)])) (x1 := C) (fun _ => rfl) ?_
    exact xG.fin (fun _ => rfl) (⟨_, rfl, h⟩)
  · replace h := h.2 k2003
    refine xG.seg 3 (f' := (41, [(0, .ref 1), (2, .int (nI l2))], [.int (nI l2), .ref 2])) (x1 := C) (fun _ => rfl) ?_
    obtain ⟨c2004, h⟩ := h
    refine xG.iald rfl (Or.inr ⟨rfl, rfl⟩) (by decide) (fun _ => rfl) (by decide) c2004 ?_
    refine xG.eqf (f' := (42, [(0, .ref 1), (2, .int (nI l2))], [.int (nI (C.2.1 0 l2))])) rfl ?_
    refine xG.seg 1 (f' := (44, [(0, .ref 1), (2, .int (nI l2))], [.int (nI 48), .int (nI (C.2.1 0 l2))])) (x1 := C) (fun _ => rfl) ?_
    obtain ⟨c2005, h⟩ := h
    refine xG.icmp (t := 58) (A := C.2.1 0 l2 < 48) rfl rfl (xe_c (xt_N c2005) (show ((nI 48) : Int32).toInt = 48 from by decide) (by dsimp only; omega)) (fun k2006 => ?_) (fun k2006 => ?_)
    · replace h := h.1 k2006
      refine xG.seg 1 (f' := (59, [(0, .ref 1), (2, .int (nI l2))], [.int (nI 0)])) (x1 := C) (fun _ => rfl) ?_
      exact xG.fin (fun _ => rfl) (⟨_, rfl, h⟩)
    · replace h := h.2 k2006
      refine xG.seg 3 (f' := (52, [(0, .ref 1), (2, .int (nI l2))], [.int (nI l2), .ref 2])) (x1 := C) (fun _ => rfl) ?_
      obtain ⟨c2007, h⟩ := h
      refine xG.iald rfl (Or.inr ⟨rfl, rfl⟩) (by decide) (fun _ => rfl) (by decide) c2007 ?_
      refine xG.eqf (f' := (53, [(0, .ref 1), (2, .int (nI l2))], [.int (nI (C.2.1 0 l2))])) rfl ?_
      refine xG.seg 1 (f' := (55, [(0, .ref 1), (2, .int (nI l2))], [.int (nI 57), .int (nI (C.2.1 0 l2))])) (x1 := C) (fun _ => rfl) ?_
      obtain ⟨c2008, h⟩ := h
      refine xG.icmp (t := 60) (A := C.2.1 0 l2 ≤ 57) rfl rfl (xe_c (xt_N c2008) (show ((nI 57) : Int32).toInt = 57 from by decide) (by dsimp only; omega)) (fun k2009 => ?_) (fun k2009 => ?_)
      · replace h := h.1 k2009
        refine xG.iinc (v := (nI l2)) (w := (nI (l2 + 1))) rfl rfl (by decide) (xe_add l2 1) ?_
        refine xG.eqf (f' := (63, [(2, .int (nI (l2 + 1))), (0, .ref 1)], [])) rfl ?_
        refine xG.seg 1 (f' := (28, [(2, .int (nI (l2 + 1))), (0, .ref 1)], [])) (x1 := C) (fun _ => rfl) ?_
        refine xG.lv (lv := [(0, .ref 1), (2, .int (nI (l2 + 1)))]) (lv' := [(2, .int (nI (l2 + 1))), (0, .ref 1)]) rfl rfl rfl ?_
        exact hK (l2 + 1) C h
      · replace h := h.2 k2009
        refine xG.seg 1 (f' := (59, [(0, .ref 1), (2, .int (nI l2))], [.int (nI 0)])) (x1 := C) (fun _ => rfl) ?_
        exact xG.fin (fun _ => rfl) (⟨_, rfl, h⟩)

def w_T_isNumber_28 : Nat → Nat → (xC) → (Nat → xC → Prop) → Prop
  | 0, _, _, _ => False
  | n + 1, l2, C, Q => wi_T_isNumber_28 (fun l2 C => w_T_isNumber_28 n l2 C Q) l2 C Q
theorem p_T_isNumber_28 (L : Nat) (xs : Nat → Int32) (d : Nat) (Q : Nat → xC → Prop) : ∀ (n : Nat) (l2 : Nat) (C : xC), w_T_isNumber_28 n l2 C Q → xG xec (xgt L xs) (d + 1) xi_T_isNumber (28, [(0, .ref 1), (2, .int (nI l2))], []) C (xPN Q)
  | 0, _, _, h => by cases h
  | n + 1, l2, C, h => pi_T_isNumber_28 L xs d Q (fun l2 C => w_T_isNumber_28 n l2 C Q) (fun l2 C h => p_T_isNumber_28 L xs d Q n l2 C h) l2 C h

def w_T_isNumber (C : xC) (Q : Nat → xC → Prop) : Prop := w_T_firstDigit C (fun r2 C1 => (r2 < 2147483648 ∧ (C1.1 3 < 2147483648 ∧ ((r2 = C1.1 3 → Q 0 C1) ∧ (¬ (r2 = C1.1 3) → (C1.1 3 < 2147483648 ∧ (r2 < 2147483648 ∧ ((C1.1 3 ≤ 9 + r2 → ∃ fu9 : Nat, w_T_isNumber_28 fu9 r2 C1 Q) ∧ (¬ (C1.1 3 ≤ 9 + r2) → Q 0 C1)))))))))
set_option maxRecDepth 8000 in
set_option maxHeartbeats 4000000 in
theorem p_T_isNumber (L : Nat) (xs : Nat → Int32) (d : Nat) (C : xC) (Q : Nat → xC → Prop) (h : w_T_isNumber C Q) : xG xec (xgt L xs) (d + 1) xi_T_isNumber (0, [(0, .ref 1)], []) C (xPN Q) := by
  unfold w_T_isNumber at h
  refine xG.seg 1 (f' := (1, [(0, .ref 1)], [.ref 1])) (x1 := C) (fun _ => rfl) ?_
  refine xG.call (d := d) (vs := [.ref 1]) (g := (1, [(0, .ref 1)], [])) (fun _ => rfl) rfl (p_T_firstDigit L xs d C _ h) ?_
  clear h
  rintro _ C1 ⟨r2, rfl, h⟩
  refine ⟨_, rfl, ?_⟩
  refine xG.eqf (f' := (4, [(0, .ref 1)], [.int (nI r2)])) rfl ?_
  refine xG.seg 4 (f' := (10, [(1, .int (nI r2)), (0, .ref 1)], [.int (nI (C1.1 3)), .int (nI r2)])) (x1 := C1) (fun _ => rfl) ?_
  obtain ⟨c3, h⟩ := h
  obtain ⟨c4, h⟩ := h
  refine xG.icmp (t := 24) (A := r2 = C1.1 3) rfl rfl (xe_c (xt_N c3) (xt_N c4) (by dsimp only; omega)) (fun k5 => ?_) (fun k5 => ?_)
  · replace h := h.1 k5
    refine xG.seg 1 (f' := (25, [(1, .int (nI r2)), (0, .ref 1)], [.int (nI 0)])) (x1 := C1) (fun _ => rfl) ?_
    exact xG.fin (fun _ => rfl) (⟨_, rfl, h⟩)
  · replace h := h.2 k5
    refine xG.seg 5 (f' := (21, [(1, .int (nI r2)), (0, .ref 1)], [.int (nI 9), .int (nI (C1.1 3) - nI r2)])) (x1 := C1) (fun _ => rfl) ?_
    obtain ⟨c6, h⟩ := h
    obtain ⟨c7, h⟩ := h
    refine xG.icmp (t := 26) (A := C1.1 3 ≤ 9 + r2) rfl rfl (xe_c (xt_Z c6 c7) (show ((nI 9) : Int32).toInt = 9 from by decide) (by dsimp only; omega)) (fun k8 => ?_) (fun k8 => ?_)
    · replace h := h.1 k8
      refine xG.seg 2 (f' := (28, [(2, .int (nI r2)), (1, .int (nI r2)), (0, .ref 1)], [])) (x1 := C1) (fun _ => rfl) ?_
      refine xG.lv (lv := [(0, .ref 1), (2, .int (nI r2))]) (lv' := [(2, .int (nI r2)), (1, .int (nI r2)), (0, .ref 1)]) rfl rfl rfl ?_
      obtain ⟨fu9, h⟩ := h
      exact p_T_isNumber_28 L xs d Q fu9 r2 C1 h
    · replace h := h.2 k8
      refine xG.seg 1 (f' := (25, [(1, .int (nI r2)), (0, .ref 1)], [.int (nI 0)])) (x1 := C1) (fun _ => rfl) ?_
      exact xG.fin (fun _ => rfl) (⟨_, rfl, h⟩)

def wi_T_number_9 (K : Nat → Nat → Nat → xC → Prop) (l1 : Nat) (l2 : Nat) (l3 : Nat) (C : xC) (Q : Int32 → xC → Prop) : Prop := (l3 < 2147483648 ∧ (C.1 3 < 2147483648 ∧ ((C.1 3 ≤ l3 → (l2 < 2147483648 ∧ (C.1 2 < 2147483648 ∧ ((l2 = C.1 2 → Q (nI l1) C) ∧ (¬ (l2 = C.1 2) → Q (-(nI l1)) C))))) ∧ (¬ (C.1 3 ≤ l3) → (l3 < 160 ∧ (48 ≤ l1 * 10 + (C.2.1 0 l3) ∧ K (l1 * 10 + (C.2.1 0 l3) - 48) l2 (l3 + 1) C))))))
set_option maxRecDepth 8000 in
set_option maxHeartbeats 4000000 in
theorem pi_T_number_9 (L : Nat) (xs : Nat → Int32) (d : Nat) (Q : Int32 → xC → Prop) (K : Nat → Nat → Nat → xC → Prop) (hK : ∀ (l1 : Nat) (l2 : Nat) (l3 : Nat) (C : xC), K l1 l2 l3 C → xG xec (xgt L xs) (d + 1) xi_T_number (9, [(0, .ref 1), (1, .int (nI l1)), (2, .int (nI l2)), (3, .int (nI l3))], []) C (xPI Q)) (l1 : Nat) (l2 : Nat) (l3 : Nat) (C : xC) (h : wi_T_number_9 K l1 l2 l3 C Q) : xG xec (xgt L xs) (d + 1) xi_T_number (9, [(0, .ref 1), (1, .int (nI l1)), (2, .int (nI l2)), (3, .int (nI l3))], []) C (xPI Q) := by
  unfold wi_T_number_9 at h
  refine xG.seg 3 (f' := (14, [(0, .ref 1), (1, .int (nI l1)), (2, .int (nI l2)), (3, .int (nI l3))], [.int (nI (C.1 3)), .int (nI l3)])) (x1 := C) (fun _ => rfl) ?_
  obtain ⟨c2001, h⟩ := h
  obtain ⟨c2002, h⟩ := h
  refine xG.icmp (t := 38) (A := C.1 3 ≤ l3) rfl rfl (xe_c (xt_N c2001) (xt_N c2002) (by dsimp only; omega)) (fun k2003 => ?_) (fun k2003 => ?_)
  · replace h := h.1 k2003
    refine xG.seg 3 (f' := (43, [(0, .ref 1), (1, .int (nI l1)), (2, .int (nI l2)), (3, .int (nI l3))], [.int (nI (C.1 2)), .int (nI l2)])) (x1 := C) (fun _ => rfl) ?_
    obtain ⟨c2004, h⟩ := h
    obtain ⟨c2005, h⟩ := h
    refine xG.icmp (t := 50) (A := ¬ (l2 = C.1 2)) rfl rfl (xe_c (xt_N c2004) (xt_N c2005) (by dsimp only; omega)) (fun k2006 => ?_) (fun k2006 => ?_)
    · replace h := h.2 k2006
      refine xG.seg 2 (f' := (52, [(0, .ref 1), (1, .int (nI l1)), (2, .int (nI l2)), (3, .int (nI l3))], [.int (-(nI l1))])) (x1 := C) (fun _ => rfl) ?_
      exact xG.fin (fun _ => rfl) (⟨(-(nI l1)), rfl, h⟩)
    · replace h := h.1 (Classical.not_not.mp k2006)
      refine xG.seg 2 (f' := (52, [(0, .ref 1), (1, .int (nI l1)), (2, .int (nI l2)), (3, .int (nI l3))], [.int (nI l1)])) (x1 := C) (fun _ => rfl) ?_
      exact xG.fin (fun _ => rfl) (⟨(nI l1), rfl, h⟩)
  · replace h := h.2 k2003
    refine xG.seg 3 (f' := (21, [(0, .ref 1), (1, .int (nI l1)), (2, .int (nI l2)), (3, .int (nI l3))], [.int ((nI l1) * (nI 10))])) (x1 := C) (fun _ => rfl) ?_
    refine xG.conv (xe_mul _ _) ?_
    refine xG.seg 3 (f' := (26, [(0, .ref 1), (1, .int (nI l1)), (2, .int (nI l2)), (3, .int (nI l3))], [.int (nI l3), .ref 2, .int (nI (l1 * 10))])) (x1 := C) (fun _ => rfl) ?_
    obtain ⟨c2007, h⟩ := h
    refine xG.iald rfl (Or.inr ⟨rfl, rfl⟩) (by decide) (fun _ => rfl) (by decide) c2007 ?_
    refine xG.eqf (f' := (27, [(0, .ref 1), (1, .int (nI l1)), (2, .int (nI l2)), (3, .int (nI l3))], [.int (nI (C.2.1 0 l3)), .int (nI (l1 * 10))])) rfl ?_
    refine xG.seg 3 (f' := (31, [(0, .ref 1), (1, .int (nI l1)), (2, .int (nI l2)), (3, .int (nI l3))], [.int ((nI (l1 * 10)) + (nI (C.2.1 0 l3) - nI 48))])) (x1 := C) (fun _ => rfl) ?_
    refine xG.conv (xe_nz _ _ _) ?_
    refine xG.eqf (f' := (31, [(0, .ref 1), (1, .int (nI l1)), (2, .int (nI l2)), (3, .int (nI l3))], [.int (nI (l1 * 10 + (C.2.1 0 l3)) - nI 48)])) rfl ?_
    refine xG.seg 1 (f' := (32, [(1, .int (nI (l1 * 10 + (C.2.1 0 l3)) - nI 48)), (0, .ref 1), (2, .int (nI l2)), (3, .int (nI l3))], [])) (x1 := C) (fun _ => rfl) ?_
    refine xG.iinc (v := (nI l3)) (w := (nI (l3 + 1))) rfl rfl (by decide) (xe_add l3 1) ?_
    refine xG.eqf (f' := (35, [(3, .int (nI (l3 + 1))), (1, .int (nI (l1 * 10 + (C.2.1 0 l3)) - nI 48)), (0, .ref 1), (2, .int (nI l2))], [])) rfl ?_
    refine xG.seg 1 (f' := (9, [(3, .int (nI (l3 + 1))), (1, .int (nI (l1 * 10 + (C.2.1 0 l3)) - nI 48)), (0, .ref 1), (2, .int (nI l2))], [])) (x1 := C) (fun _ => rfl) ?_
    obtain ⟨c2008, h⟩ := h
    refine xG.eqf (f' := (9, [(3, .int (nI (l3 + 1))), (1, .int (nI (l1 * 10 + (C.2.1 0 l3) - 48))), (0, .ref 1), (2, .int (nI l2))], [])) (by rw [xe_cut c2008]) ?_
    refine xG.lv (lv := [(0, .ref 1), (1, .int (nI (l1 * 10 + (C.2.1 0 l3) - 48))), (2, .int (nI l2)), (3, .int (nI (l3 + 1)))]) (lv' := [(3, .int (nI (l3 + 1))), (1, .int (nI (l1 * 10 + (C.2.1 0 l3) - 48))), (0, .ref 1), (2, .int (nI l2))]) rfl rfl rfl ?_
    exact hK (l1 * 10 + (C.2.1 0 l3) - 48) l2 (l3 + 1) C h

def w_T_number_9 : Nat → Nat → Nat → Nat → (xC) → (Int32 → xC → Prop) → Prop
  | 0, _, _, _, _, _ => False
  | n + 1, l1, l2, l3, C, Q => wi_T_number_9 (fun l1 l2 l3 C => w_T_number_9 n l1 l2 l3 C Q) l1 l2 l3 C Q
theorem p_T_number_9 (L : Nat) (xs : Nat → Int32) (d : Nat) (Q : Int32 → xC → Prop) : ∀ (n : Nat) (l1 : Nat) (l2 : Nat) (l3 : Nat) (C : xC), w_T_number_9 n l1 l2 l3 C Q → xG xec (xgt L xs) (d + 1) xi_T_number (9, [(0, .ref 1), (1, .int (nI l1)), (2, .int (nI l2)), (3, .int (nI l3))], []) C (xPI Q)
  | 0, _, _, _, _, h => by cases h
  | n + 1, l1, l2, l3, C, h => pi_T_number_9 L xs d Q (fun l1 l2 l3 C => w_T_number_9 n l1 l2 l3 C Q) (fun l1 l2 l3 C h => p_T_number_9 L xs d Q n l1 l2 l3 C h) l1 l2 l3 C h

def w_T_number (C : xC) (Q : Int32 → xC → Prop) : Prop := w_T_firstDigit C (fun r2 C1 => ∃ fu3 : Nat, w_T_number_9 fu3 0 r2 r2 C1 Q)
set_option maxRecDepth 8000 in
set_option maxHeartbeats 4000000 in
theorem p_T_number (L : Nat) (xs : Nat → Int32) (d : Nat) (C : xC) (Q : Int32 → xC → Prop) (h : w_T_number C Q) : xG xec (xgt L xs) (d + 1) xi_T_number (0, [(0, .ref 1)], []) C (xPI Q) := by
  unfold w_T_number at h
  refine xG.seg 3 (f' := (3, [(1, .int (nI 0)), (0, .ref 1)], [.ref 1])) (x1 := C) (fun _ => rfl) ?_
  refine xG.call (d := d) (vs := [.ref 1]) (g := (3, [(1, .int (nI 0)), (0, .ref 1)], [])) (fun _ => rfl) rfl (p_T_firstDigit L xs d C _ h) ?_
  clear h
  rintro _ C1 ⟨r2, rfl, h⟩
  refine ⟨_, rfl, ?_⟩
  refine xG.eqf (f' := (6, [(1, .int (nI 0)), (0, .ref 1)], [.int (nI r2)])) rfl ?_
  refine xG.seg 3 (f' := (9, [(3, .int (nI r2)), (2, .int (nI r2)), (1, .int (nI 0)), (0, .ref 1)], [])) (x1 := C1) (fun _ => rfl) ?_
  refine xG.lv (lv := [(0, .ref 1), (1, .int (nI 0)), (2, .int (nI r2)), (3, .int (nI r2))]) (lv' := [(3, .int (nI r2)), (2, .int (nI r2)), (1, .int (nI 0)), (0, .ref 1)]) rfl rfl rfl ?_
  obtain ⟨fu3, h⟩ := h
  exact p_T_number_9 L xs d Q fu3 0 r2 r2 C1 h

def w_M_takeStep (C : xC) (Q : Nat → xC → Prop) : Prop := (C.1 14 < 2147483648 ∧ ((C.1 14 = 600 → Q 0 C) ∧ (¬ (C.1 14 = 600) → Q 1 (cN C 14 (C.1 14 + 1)))))
set_option maxRecDepth 8000 in
set_option maxHeartbeats 4000000 in
theorem p_M_takeStep (L : Nat) (xs : Nat → Int32) (d : Nat) (C : xC) (Q : Nat → xC → Prop) (h : w_M_takeStep C Q) : xG xec (xgt L xs) (d) xi_M_takeStep (0, [(0, .ref 12)], []) C (xPN Q) := by
  unfold w_M_takeStep at h
  refine xG.seg 3 (f' := (7, [(0, .ref 12)], [.int (nI 600), .int (nI (C.1 14))])) (x1 := C) (fun _ => rfl) ?_
  obtain ⟨c1, h⟩ := h
  refine xG.icmp (t := 12) (A := ¬ (C.1 14 = 600)) rfl rfl (xe_c (xt_N c1) (show ((nI 600) : Int32).toInt = 600 from by decide) (by dsimp only; omega)) (fun k2 => ?_) (fun k2 => ?_)
  · replace h := h.2 k2
    refine xG.seg 5 (f' := (19, [(0, .ref 12)], [.int ((nI (C.1 14)) + (nI 1)), .ref 12])) (x1 := C) (fun _ => rfl) ?_
    refine xG.conv (xe_add (C.1 14) 1) ?_
    refine xG.eqf (f' := (19, [(0, .ref 12)], [.int (nI (C.1 14 + 1)), .ref 12])) rfl ?_
    refine xG.seg 2 (f' := (23, [(0, .ref 12)], [.int (nI 1)])) (x1 := (cN C 14 (C.1 14 + 1))) (fun _ => rfl) ?_
    exact xG.fin (fun _ => rfl) (⟨_, rfl, h⟩)
  · replace h := h.1 (Classical.not_not.mp k2)
    refine xG.seg 1 (f' := (11, [(0, .ref 12)], [.int (nI 0)])) (x1 := C) (fun _ => rfl) ?_
    exact xG.fin (fun _ => rfl) (⟨_, rfl, h⟩)

def w_M_countLoads (x1 : Nat) (x2 : Nat) (C : xC) (Q : xC → Prop) : Prop := (x1 ≤ C.1 9 + x2 ∧ (x2 < 2147483648 ∧ (C.1 9 + x2 - x1 < 2147483648 ∧ Q (cN C 15 (C.1 15 + (min x2 (C.1 9 + x2 - x1)))))))
set_option maxRecDepth 8000 in
set_option maxHeartbeats 4000000 in
theorem p_M_countLoads (L : Nat) (xs : Nat → Int32) (d : Nat) (x1 : Nat) (x2 : Nat) (C : xC) (Q : xC → Prop) (h : w_M_countLoads x1 x2 C Q) : xG xec (xgt L xs) (d + 5) xi_M_countLoads (0, [(0, .ref 12), (1, .int (nI x1)), (2, .int (nI x2))], []) C (xPV Q) := by
  unfold w_M_countLoads at h
  refine xG.seg 13 (f' := (19, [(3, .int (nI x1 - nI x2)), (0, .ref 12), (1, .int (nI x1)), (2, .int (nI x2))], [.int ((nI (C.1 9)) - (nI x1 - nI x2)), .int (nI x2), .int (nI (C.1 15)), .ref 12])) (x1 := C) (fun _ => rfl) ?_
  refine xG.conv (xe_nsz _ _ _) ?_
  refine xG.eqf (f' := (19, [(3, .int (nI x1 - nI x2)), (0, .ref 12), (1, .int (nI x1)), (2, .int (nI x2))], [.int (nI (C.1 9 + x2) - nI x1), .int (nI x2), .int (nI (C.1 15)), .ref 12])) rfl ?_
  obtain ⟨c1, h⟩ := h
  refine xG.conv (xe_cut c1) ?_
  obtain ⟨c2, h⟩ := h
  obtain ⟨c3, h⟩ := h
  refine xG.prim (fun _ => rfl) (fun _ => rfl) (show mx_prim xi_M_countLoads (19, [(3, .int (nI x1 - nI x2)), (0, .ref 12), (1, .int (nI x1)), (2, .int (nI x2))], [.int (nI (C.1 9 + x2 - x1)), .int (nI x2), .int (nI (C.1 15)), .ref 12]) = some _ from mx_pr_e (I := xi_M_countLoads) (ix := 413) (k := 2) (g := xp_g 4) (pc := 19) (lv := [(3, .int (nI x1 - nI x2)), (0, .ref 12), (1, .int (nI x1)), (2, .int (nI x2))]) (st := [.int (nI (C.1 9 + x2 - x1)), .int (nI x2), .int (nI (C.1 15)), .ref 12]) rfl (Nat.le_of_ble_eq_true rfl) (Nat.le_of_ble_eq_true rfl) (xpg_4 c2 c3)) (by omega) ?_
  refine xG.eqf (f' := (22, [(3, .int (nI x1 - nI x2)), (0, .ref 12), (1, .int (nI x1)), (2, .int (nI x2))], [.int (nI (min x2 (C.1 9 + x2 - x1))), .int (nI (C.1 15)), .ref 12])) rfl ?_
  refine xG.seg 1 (f' := (23, [(3, .int (nI x1 - nI x2)), (0, .ref 12), (1, .int (nI x1)), (2, .int (nI x2))], [.int ((nI (C.1 15)) + (nI (min x2 (C.1 9 + x2 - x1)))), .ref 12])) (x1 := C) (fun _ => rfl) ?_
  refine xG.conv (xe_add (C.1 15) (min x2 (C.1 9 + x2 - x1))) ?_
  refine xG.eqf (f' := (23, [(3, .int (nI x1 - nI x2)), (0, .ref 12), (1, .int (nI x1)), (2, .int (nI x2))], [.int (nI (C.1 15 + (min x2 (C.1 9 + x2 - x1)))), .ref 12])) rfl ?_
  refine xG.seg 1 (f' := (26, [(3, .int (nI x1 - nI x2)), (0, .ref 12), (1, .int (nI x1)), (2, .int (nI x2))], [])) (x1 := (cN C 15 (C.1 15 + (min x2 (C.1 9 + x2 - x1))))) (fun _ => rfl) ?_
  exact xG.fin (fun _ => rfl) (⟨rfl, h⟩)

def w_S_hasRoom_0 (x1 : Nat) (y1 : Nat) (C : xC) (Q : Nat → xC → Prop) : Prop := (C.1 9 + x1 < 2147483648 ∧ (y1 < 2147483648 ∧ ((24 + y1 < C.1 9 + x1 → Q 0 C) ∧ (¬ (24 + y1 < C.1 9 + x1) → Q 1 C))))
set_option maxRecDepth 8000 in
set_option maxHeartbeats 4000000 in
theorem p_S_hasRoom_0 (L : Nat) (xs : Nat → Int32) (d : Nat) (x1 : Nat) (y1 : Nat) (C : xC) (Q : Nat → xC → Prop) (h : w_S_hasRoom_0 x1 y1 C Q) : xG xec (xgt L xs) (d) xi_S_hasRoom (0, [(0, .ref 13), (1, .int (nI x1 - nI y1))], []) C (xPN Q) := by
  unfold w_S_hasRoom_0 at h
  refine xG.seg 4 (f' := (6, [(0, .ref 13), (1, .int (nI x1 - nI y1))], [.int ((nI (C.1 9)) + (nI x1 - nI y1))])) (x1 := C) (fun _ => rfl) ?_
  refine xG.conv (xe_nz _ _ _) ?_
  refine xG.eqf (f' := (6, [(0, .ref 13), (1, .int (nI x1 - nI y1))], [.int (nI (C.1 9 + x1) - nI y1)])) rfl ?_
  refine xG.seg 1 (f' := (8, [(0, .ref 13), (1, .int (nI x1 - nI y1))], [.int (nI 24), .int (nI (C.1 9 + x1) - nI y1)])) (x1 := C) (fun _ => rfl) ?_
  obtain ⟨c1, h⟩ := h
  obtain ⟨c2, h⟩ := h
  refine xG.icmp (t := 15) (A := 24 + y1 < C.1 9 + x1) rfl rfl (xe_c (xt_Z c1 c2) (show ((nI 24) : Int32).toInt = 24 from by decide) (by dsimp only; omega)) (fun k3 => ?_) (fun k3 => ?_)
  · replace h := h.1 k3
    refine xG.seg 1 (f' := (16, [(0, .ref 13), (1, .int (nI x1 - nI y1))], [.int (nI 0)])) (x1 := C) (fun _ => rfl) ?_
    exact xG.fin (fun _ => rfl) (⟨_, rfl, h⟩)
  · replace h := h.2 k3
    refine xG.seg 2 (f' := (16, [(0, .ref 13), (1, .int (nI x1 - nI y1))], [.int (nI 1)])) (x1 := C) (fun _ => rfl) ?_
    exact xG.fin (fun _ => rfl) (⟨_, rfl, h⟩)

def w_S_pop_0 (C : xC) (Q : Int32 → xC → Prop) : Prop := (1 ≤ C.1 9 ∧ (C.1 9 - 1 < 24 ∧ Q (C.2.2.1 1 (C.1 9 - 1)) (cN C 9 (C.1 9 - 1))))
set_option maxRecDepth 8000 in
set_option maxHeartbeats 4000000 in
theorem p_S_pop_0 (L : Nat) (xs : Nat → Int32) (d : Nat) (C : xC) (Q : Int32 → xC → Prop) (h : w_S_pop_0 C Q) : xG xec (xgt L xs) (d) xi_S_pop (0, [(0, .ref 13)], []) C (xPI Q) := by
  unfold w_S_pop_0 at h
  refine xG.seg 5 (f' := (7, [(0, .ref 13)], [.int (nI (C.1 9) - nI 1), .ref 13])) (x1 := C) (fun _ => rfl) ?_
  obtain ⟨c1, h⟩ := h
  refine xG.conv (xe_cut c1) ?_
  refine xG.seg 5 (f' := (18, [(0, .ref 13)], [.int (nI (C.1 9 - 1)), .ref 14])) (x1 := (cN C 9 (C.1 9 - 1))) (fun _ => rfl) ?_
  obtain ⟨c2, h⟩ := h
  refine xG.iald rfl (Or.inl ⟨rfl, rfl⟩) (by decide) (fun _ => rfl) (by decide) c2 ?_
  refine xG.eqf (f' := (19, [(0, .ref 13)], [.int (C.2.2.1 1 (C.1 9 - 1))])) rfl ?_
  exact xG.fin (fun _ => rfl) (⟨(C.2.2.1 1 (C.1 9 - 1)), rfl, h⟩)

def w_M_flag (x1 : Nat) (C : xC) (Q : Int32 → xC → Prop) : Prop := (x1 < 2147483648 ∧ ((x1 = 0 → Q (nI 0) C) ∧ (¬ (x1 = 0) → Q (-1) C)))
set_option maxRecDepth 8000 in
set_option maxHeartbeats 4000000 in
theorem p_M_flag (L : Nat) (xs : Nat → Int32) (d : Nat) (x1 : Nat) (C : xC) (Q : Int32 → xC → Prop) (h : w_M_flag x1 C Q) : xG xec (xgt L xs) (d) xi_M_flag (0, [(0, .int (nI x1))], []) C (xPI Q) := by
  unfold w_M_flag at h
  refine xG.seg 1 (f' := (1, [(0, .int (nI x1))], [.int (nI x1)])) (x1 := C) (fun _ => rfl) ?_
  obtain ⟨c1, h⟩ := h
  refine xG.ifc (t := 8) (A := x1 = 0) rfl rfl (xe_c (xt_N c1) (show (0 : Int32).toInt = 0 from by decide) (by dsimp only; omega)) (fun k2 => ?_) (fun k2 => ?_)
  · replace h := h.1 k2
    refine xG.seg 1 (f' := (9, [(0, .int (nI x1))], [.int (nI 0)])) (x1 := C) (fun _ => rfl) ?_
    exact xG.fin (fun _ => rfl) (⟨(nI 0), rfl, h⟩)
  · replace h := h.2 k2
    refine xG.seg 2 (f' := (9, [(0, .int (nI x1))], [.int (-1)])) (x1 := C) (fun _ => rfl) ?_
    exact xG.fin (fun _ => rfl) (⟨(-1), rfl, h⟩)

def w_M_ofTwo (x1 : Nat) (x2 : Int32) (x3 : Int32) (C : xC) (Q : Int32 → xC → Prop) : Prop := (x1 < 55 ∧ (x1 < 55 ∧ (xwV x1 < 2147483648 ∧ ((xwV x1 = 15 → Q (x2 + x3) C) ∧ (¬ xwV x1 = 15 → ((xwV x1 = 16 → Q (x2 - x3) C) ∧ (¬ xwV x1 = 16 → ((xwV x1 = 17 → Q (x2 * x3) C) ∧ (¬ xwV x1 = 17 → ((xwV x1 = 18 → (¬ x3 = 0 ∧ Q (x2 / x3) C)) ∧ (¬ xwV x1 = 18 → ((xwV x1 = 19 → (¬ x3 = 0 ∧ Q (x2 - x2 / x3 * x3) C)) ∧ (¬ xwV x1 = 19 → ((xwV x1 = 20 → Q (x2 &&& x3) C) ∧ (¬ xwV x1 = 20 → ((xwV x1 = 21 → Q (x2 ||| x3) C) ∧ (¬ xwV x1 = 21 → ((xwV x1 = 22 → Q (x2 ^^^ x3) C) ∧ (¬ xwV x1 = 22 → ((xwV x1 = 23 → Q (if x3 < x2 then x3 else x2) C) ∧ (¬ xwV x1 = 23 → ((xwV x1 = 24 → Q (if x2 < x3 then x3 else x2) C) ∧ (¬ xwV x1 = 24 → ((xwV x1 = 25 → ((x3 ≤ x2 → w_M_flag 0 C (fun r19 C18 => Q r19 C18)) ∧ (¬ (x3 ≤ x2) → w_M_flag 1 C (fun r21 C20 => Q r21 C20)))) ∧ (¬ xwV x1 = 25 → ((xwV x1 = 26 → ((x2 = x3 → w_M_flag 1 C (fun r27 C26 => Q r27 C26)) ∧ (¬ (x2 = x3) → w_M_flag 0 C (fun r25 C24 => Q r25 C24)))) ∧ (¬ xwV x1 = 26 → ((x2 ≤ x3 → w_M_flag 0 C (fun r30 C29 => Q r30 C29)) ∧ (¬ (x2 ≤ x3) → w_M_flag 1 C (fun r32 C31 => Q r32 C31))))))))))))))))))))))))))))))
set_option maxRecDepth 8000 in
set_option maxHeartbeats 4000000 in
theorem p_M_ofTwo (L : Nat) (xs : Nat → Int32) (d : Nat) (x1 : Nat) (x2 : Int32) (x3 : Int32) (C : xC) (Q : Int32 → xC → Prop) (h : w_M_ofTwo x1 x2 x3 C Q) : xG xec (xgt L xs) (d + 5) xi_M_ofTwo (0, [(0, .ref (1048576 + x1)), (1, .int x2), (2, .int x3)], []) C (xPI Q) := by
  unfold w_M_ofTwo at h
  refine xG.seg 2 (f' := (4, [(0, .ref (1048576 + x1)), (1, .int x2), (2, .int x3)], [.ref (1048576 + x1), .ref 1048638])) (x1 := C) (fun _ => rfl) ?_
  obtain ⟨c1, h⟩ := h
  refine xG.prim (fun _ => rfl) (fun _ => rfl) (show mx_prim xi_M_ofTwo (4, [(0, .ref (1048576 + x1)), (1, .int x2), (2, .int x3)], [.ref (1048576 + x1), .ref 1048638]) = some _ from mx_pr_e (I := xi_M_ofTwo) (ix := 716) (k := 1) (g := xp_g 2) (pc := 4) (lv := [(0, .ref (1048576 + x1)), (1, .int x2), (2, .int x3)]) (st := [.ref (1048576 + x1), .ref 1048638]) rfl (Nat.le_of_ble_eq_true rfl) (Nat.le_of_ble_eq_true rfl) (xpg_2 c1)) (by omega) ?_
  refine xG.eqf (f' := (7, [(0, .ref (1048576 + x1)), (1, .int x2), (2, .int x3)], [.int (nI x1), .ref 1048638])) rfl ?_
  obtain ⟨c2, h⟩ := h
  refine xG.cald rfl (Or.inl ⟨rfl, rfl⟩) (by decide) rfl (by decide) c2 ?_
  refine xG.eqf (f' := (8, [(0, .ref (1048576 + x1)), (1, .int x2), (2, .int x3)], [.int (xw_sw.getD x1 0)])) rfl ?_
  refine xG.conv (xwV_e c2) ?_
  obtain ⟨c3, h⟩ := h
  by_cases k4 : xwV x1 = 15
  · replace h := h.1 k4
    refine xG.tsw (t := 72) rfl c3 (by rw [k4]; rfl) ?_
    refine xG.seg 3 (f' := (75, [(0, .ref (1048576 + x1)), (1, .int x2), (2, .int x3)], [.int (x2 + x3)])) (x1 := C) (fun _ => rfl) ?_
    exact xG.fin (fun _ => rfl) (⟨(x2 + x3), rfl, h⟩)
  replace h := h.2 k4
  by_cases k5 : xwV x1 = 16
  · replace h := h.1 k5
    refine xG.tsw (t := 76) rfl c3 (by rw [k5]; rfl) ?_
    refine xG.seg 3 (f' := (79, [(0, .ref (1048576 + x1)), (1, .int x2), (2, .int x3)], [.int (x2 - x3)])) (x1 := C) (fun _ => rfl) ?_
    exact xG.fin (fun _ => rfl) (⟨(x2 - x3), rfl, h⟩)
  replace h := h.2 k5
  by_cases k6 : xwV x1 = 17
  · replace h := h.1 k6
    refine xG.tsw (t := 80) rfl c3 (by rw [k6]; rfl) ?_
    refine xG.seg 3 (f' := (83, [(0, .ref (1048576 + x1)), (1, .int x2), (2, .int x3)], [.int (x2 * x3)])) (x1 := C) (fun _ => rfl) ?_
    exact xG.fin (fun _ => rfl) (⟨(x2 * x3), rfl, h⟩)
  replace h := h.2 k6
  by_cases k7 : xwV x1 = 18
  · replace h := h.1 k7
    refine xG.tsw (t := 84) rfl c3 (by rw [k7]; rfl) ?_
    refine xG.seg 2 (f' := (86, [(0, .ref (1048576 + x1)), (1, .int x2), (2, .int x3)], [.int x3, .int x2])) (x1 := C) (fun _ => rfl) ?_
    obtain ⟨c8, h⟩ := h
    refine xG.idiv rfl c8 ?_
    refine xG.eqf (f' := (87, [(0, .ref (1048576 + x1)), (1, .int x2), (2, .int x3)], [.int (x2 / x3)])) rfl ?_
    exact xG.fin (fun _ => rfl) (⟨(x2 / x3), rfl, h⟩)
  replace h := h.2 k7
  by_cases k9 : xwV x1 = 19
  · replace h := h.1 k9
    refine xG.tsw (t := 88) rfl c3 (by rw [k9]; rfl) ?_
    refine xG.seg 2 (f' := (90, [(0, .ref (1048576 + x1)), (1, .int x2), (2, .int x3)], [.int x3, .int x2])) (x1 := C) (fun _ => rfl) ?_
    obtain ⟨c10, h⟩ := h
    refine xG.irem rfl c10 ?_
    refine xG.eqf (f' := (91, [(0, .ref (1048576 + x1)), (1, .int x2), (2, .int x3)], [.int (x2 - x2 / x3 * x3)])) rfl ?_
    exact xG.fin (fun _ => rfl) (⟨(x2 - x2 / x3 * x3), rfl, h⟩)
  replace h := h.2 k9
  by_cases k11 : xwV x1 = 20
  · replace h := h.1 k11
    refine xG.tsw (t := 92) rfl c3 (by rw [k11]; rfl) ?_
    refine xG.seg 3 (f' := (95, [(0, .ref (1048576 + x1)), (1, .int x2), (2, .int x3)], [.int (x2 &&& x3)])) (x1 := C) (fun _ => rfl) ?_
    exact xG.fin (fun _ => rfl) (⟨(x2 &&& x3), rfl, h⟩)
  replace h := h.2 k11
  by_cases k12 : xwV x1 = 21
  · replace h := h.1 k12
    refine xG.tsw (t := 96) rfl c3 (by rw [k12]; rfl) ?_
    refine xG.seg 3 (f' := (99, [(0, .ref (1048576 + x1)), (1, .int x2), (2, .int x3)], [.int (x2 ||| x3)])) (x1 := C) (fun _ => rfl) ?_
    exact xG.fin (fun _ => rfl) (⟨(x2 ||| x3), rfl, h⟩)
  replace h := h.2 k12
  by_cases k13 : xwV x1 = 22
  · replace h := h.1 k13
    refine xG.tsw (t := 100) rfl c3 (by rw [k13]; rfl) ?_
    refine xG.seg 3 (f' := (103, [(0, .ref (1048576 + x1)), (1, .int x2), (2, .int x3)], [.int (x2 ^^^ x3)])) (x1 := C) (fun _ => rfl) ?_
    exact xG.fin (fun _ => rfl) (⟨(x2 ^^^ x3), rfl, h⟩)
  replace h := h.2 k13
  by_cases k14 : xwV x1 = 23
  · replace h := h.1 k14
    refine xG.tsw (t := 104) rfl c3 (by rw [k14]; rfl) ?_
    refine xG.seg 2 (f' := (106, [(0, .ref (1048576 + x1)), (1, .int x2), (2, .int x3)], [.int x3, .int x2])) (x1 := C) (fun _ => rfl) ?_
    refine xG.prim (fun _ => rfl) (fun _ => rfl) (show mx_prim xi_M_ofTwo (106, [(0, .ref (1048576 + x1)), (1, .int x2), (2, .int x3)], [.int x3, .int x2]) = some _ from mx_pr_e (I := xi_M_ofTwo) (ix := 413) (k := 2) (g := xp_g 4) (pc := 106) (lv := [(0, .ref (1048576 + x1)), (1, .int x2), (2, .int x3)]) (st := [.int x3, .int x2]) rfl (Nat.le_of_ble_eq_true rfl) (Nat.le_of_ble_eq_true rfl) rfl) (by omega) ?_
    refine xG.eqf (f' := (109, [(0, .ref (1048576 + x1)), (1, .int x2), (2, .int x3)], [.int (if x3 < x2 then x3 else x2)])) rfl ?_
    exact xG.fin (fun _ => rfl) (⟨(if x3 < x2 then x3 else x2), rfl, h⟩)
  replace h := h.2 k14
  by_cases k15 : xwV x1 = 24
  · replace h := h.1 k15
    refine xG.tsw (t := 110) rfl c3 (by rw [k15]; rfl) ?_
    refine xG.seg 2 (f' := (112, [(0, .ref (1048576 + x1)), (1, .int x2), (2, .int x3)], [.int x3, .int x2])) (x1 := C) (fun _ => rfl) ?_
    refine xG.prim (fun _ => rfl) (fun _ => rfl) (show mx_prim xi_M_ofTwo (112, [(0, .ref (1048576 + x1)), (1, .int x2), (2, .int x3)], [.int x3, .int x2]) = some _ from mx_pr_e (I := xi_M_ofTwo) (ix := 729) (k := 2) (g := xp_g 3) (pc := 112) (lv := [(0, .ref (1048576 + x1)), (1, .int x2), (2, .int x3)]) (st := [.int x3, .int x2]) rfl (Nat.le_of_ble_eq_true rfl) (Nat.le_of_ble_eq_true rfl) rfl) (by omega) ?_
    refine xG.eqf (f' := (115, [(0, .ref (1048576 + x1)), (1, .int x2), (2, .int x3)], [.int (if x2 < x3 then x3 else x2)])) rfl ?_
    exact xG.fin (fun _ => rfl) (⟨(if x2 < x3 then x3 else x2), rfl, h⟩)
  replace h := h.2 k15
  by_cases k16 : xwV x1 = 25
  · replace h := h.1 k16
    refine xG.tsw (t := 116) rfl c3 (by rw [k16]; rfl) ?_
    refine xG.seg 2 (f' := (118, [(0, .ref (1048576 + x1)), (1, .int x2), (2, .int x3)], [.int x3, .int x2])) (x1 := C) (fun _ => rfl) ?_
    refine xG.icmp (t := 125) (A := x3 ≤ x2) rfl rfl rfl (fun k17 => ?_) (fun k17 => ?_)
    · replace h := h.1 k17
      refine xG.seg 1 (f' := (126, [(0, .ref (1048576 + x1)), (1, .int x2), (2, .int x3)], [.int (nI 0)])) (x1 := C) (fun _ => rfl) ?_
      refine xG.call (d := d + 4) (vs := [.int (nI 0)]) (g := (126, [(0, .ref (1048576 + x1)), (1, .int x2), (2, .int x3)], [])) (fun _ => rfl) rfl (p_M_flag L xs (d + 4) 0 C _ h) ?_
      clear h
      rintro _ C18 ⟨r19, rfl, h⟩
      refine ⟨_, rfl, ?_⟩
      refine xG.eqf (f' := (129, [(0, .ref (1048576 + x1)), (1, .int x2), (2, .int x3)], [.int r19])) rfl ?_
      exact xG.fin (fun _ => rfl) (⟨r19, rfl, h⟩)
    · replace h := h.2 k17
      refine xG.seg 2 (f' := (126, [(0, .ref (1048576 + x1)), (1, .int x2), (2, .int x3)], [.int (nI 1)])) (x1 := C) (fun _ => rfl) ?_
      refine xG.call (d := d + 4) (vs := [.int (nI 1)]) (g := (126, [(0, .ref (1048576 + x1)), (1, .int x2), (2, .int x3)], [])) (fun _ => rfl) rfl (p_M_flag L xs (d + 4) 1 C _ h) ?_
      clear h
      rintro _ C20 ⟨r21, rfl, h⟩
      refine ⟨_, rfl, ?_⟩
      refine xG.eqf (f' := (129, [(0, .ref (1048576 + x1)), (1, .int x2), (2, .int x3)], [.int r21])) rfl ?_
      exact xG.fin (fun _ => rfl) (⟨r21, rfl, h⟩)
  replace h := h.2 k16
  by_cases k22 : xwV x1 = 26
  · replace h := h.1 k22
    refine xG.tsw (t := 130) rfl c3 (by rw [k22]; rfl) ?_
    refine xG.seg 2 (f' := (132, [(0, .ref (1048576 + x1)), (1, .int x2), (2, .int x3)], [.int x3, .int x2])) (x1 := C) (fun _ => rfl) ?_
    refine xG.icmp (t := 139) (A := ¬ (x2 = x3)) rfl rfl (xe_rn _ _) (fun k23 => ?_) (fun k23 => ?_)
    · replace h := h.2 k23
      refine xG.seg 1 (f' := (140, [(0, .ref (1048576 + x1)), (1, .int x2), (2, .int x3)], [.int (nI 0)])) (x1 := C) (fun _ => rfl) ?_
      refine xG.call (d := d + 4) (vs := [.int (nI 0)]) (g := (140, [(0, .ref (1048576 + x1)), (1, .int x2), (2, .int x3)], [])) (fun _ => rfl) rfl (p_M_flag L xs (d + 4) 0 C _ h) ?_
      clear h
      rintro _ C24 ⟨r25, rfl, h⟩
      refine ⟨_, rfl, ?_⟩
      refine xG.eqf (f' := (143, [(0, .ref (1048576 + x1)), (1, .int x2), (2, .int x3)], [.int r25])) rfl ?_
      exact xG.fin (fun _ => rfl) (⟨r25, rfl, h⟩)
    · replace h := h.1 (Classical.not_not.mp k23)
      refine xG.seg 2 (f' := (140, [(0, .ref (1048576 + x1)), (1, .int x2), (2, .int x3)], [.int (nI 1)])) (x1 := C) (fun _ => rfl) ?_
      refine xG.call (d := d + 4) (vs := [.int (nI 1)]) (g := (140, [(0, .ref (1048576 + x1)), (1, .int x2), (2, .int x3)], [])) (fun _ => rfl) rfl (p_M_flag L xs (d + 4) 1 C _ h) ?_
      clear h
      rintro _ C26 ⟨r27, rfl, h⟩
      refine ⟨_, rfl, ?_⟩
      refine xG.eqf (f' := (143, [(0, .ref (1048576 + x1)), (1, .int x2), (2, .int x3)], [.int r27])) rfl ?_
      exact xG.fin (fun _ => rfl) (⟨r27, rfl, h⟩)
  replace h := h.2 k22
  refine xG.tsw (t := 144) rfl c3 (xtsw_d [15, 16, 17, 18, 19, 20, 21, 22, 23, 24, 25, 26] rfl (by decide) rfl (by decide) (by simp only [List.mem_cons, List.not_mem_nil, or_false]; omega)) ?_
  refine xG.seg 2 (f' := (146, [(0, .ref (1048576 + x1)), (1, .int x2), (2, .int x3)], [.int x3, .int x2])) (x1 := C) (fun _ => rfl) ?_
  refine xG.icmp (t := 153) (A := x2 ≤ x3) rfl rfl rfl (fun k28 => ?_) (fun k28 => ?_)
  · replace h := h.1 k28
    refine xG.seg 1 (f' := (154, [(0, .ref (1048576 + x1)), (1, .int x2), (2, .int x3)], [.int (nI 0)])) (x1 := C) (fun _ => rfl) ?_
    refine xG.call (d := d + 4) (vs := [.int (nI 0)]) (g := (154, [(0, .ref (1048576 + x1)), (1, .int x2), (2, .int x3)], [])) (fun _ => rfl) rfl (p_M_flag L xs (d + 4) 0 C _ h) ?_
    clear h
    rintro _ C29 ⟨r30, rfl, h⟩
    refine ⟨_, rfl, ?_⟩
    refine xG.eqf (f' := (157, [(0, .ref (1048576 + x1)), (1, .int x2), (2, .int x3)], [.int r30])) rfl ?_
    exact xG.fin (fun _ => rfl) (⟨r30, rfl, h⟩)
  · replace h := h.2 k28
    refine xG.seg 2 (f' := (154, [(0, .ref (1048576 + x1)), (1, .int x2), (2, .int x3)], [.int (nI 1)])) (x1 := C) (fun _ => rfl) ?_
    refine xG.call (d := d + 4) (vs := [.int (nI 1)]) (g := (154, [(0, .ref (1048576 + x1)), (1, .int x2), (2, .int x3)], [])) (fun _ => rfl) rfl (p_M_flag L xs (d + 4) 1 C _ h) ?_
    clear h
    rintro _ C31 ⟨r32, rfl, h⟩
    refine ⟨_, rfl, ?_⟩
    refine xG.eqf (f' := (157, [(0, .ref (1048576 + x1)), (1, .int x2), (2, .int x3)], [.int r32])) rfl ?_
    exact xG.fin (fun _ => rfl) (⟨r32, rfl, h⟩)

def w_S_push_0 (x1 : Int32) (C : xC) (Q : xC → Prop) : Prop := (C.1 9 < 24 ∧ Q (cN (cA C 1 (C.1 9) x1) 9 (C.1 9 + 1)))
set_option maxRecDepth 8000 in
set_option maxHeartbeats 4000000 in
theorem p_S_push_0 (L : Nat) (xs : Nat → Int32) (d : Nat) (x1 : Int32) (C : xC) (Q : xC → Prop) (h : w_S_push_0 x1 C Q) : xG xec (xgt L xs) (d) xi_S_push (0, [(0, .ref 13), (1, .int x1)], []) C (xPV Q) := by
  unfold w_S_push_0 at h
  refine xG.seg 5 (f' := (9, [(0, .ref 13), (1, .int x1)], [.int x1, .int (nI (C.1 9)), .ref 14])) (x1 := C) (fun _ => rfl) ?_
  obtain ⟨c1, h⟩ := h
  refine xG.iast (x1 := (cA C 1 (C.1 9) x1)) rfl (by decide) (fun _ => rfl) (by decide) c1 (fun _ => rfl) ?_
  refine xG.eqf (f' := (10, [(0, .ref 13), (1, .int x1)], [])) rfl ?_
  refine xG.seg 5 (f' := (17, [(0, .ref 13), (1, .int x1)], [.int ((nI (C.1 9)) + (nI 1)), .ref 13])) (x1 := (cA C 1 (C.1 9) x1)) (fun _ => rfl) ?_
  refine xG.conv (xe_add (C.1 9) 1) ?_
  refine xG.eqf (f' := (17, [(0, .ref 13), (1, .int x1)], [.int (nI (C.1 9 + 1)), .ref 13])) rfl ?_
  refine xG.seg 1 (f' := (20, [(0, .ref 13), (1, .int x1)], [])) (x1 := (cN (cA C 1 (C.1 9) x1) 9 (C.1 9 + 1))) (fun _ => rfl) ?_
  exact xG.fin (fun _ => rfl) (⟨rfl, h⟩)

def w_M_performOfTwo (x1 : Nat) (C : xC) (Q : Nat → xC → Prop) : Prop := w_S_pop_0 C (fun r2 C1 => w_S_pop_0 C1 (fun r4 C3 => ((r2 = 0 → (x1 < 61 ∧ ((x1 = 3 → Q 59 C3) ∧ (¬ (x1 = 3) → (x1 < 61 ∧ ((x1 = 4 → Q 59 C3) ∧ (¬ (x1 = 4) → w_M_ofTwo x1 r4 r2 C3 (fun r14 C13 => w_S_push_0 r14 C13 (fun C15 => Q 55 C15))))))))) ∧ (¬ (r2 = 0) → w_M_ofTwo x1 r4 r2 C3 (fun r7 C6 => w_S_push_0 r7 C6 (fun C8 => Q 55 C8))))))
set_option maxRecDepth 8000 in
set_option maxHeartbeats 4000000 in
theorem p_M_performOfTwo (L : Nat) (xs : Nat → Int32) (d : Nat) (x1 : Nat) (C : xC) (Q : Nat → xC → Prop) (h : w_M_performOfTwo x1 C Q) : xG xec (xgt L xs) (d + 6) xi_M_performOfTwo (0, [(0, .ref 12), (1, .ref (1048576 + x1))], []) C (xPW Q) := by
  unfold w_M_performOfTwo at h
  refine xG.seg 2 (f' := (4, [(0, .ref 12), (1, .ref (1048576 + x1))], [.ref 13])) (x1 := C) (fun _ => rfl) ?_
  refine xG.call (d := d + 5) (vs := [.ref 13]) (g := (4, [(0, .ref 12), (1, .ref (1048576 + x1))], [])) (fun _ => rfl) rfl (p_S_pop_0 L xs (d + 5) C _ h) ?_
  clear h
  rintro _ C1 ⟨r2, rfl, h⟩
  refine ⟨_, rfl, ?_⟩
  refine xG.eqf (f' := (7, [(0, .ref 12), (1, .ref (1048576 + x1))], [.int r2])) rfl ?_
  refine xG.seg 3 (f' := (12, [(2, .int r2), (0, .ref 12), (1, .ref (1048576 + x1))], [.ref 13])) (x1 := C1) (fun _ => rfl) ?_
  refine xG.call (d := d + 5) (vs := [.ref 13]) (g := (12, [(2, .int r2), (0, .ref 12), (1, .ref (1048576 + x1))], [])) (fun _ => rfl) rfl (p_S_pop_0 L xs (d + 5) C1 _ h) ?_
  clear h
  rintro _ C3 ⟨r4, rfl, h⟩
  refine ⟨_, rfl, ?_⟩
  refine xG.eqf (f' := (15, [(2, .int r2), (0, .ref 12), (1, .ref (1048576 + x1))], [.int r4])) rfl ?_
  refine xG.seg 2 (f' := (17, [(3, .int r4), (2, .int r2), (0, .ref 12), (1, .ref (1048576 + x1))], [.int r2])) (x1 := C3) (fun _ => rfl) ?_
  refine xG.ifc (t := 38) (A := ¬ (r2 = 0)) rfl rfl (xe_rn _ _) (fun k5 => ?_) (fun k5 => ?_)
  · replace h := h.2 k5
    refine xG.seg 5 (f' := (45, [(3, .int r4), (2, .int r2), (0, .ref 12), (1, .ref (1048576 + x1))], [.int r2, .int r4, .ref (1048576 + x1), .ref 13])) (x1 := C3) (fun _ => rfl) ?_
    refine xG.call (d := d + 5) (vs := [.ref (1048576 + x1), .int r4, .int r2]) (g := (45, [(3, .int r4), (2, .int r2), (0, .ref 12), (1, .ref (1048576 + x1))], [.ref 13])) (fun _ => rfl) rfl (p_M_ofTwo L xs d x1 r4 r2 C3 _ h) ?_
    clear h
    rintro _ C6 ⟨r7, rfl, h⟩
    refine ⟨_, rfl, ?_⟩
    refine xG.eqf (f' := (48, [(3, .int r4), (2, .int r2), (0, .ref 12), (1, .ref (1048576 + x1))], [.int r7, .ref 13])) rfl ?_
    refine xG.call (d := d + 5) (vs := [.ref 13, .int r7]) (g := (48, [(3, .int r4), (2, .int r2), (0, .ref 12), (1, .ref (1048576 + x1))], [])) (fun _ => rfl) rfl (p_S_push_0 L xs (d + 5) r7 C6 _ h) ?_
    clear h
    rintro _ C8 ⟨rfl, h⟩
    refine ⟨_, rfl, ?_⟩
    refine xG.eqf (f' := (51, [(3, .int r4), (2, .int r2), (0, .ref 12), (1, .ref (1048576 + x1))], [])) rfl ?_
    refine xG.seg 1 (f' := (54, [(3, .int r4), (2, .int r2), (0, .ref 12), (1, .ref (1048576 + x1))], [.ref (1048576 + 55)])) (x1 := C8) (fun _ => rfl) ?_
    exact xG.fin (fun _ => rfl) (⟨_, rfl, h⟩)
  · replace h := h.1 (Classical.not_not.mp k5)
    refine xG.seg 2 (f' := (24, [(3, .int r4), (2, .int r2), (0, .ref 12), (1, .ref (1048576 + x1))], [.ref (1048576 + 3), .ref (1048576 + x1)])) (x1 := C3) (fun _ => rfl) ?_
    obtain ⟨c9, h⟩ := h
    refine xG.acmp (t := 34) (A := x1 = 3) rfl rfl (xcst_W (e := x1) c9) (xcst_W (e := 3) (by decide)) (xe_ae xaW) (fun k10 => ?_) (fun k10 => ?_)
    · replace h := h.1 k10
      refine xG.seg 1 (f' := (37, [(3, .int r4), (2, .int r2), (0, .ref 12), (1, .ref (1048576 + x1))], [.ref (1048576 + 59)])) (x1 := C3) (fun _ => rfl) ?_
      exact xG.fin (fun _ => rfl) (⟨_, rfl, h⟩)
    · replace h := h.2 k10
      refine xG.seg 2 (f' := (31, [(3, .int r4), (2, .int r2), (0, .ref 12), (1, .ref (1048576 + x1))], [.ref (1048576 + 4), .ref (1048576 + x1)])) (x1 := C3) (fun _ => rfl) ?_
      obtain ⟨c11, h⟩ := h
      refine xG.acmp (t := 38) (A := ¬ (x1 = 4)) rfl rfl (xcst_W (e := x1) c11) (xcst_W (e := 4) (by decide)) (xe_an (not_congr xaW)) (fun k12 => ?_) (fun k12 => ?_)
      · replace h := h.2 k12
        refine xG.seg 5 (f' := (45, [(3, .int r4), (2, .int r2), (0, .ref 12), (1, .ref (1048576 + x1))], [.int r2, .int r4, .ref (1048576 + x1), .ref 13])) (x1 := C3) (fun _ => rfl) ?_
        refine xG.call (d := d + 5) (vs := [.ref (1048576 + x1), .int r4, .int r2]) (g := (45, [(3, .int r4), (2, .int r2), (0, .ref 12), (1, .ref (1048576 + x1))], [.ref 13])) (fun _ => rfl) rfl (p_M_ofTwo L xs d x1 r4 r2 C3 _ h) ?_
        clear h
        rintro _ C13 ⟨r14, rfl, h⟩
        refine ⟨_, rfl, ?_⟩
        refine xG.eqf (f' := (48, [(3, .int r4), (2, .int r2), (0, .ref 12), (1, .ref (1048576 + x1))], [.int r14, .ref 13])) rfl ?_
        refine xG.call (d := d + 5) (vs := [.ref 13, .int r14]) (g := (48, [(3, .int r4), (2, .int r2), (0, .ref 12), (1, .ref (1048576 + x1))], [])) (fun _ => rfl) rfl (p_S_push_0 L xs (d + 5) r14 C13 _ h) ?_
        clear h
        rintro _ C15 ⟨rfl, h⟩
        refine ⟨_, rfl, ?_⟩
        refine xG.eqf (f' := (51, [(3, .int r4), (2, .int r2), (0, .ref 12), (1, .ref (1048576 + x1))], [])) rfl ?_
        refine xG.seg 1 (f' := (54, [(3, .int r4), (2, .int r2), (0, .ref 12), (1, .ref (1048576 + x1))], [.ref (1048576 + 55)])) (x1 := C15) (fun _ => rfl) ?_
        exact xG.fin (fun _ => rfl) (⟨_, rfl, h⟩)
      · replace h := h.1 (Classical.not_not.mp k12)
        refine xG.seg 1 (f' := (37, [(3, .int r4), (2, .int r2), (0, .ref 12), (1, .ref (1048576 + x1))], [.ref (1048576 + 59)])) (x1 := C3) (fun _ => rfl) ?_
        exact xG.fin (fun _ => rfl) (⟨_, rfl, h⟩)

def w_M_ofOne (x1 : Nat) (x2 : Int32) (C : xC) (Q : Int32 → xC → Prop) : Prop := (x1 < 55 ∧ (x1 < 55 ∧ (xwV x1 < 2147483648 ∧ ((xwV x1 = 27 → Q (-x2) C) ∧ (¬ xwV x1 = 27 → ((xwV x1 = 28 → Q (x2 ^^^ (-1)) C) ∧ (¬ xwV x1 = 28 → ((xwV x1 = 29 → Q (if x2 < 0 then -x2 else x2) C) ∧ (¬ xwV x1 = 29 → ((xwV x1 = 30 → Q (x2 + (nI 1)) C) ∧ (¬ xwV x1 = 30 → ((xwV x1 = 31 → ((x2 = 0 → w_M_flag 1 C (fun r13 C12 => Q r13 C12)) ∧ (¬ (x2 = 0) → w_M_flag 0 C (fun r11 C10 => Q r11 C10)))) ∧ (¬ xwV x1 = 31 → ((0 ≤ x2 → w_M_flag 0 C (fun r16 C15 => Q r16 C15)) ∧ (¬ (0 ≤ x2) → w_M_flag 1 C (fun r18 C17 => Q r18 C17))))))))))))))))
set_option maxRecDepth 8000 in
set_option maxHeartbeats 4000000 in
theorem p_M_ofOne (L : Nat) (xs : Nat → Int32) (d : Nat) (x1 : Nat) (x2 : Int32) (C : xC) (Q : Int32 → xC → Prop) (h : w_M_ofOne x1 x2 C Q) : xG xec (xgt L xs) (d + 5) xi_M_ofOne (0, [(0, .ref (1048576 + x1)), (1, .int x2)], []) C (xPI Q) := by
  unfold w_M_ofOne at h
  refine xG.seg 2 (f' := (4, [(0, .ref (1048576 + x1)), (1, .int x2)], [.ref (1048576 + x1), .ref 1048638])) (x1 := C) (fun _ => rfl) ?_
  obtain ⟨c1, h⟩ := h
  refine xG.prim (fun _ => rfl) (fun _ => rfl) (show mx_prim xi_M_ofOne (4, [(0, .ref (1048576 + x1)), (1, .int x2)], [.ref (1048576 + x1), .ref 1048638]) = some _ from mx_pr_e (I := xi_M_ofOne) (ix := 716) (k := 1) (g := xp_g 2) (pc := 4) (lv := [(0, .ref (1048576 + x1)), (1, .int x2)]) (st := [.ref (1048576 + x1), .ref 1048638]) rfl (Nat.le_of_ble_eq_true rfl) (Nat.le_of_ble_eq_true rfl) (xpg_2 c1)) (by omega) ?_
  refine xG.eqf (f' := (7, [(0, .ref (1048576 + x1)), (1, .int x2)], [.int (nI x1), .ref 1048638])) rfl ?_
  obtain ⟨c2, h⟩ := h
  refine xG.cald rfl (Or.inl ⟨rfl, rfl⟩) (by decide) rfl (by decide) c2 ?_
  refine xG.eqf (f' := (8, [(0, .ref (1048576 + x1)), (1, .int x2)], [.int (xw_sw.getD x1 0)])) rfl ?_
  refine xG.conv (xwV_e c2) ?_
  obtain ⟨c3, h⟩ := h
  by_cases k4 : xwV x1 = 27
  · replace h := h.1 k4
    refine xG.tsw (t := 44) rfl c3 (by rw [k4]; rfl) ?_
    refine xG.seg 2 (f' := (46, [(0, .ref (1048576 + x1)), (1, .int x2)], [.int (-x2)])) (x1 := C) (fun _ => rfl) ?_
    exact xG.fin (fun _ => rfl) (⟨(-x2), rfl, h⟩)
  replace h := h.2 k4
  by_cases k5 : xwV x1 = 28
  · replace h := h.1 k5
    refine xG.tsw (t := 47) rfl c3 (by rw [k5]; rfl) ?_
    refine xG.seg 3 (f' := (50, [(0, .ref (1048576 + x1)), (1, .int x2)], [.int (x2 ^^^ (-1))])) (x1 := C) (fun _ => rfl) ?_
    exact xG.fin (fun _ => rfl) (⟨(x2 ^^^ (-1)), rfl, h⟩)
  replace h := h.2 k5
  by_cases k6 : xwV x1 = 29
  · replace h := h.1 k6
    refine xG.tsw (t := 51) rfl c3 (by rw [k6]; rfl) ?_
    refine xG.seg 1 (f' := (52, [(0, .ref (1048576 + x1)), (1, .int x2)], [.int x2])) (x1 := C) (fun _ => rfl) ?_
    refine xG.prim (fun _ => rfl) (fun _ => rfl) (show mx_prim xi_M_ofOne (52, [(0, .ref (1048576 + x1)), (1, .int x2)], [.int x2]) = some _ from mx_pr_e (I := xi_M_ofOne) (ix := 757) (k := 1) (g := xp_g 5) (pc := 52) (lv := [(0, .ref (1048576 + x1)), (1, .int x2)]) (st := [.int x2]) rfl (Nat.le_of_ble_eq_true rfl) (Nat.le_of_ble_eq_true rfl) rfl) (by omega) ?_
    refine xG.eqf (f' := (55, [(0, .ref (1048576 + x1)), (1, .int x2)], [.int (if x2 < 0 then -x2 else x2)])) rfl ?_
    exact xG.fin (fun _ => rfl) (⟨(if x2 < 0 then -x2 else x2), rfl, h⟩)
  replace h := h.2 k6
  by_cases k7 : xwV x1 = 30
  · replace h := h.1 k7
    refine xG.tsw (t := 56) rfl c3 (by rw [k7]; rfl) ?_
    refine xG.seg 3 (f' := (59, [(0, .ref (1048576 + x1)), (1, .int x2)], [.int (x2 + (nI 1))])) (x1 := C) (fun _ => rfl) ?_
    exact xG.fin (fun _ => rfl) (⟨(x2 + (nI 1)), rfl, h⟩)
  replace h := h.2 k7
  by_cases k8 : xwV x1 = 31
  · replace h := h.1 k8
    refine xG.tsw (t := 60) rfl c3 (by rw [k8]; rfl) ?_
    refine xG.seg 1 (f' := (61, [(0, .ref (1048576 + x1)), (1, .int x2)], [.int x2])) (x1 := C) (fun _ => rfl) ?_
    refine xG.ifc (t := 68) (A := ¬ (x2 = 0)) rfl rfl (xe_rn _ _) (fun k9 => ?_) (fun k9 => ?_)
    · replace h := h.2 k9
      refine xG.seg 1 (f' := (69, [(0, .ref (1048576 + x1)), (1, .int x2)], [.int (nI 0)])) (x1 := C) (fun _ => rfl) ?_
      refine xG.call (d := d + 4) (vs := [.int (nI 0)]) (g := (69, [(0, .ref (1048576 + x1)), (1, .int x2)], [])) (fun _ => rfl) rfl (p_M_flag L xs (d + 4) 0 C _ h) ?_
      clear h
      rintro _ C10 ⟨r11, rfl, h⟩
      refine ⟨_, rfl, ?_⟩
      refine xG.eqf (f' := (72, [(0, .ref (1048576 + x1)), (1, .int x2)], [.int r11])) rfl ?_
      exact xG.fin (fun _ => rfl) (⟨r11, rfl, h⟩)
    · replace h := h.1 (Classical.not_not.mp k9)
      refine xG.seg 2 (f' := (69, [(0, .ref (1048576 + x1)), (1, .int x2)], [.int (nI 1)])) (x1 := C) (fun _ => rfl) ?_
      refine xG.call (d := d + 4) (vs := [.int (nI 1)]) (g := (69, [(0, .ref (1048576 + x1)), (1, .int x2)], [])) (fun _ => rfl) rfl (p_M_flag L xs (d + 4) 1 C _ h) ?_
      clear h
      rintro _ C12 ⟨r13, rfl, h⟩
      refine ⟨_, rfl, ?_⟩
      refine xG.eqf (f' := (72, [(0, .ref (1048576 + x1)), (1, .int x2)], [.int r13])) rfl ?_
      exact xG.fin (fun _ => rfl) (⟨r13, rfl, h⟩)
  replace h := h.2 k8
  refine xG.tsw (t := 73) rfl c3 (xtsw_d [27, 28, 29, 30, 31] rfl (by decide) rfl (by decide) (by simp only [List.mem_cons, List.not_mem_nil, or_false]; omega)) ?_
  refine xG.seg 1 (f' := (74, [(0, .ref (1048576 + x1)), (1, .int x2)], [.int x2])) (x1 := C) (fun _ => rfl) ?_
  refine xG.ifc (t := 81) (A := 0 ≤ x2) rfl rfl rfl (fun k14 => ?_) (fun k14 => ?_)
  · replace h := h.1 k14
    refine xG.seg 1 (f' := (82, [(0, .ref (1048576 + x1)), (1, .int x2)], [.int (nI 0)])) (x1 := C) (fun _ => rfl) ?_
    refine xG.call (d := d + 4) (vs := [.int (nI 0)]) (g := (82, [(0, .ref (1048576 + x1)), (1, .int x2)], [])) (fun _ => rfl) rfl (p_M_flag L xs (d + 4) 0 C _ h) ?_
    clear h
    rintro _ C15 ⟨r16, rfl, h⟩
    refine ⟨_, rfl, ?_⟩
    refine xG.eqf (f' := (85, [(0, .ref (1048576 + x1)), (1, .int x2)], [.int r16])) rfl ?_
    exact xG.fin (fun _ => rfl) (⟨r16, rfl, h⟩)
  · replace h := h.2 k14
    refine xG.seg 2 (f' := (82, [(0, .ref (1048576 + x1)), (1, .int x2)], [.int (nI 1)])) (x1 := C) (fun _ => rfl) ?_
    refine xG.call (d := d + 4) (vs := [.int (nI 1)]) (g := (82, [(0, .ref (1048576 + x1)), (1, .int x2)], [])) (fun _ => rfl) rfl (p_M_flag L xs (d + 4) 1 C _ h) ?_
    clear h
    rintro _ C17 ⟨r18, rfl, h⟩
    refine ⟨_, rfl, ?_⟩
    refine xG.eqf (f' := (85, [(0, .ref (1048576 + x1)), (1, .int x2)], [.int r18])) rfl ?_
    exact xG.fin (fun _ => rfl) (⟨r18, rfl, h⟩)

def wi_M_move_32 (K : Nat → Nat → xC → Prop) (l1 : Nat) (l2 : Nat) (C : xC) (Q : Nat → xC → Prop) : Prop := (l1 < 55 ∧ (l1 < 55 ∧ (l2 < 2147483648 ∧ (xwL l1 < 2147483648 ∧ ((xwL l1 ≤ l2 → Q 55 C) ∧ (¬ (xwL l1 ≤ l2) → (l1 < 55 ∧ (l1 < 55 ∧ (l2 < xwL l1 ∧ (97 ≤ xwC l1 l2 ∧ (xwC l1 l2 - 97 < 3 ∧ w_S_push_0 (C.2.2.1 5 (xwC l1 l2 - 97)) C (fun C3011 => K l1 (l2 + 1) C3011))))))))))))
set_option maxRecDepth 8000 in
set_option maxHeartbeats 4000000 in
theorem pi_M_move_32 (L : Nat) (xs : Nat → Int32) (d : Nat) (Q : Nat → xC → Prop) (K : Nat → Nat → xC → Prop) (hK : ∀ (l1 : Nat) (l2 : Nat) (C : xC), K l1 l2 C → xG xec (xgt L xs) (d + 5) xi_M_move (32, [(0, .ref 12), (1, .ref (1048576 + l1)), (2, .int (nI l2))], []) C (xPW Q)) (l1 : Nat) (l2 : Nat) (C : xC) (h : wi_M_move_32 K l1 l2 C Q) : xG xec (xgt L xs) (d + 5) xi_M_move (32, [(0, .ref 12), (1, .ref (1048576 + l1)), (2, .int (nI l2))], []) C (xPW Q) := by
  unfold wi_M_move_32 at h
  refine xG.seg 2 (f' := (34, [(0, .ref 12), (1, .ref (1048576 + l1)), (2, .int (nI l2))], [.ref (1048576 + l1), .int (nI l2)])) (x1 := C) (fun _ => rfl) ?_
  obtain ⟨c3001, h⟩ := h
  refine xG.getc rfl (by omega) (xgc_3 (l := xg_M) (ix := 110) rfl c3001) ?_
  refine xG.eqf (f' := (37, [(0, .ref 12), (1, .ref (1048576 + l1)), (2, .int (nI l2))], [.ref (1048641 + xwG l1), .int (nI l2)])) rfl ?_
  obtain ⟨c3002, h⟩ := h
  refine xG.prim (fun _ => rfl) (fun _ => rfl) (show mx_prim xi_M_move (37, [(0, .ref 12), (1, .ref (1048576 + l1)), (2, .int (nI l2))], [.ref (1048641 + xwG l1), .int (nI l2)]) = some _ from mx_pr_e (I := xi_M_move) (ix := 456) (k := 1) (g := xp_g 0) (pc := 37) (lv := [(0, .ref 12), (1, .ref (1048576 + l1)), (2, .int (nI l2))]) (st := [.ref (1048641 + xwG l1), .int (nI l2)]) rfl (Nat.le_of_ble_eq_true rfl) (Nat.le_of_ble_eq_true rfl) (xpg_0 c3002)) (by omega) ?_
  refine xG.eqf (f' := (40, [(0, .ref 12), (1, .ref (1048576 + l1)), (2, .int (nI l2))], [.int (nI (xwL l1)), .int (nI l2)])) rfl ?_
  obtain ⟨c3003, h⟩ := h
  obtain ⟨c3004, h⟩ := h
  refine xG.icmp (t := 72) (A := xwL l1 ≤ l2) rfl rfl (xe_c (xt_N c3003) (xt_N c3004) (by dsimp only; omega)) (fun k3005 => ?_) (fun k3005 => ?_)
  · replace h := h.1 k3005
    refine xG.seg 1 (f' := (75, [(0, .ref 12), (1, .ref (1048576 + l1)), (2, .int (nI l2))], [.ref (1048576 + 55)])) (x1 := C) (fun _ => rfl) ?_
    exact xG.fin (fun _ => rfl) (⟨_, rfl, h⟩)
  · replace h := h.2 k3005
    refine xG.seg 5 (f' := (52, [(0, .ref 12), (1, .ref (1048576 + l1)), (2, .int (nI l2))], [.ref (1048576 + l1), .ref 19, .ref 13])) (x1 := C) (fun _ => rfl) ?_
    obtain ⟨c3006, h⟩ := h
    refine xG.getc rfl (by omega) (xgc_3 (l := xg_M) (ix := 110) rfl c3006) ?_
    refine xG.eqf (f' := (55, [(0, .ref 12), (1, .ref (1048576 + l1)), (2, .int (nI l2))], [.ref (1048641 + xwG l1), .ref 19, .ref 13])) rfl ?_
    refine xG.seg 1 (f' := (56, [(0, .ref 12), (1, .ref (1048576 + l1)), (2, .int (nI l2))], [.int (nI l2), .ref (1048641 + xwG l1), .ref 19, .ref 13])) (x1 := C) (fun _ => rfl) ?_
    obtain ⟨c3007, h⟩ := h
    obtain ⟨c3008, h⟩ := h
    refine xG.prim (fun _ => rfl) (fun _ => rfl) (show mx_prim xi_M_move (56, [(0, .ref 12), (1, .ref (1048576 + l1)), (2, .int (nI l2))], [.int (nI l2), .ref (1048641 + xwG l1), .ref 19, .ref 13]) = some _ from mx_pr_e (I := xi_M_move) (ix := 772) (k := 2) (g := xp_g 1) (pc := 56) (lv := [(0, .ref 12), (1, .ref (1048576 + l1)), (2, .int (nI l2))]) (st := [.int (nI l2), .ref (1048641 + xwG l1), .ref 19, .ref 13]) rfl (Nat.le_of_ble_eq_true rfl) (Nat.le_of_ble_eq_true rfl) (xpg_1 c3007 c3008)) (by omega) ?_
    refine xG.eqf (f' := (59, [(0, .ref 12), (1, .ref (1048576 + l1)), (2, .int (nI l2))], [.int (nI (xwC l1 l2)), .ref 19, .ref 13])) rfl ?_
    refine xG.seg 2 (f' := (62, [(0, .ref 12), (1, .ref (1048576 + l1)), (2, .int (nI l2))], [.int (nI (xwC l1 l2) - nI 97), .ref 19, .ref 13])) (x1 := C) (fun _ => rfl) ?_
    obtain ⟨c3009, h⟩ := h
    refine xG.conv (xe_cut c3009) ?_
    obtain ⟨c3010, h⟩ := h
    refine xG.iald rfl (Or.inl ⟨rfl, rfl⟩) (by decide) (fun _ => rfl) (by decide) c3010 ?_
    refine xG.eqf (f' := (63, [(0, .ref 12), (1, .ref (1048576 + l1)), (2, .int (nI l2))], [.int (C.2.2.1 5 (xwC l1 l2 - 97)), .ref 13])) rfl ?_
    refine xG.call (d := d + 4) (vs := [.ref 13, .int (C.2.2.1 5 (xwC l1 l2 - 97))]) (g := (63, [(0, .ref 12), (1, .ref (1048576 + l1)), (2, .int (nI l2))], [])) (fun _ => rfl) rfl (p_S_push_0 L xs (d + 4) (C.2.2.1 5 (xwC l1 l2 - 97)) C _ h) ?_
    clear h
    rintro _ C3011 ⟨rfl, h⟩
    refine ⟨_, rfl, ?_⟩
    refine xG.eqf (f' := (66, [(0, .ref 12), (1, .ref (1048576 + l1)), (2, .int (nI l2))], [])) rfl ?_
    refine xG.iinc (v := (nI l2)) (w := (nI (l2 + 1))) rfl rfl (by decide) (xe_add l2 1) ?_
    refine xG.eqf (f' := (69, [(2, .int (nI (l2 + 1))), (0, .ref 12), (1, .ref (1048576 + l1))], [])) rfl ?_
    refine xG.seg 1 (f' := (32, [(2, .int (nI (l2 + 1))), (0, .ref 12), (1, .ref (1048576 + l1))], [])) (x1 := C3011) (fun _ => rfl) ?_
    refine xG.lv (lv := [(0, .ref 12), (1, .ref (1048576 + l1)), (2, .int (nI (l2 + 1)))]) (lv' := [(2, .int (nI (l2 + 1))), (0, .ref 12), (1, .ref (1048576 + l1))]) rfl rfl rfl ?_
    exact hK l1 (l2 + 1) C3011 h

def w_M_move_32 : Nat → Nat → Nat → (xC) → (Nat → xC → Prop) → Prop
  | 0, _, _, _, _ => False
  | n + 1, l1, l2, C, Q => wi_M_move_32 (fun l1 l2 C => w_M_move_32 n l1 l2 C Q) l1 l2 C Q
theorem p_M_move_32 (L : Nat) (xs : Nat → Int32) (d : Nat) (Q : Nat → xC → Prop) : ∀ (n : Nat) (l1 : Nat) (l2 : Nat) (C : xC), w_M_move_32 n l1 l2 C Q → xG xec (xgt L xs) (d + 5) xi_M_move (32, [(0, .ref 12), (1, .ref (1048576 + l1)), (2, .int (nI l2))], []) C (xPW Q)
  | 0, _, _, _, h => by cases h
  | n + 1, l1, l2, C, h => pi_M_move_32 L xs d Q (fun l1 l2 C => w_M_move_32 n l1 l2 C Q) (fun l1 l2 C h => p_M_move_32 L xs d Q n l1 l2 C h) l1 l2 C h

def wi_M_move_7 (K : Nat → Nat → xC → Prop) (l1 : Nat) (l2 : Nat) (C : xC) (Q : Nat → xC → Prop) : Prop := (l2 < 2147483648 ∧ ((l2 < 1 → ∃ fu2003 : Nat, w_M_move_32 fu2003 l1 0 C Q) ∧ (¬ (l2 < 1) → w_S_pop_0 C (fun r2005 C2004 => (1 ≤ l2 ∧ (l2 - 1 < 3 ∧ (1 ≤ l2 ∧ K l1 (l2 - 1) (cA C2004 5 (l2 - 1) r2005))))))))
set_option maxRecDepth 8000 in
set_option maxHeartbeats 4000000 in
theorem pi_M_move_7 (L : Nat) (xs : Nat → Int32) (d : Nat) (Q : Nat → xC → Prop) (K : Nat → Nat → xC → Prop) (hK : ∀ (l1 : Nat) (l2 : Nat) (C : xC), K l1 l2 C → xG xec (xgt L xs) (d + 5) xi_M_move (7, [(0, .ref 12), (1, .ref (1048576 + l1)), (2, .int (nI l2 - nI 1))], []) C (xPW Q)) (l1 : Nat) (l2 : Nat) (C : xC) (h : wi_M_move_7 K l1 l2 C Q) : xG xec (xgt L xs) (d + 5) xi_M_move (7, [(0, .ref 12), (1, .ref (1048576 + l1)), (2, .int (nI l2 - nI 1))], []) C (xPW Q) := by
  unfold wi_M_move_7 at h
  refine xG.seg 1 (f' := (8, [(0, .ref 12), (1, .ref (1048576 + l1)), (2, .int (nI l2 - nI 1))], [.int (nI l2 - nI 1)])) (x1 := C) (fun _ => rfl) ?_
  obtain ⟨c2001, h⟩ := h
  refine xG.ifc (t := 30) (A := l2 < 1) rfl rfl (xe_c (xt_Z c2001 (by decide)) (show (0 : Int32).toInt = 0 from by decide) (by dsimp only; omega)) (fun k2002 => ?_) (fun k2002 => ?_)
  · replace h := h.1 k2002
    refine xG.seg 2 (f' := (32, [(2, .int (nI 0)), (0, .ref 12), (1, .ref (1048576 + l1))], [])) (x1 := C) (fun _ => rfl) ?_
    refine xG.lv (lv := [(0, .ref 12), (1, .ref (1048576 + l1)), (2, .int (nI 0))]) (lv' := [(2, .int (nI 0)), (0, .ref 12), (1, .ref (1048576 + l1))]) rfl rfl rfl ?_
    obtain ⟨fu2003, h⟩ := h
    exact p_M_move_32 L xs d Q fu2003 l1 0 C h
  · replace h := h.2 k2002
    refine xG.seg 5 (f' := (20, [(0, .ref 12), (1, .ref (1048576 + l1)), (2, .int (nI l2 - nI 1))], [.ref 13, .int (nI l2 - nI 1), .ref 19])) (x1 := C) (fun _ => rfl) ?_
    refine xG.call (d := d + 4) (vs := [.ref 13]) (g := (20, [(0, .ref 12), (1, .ref (1048576 + l1)), (2, .int (nI l2 - nI 1))], [.int (nI l2 - nI 1), .ref 19])) (fun _ => rfl) rfl (p_S_pop_0 L xs (d + 4) C _ h) ?_
    clear h
    rintro _ C2004 ⟨r2005, rfl, h⟩
    refine ⟨_, rfl, ?_⟩
    refine xG.eqf (f' := (23, [(0, .ref 12), (1, .ref (1048576 + l1)), (2, .int (nI l2 - nI 1))], [.int r2005, .int (nI l2 - nI 1), .ref 19])) rfl ?_
    obtain ⟨c2006, h⟩ := h
    refine xG.eqf (f' := (23, [(0, .ref 12), (1, .ref (1048576 + l1)), (2, .int (nI l2 - nI 1))], [.int r2005, .int (nI (l2 - 1)), .ref 19])) (by rw [xe_cut c2006]) ?_
    obtain ⟨c2007, h⟩ := h
    refine xG.iast (x1 := (cA C2004 5 (l2 - 1) r2005)) rfl (by decide) (fun _ => rfl) (by decide) c2007 (fun _ => rfl) ?_
    refine xG.eqf (f' := (24, [(0, .ref 12), (1, .ref (1048576 + l1)), (2, .int (nI l2 - nI 1))], [])) rfl ?_
    refine xG.iinc (v := (nI l2 - nI 1)) (w := (nI l2 - nI 2)) rfl rfl (by decide) (xe_dec l2 1) ?_
    refine xG.eqf (f' := (27, [(2, .int (nI l2 - nI 2)), (0, .ref 12), (1, .ref (1048576 + l1))], [])) rfl ?_
    refine xG.seg 1 (f' := (7, [(2, .int (nI l2 - nI 2)), (0, .ref 12), (1, .ref (1048576 + l1))], [])) (x1 := (cA C2004 5 (l2 - 1) r2005)) (fun _ => rfl) ?_
    obtain ⟨c2008, h⟩ := h
    refine xG.eqf (f' := (7, [(2, .int (nI (l2 - 1) - nI 1)), (0, .ref 12), (1, .ref (1048576 + l1))], [])) (by rw [xe_dn (k := 1) c2008]) ?_
    refine xG.lv (lv := [(0, .ref 12), (1, .ref (1048576 + l1)), (2, .int (nI (l2 - 1) - nI 1))]) (lv' := [(2, .int (nI (l2 - 1) - nI 1)), (0, .ref 12), (1, .ref (1048576 + l1))]) rfl rfl rfl ?_
    exact hK l1 (l2 - 1) (cA C2004 5 (l2 - 1) r2005) h

def w_M_move_7 : Nat → Nat → Nat → (xC) → (Nat → xC → Prop) → Prop
  | 0, _, _, _, _ => False
  | n + 1, l1, l2, C, Q => wi_M_move_7 (fun l1 l2 C => w_M_move_7 n l1 l2 C Q) l1 l2 C Q
theorem p_M_move_7 (L : Nat) (xs : Nat → Int32) (d : Nat) (Q : Nat → xC → Prop) : ∀ (n : Nat) (l1 : Nat) (l2 : Nat) (C : xC), w_M_move_7 n l1 l2 C Q → xG xec (xgt L xs) (d + 5) xi_M_move (7, [(0, .ref 12), (1, .ref (1048576 + l1)), (2, .int (nI l2 - nI 1))], []) C (xPW Q)
  | 0, _, _, _, h => by cases h
  | n + 1, l1, l2, C, h => pi_M_move_7 L xs d Q (fun l1 l2 C => w_M_move_7 n l1 l2 C Q) (fun l1 l2 C h => p_M_move_7 L xs d Q n l1 l2 C h) l1 l2 C h

def w_M_move (x1 : Nat) (C : xC) (Q : Nat → xC → Prop) : Prop := (x1 < 55 ∧ ∃ fu2 : Nat, w_M_move_7 fu2 x1 (xwT x1) C Q)
set_option maxRecDepth 8000 in
set_option maxHeartbeats 4000000 in
theorem p_M_move (L : Nat) (xs : Nat → Int32) (d : Nat) (x1 : Nat) (C : xC) (Q : Nat → xC → Prop) (h : w_M_move x1 C Q) : xG xec (xgt L xs) (d + 5) xi_M_move (0, [(0, .ref 12), (1, .ref (1048576 + x1))], []) C (xPW Q) := by
  unfold w_M_move at h
  refine xG.seg 1 (f' := (1, [(0, .ref 12), (1, .ref (1048576 + x1))], [.ref (1048576 + x1)])) (x1 := C) (fun _ => rfl) ?_
  obtain ⟨c1, h⟩ := h
  refine xG.getc rfl (by omega) (xgc_2 (l := xg_M) (ix := 84) rfl c1) ?_
  refine xG.eqf (f' := (4, [(0, .ref 12), (1, .ref (1048576 + x1))], [.int (nI (xwT x1))])) rfl ?_
  refine xG.seg 3 (f' := (7, [(2, .int (nI (xwT x1) - nI 1)), (0, .ref 12), (1, .ref (1048576 + x1))], [])) (x1 := C) (fun _ => rfl) ?_
  refine xG.lv (lv := [(0, .ref 12), (1, .ref (1048576 + x1)), (2, .int (nI (xwT x1) - nI 1))]) (lv' := [(2, .int (nI (xwT x1) - nI 1)), (0, .ref 12), (1, .ref (1048576 + x1))]) rfl rfl rfl ?_
  obtain ⟨fu2, h⟩ := h
  exact p_M_move_7 L xs d Q fu2 x1 (xwT x1) C h

def w_M_isCell (x1 : Int32) (C : xC) (Q : Nat → xC → Prop) : Prop := ((x1 < 0 → Q 0 C) ∧ (∀ e1 : Nat, x1 = nI e1 → e1 < 2147483648 → (e1 < 2147483648 ∧ ((e1 < 0 → Q 0 C) ∧ (¬ (e1 < 0) → (e1 < 2147483648 ∧ ((64 ≤ e1 → Q 0 C) ∧ (¬ (64 ≤ e1) → Q 1 C))))))))
set_option maxRecDepth 8000 in
set_option maxHeartbeats 4000000 in
theorem p_M_isCell (L : Nat) (xs : Nat → Int32) (d : Nat) (x1 : Int32) (C : xC) (Q : Nat → xC → Prop) (h : w_M_isCell x1 C Q) : xG xec (xgt L xs) (d) xi_M_isCell (0, [(0, .int x1)], []) C (xPN Q) := by
  unfold w_M_isCell at h
  refine xG.seg 1 (f' := (1, [(0, .int x1)], [.int x1])) (x1 := C) (fun _ => rfl) ?_
  rcases xe_sgn x1 with k2 | ⟨e1, k2, k2r⟩
  · replace h := h.1 k2
    refine xG.ifc (t := 14) rfl rfl (xe_ng0 k2) (fun _ => ?_) (fun q => absurd (by decide) q)
    refine xG.seg 1 (f' := (15, [(0, .int x1)], [.int (nI 0)])) (x1 := C) (fun _ => rfl) ?_
    exact xG.fin (fun _ => rfl) (⟨_, rfl, h⟩)
  · replace h := h.2 e1 k2 k2r
    subst k2
    obtain ⟨c3, h⟩ := h
    refine xG.ifc (t := 14) (A := e1 < 0) rfl rfl (xe_c (xt_N c3) (show (0 : Int32).toInt = 0 from by decide) (by dsimp only; omega)) (fun k4 => ?_) (fun k4 => ?_)
    · replace h := h.1 k4
      refine xG.seg 1 (f' := (15, [(0, .int (nI e1))], [.int (nI 0)])) (x1 := C) (fun _ => rfl) ?_
      exact xG.fin (fun _ => rfl) (⟨_, rfl, h⟩)
    · replace h := h.2 k4
      refine xG.seg 2 (f' := (7, [(0, .int (nI e1))], [.int (nI 64), .int (nI e1)])) (x1 := C) (fun _ => rfl) ?_
      obtain ⟨c5, h⟩ := h
      refine xG.icmp (t := 14) (A := 64 ≤ e1) rfl rfl (xe_c (xt_N c5) (show ((nI 64) : Int32).toInt = 64 from by decide) (by dsimp only; omega)) (fun k6 => ?_) (fun k6 => ?_)
      · replace h := h.1 k6
        refine xG.seg 1 (f' := (15, [(0, .int (nI e1))], [.int (nI 0)])) (x1 := C) (fun _ => rfl) ?_
        exact xG.fin (fun _ => rfl) (⟨_, rfl, h⟩)
      · replace h := h.2 k6
        refine xG.seg 2 (f' := (15, [(0, .int (nI e1))], [.int (nI 1)])) (x1 := C) (fun _ => rfl) ?_
        exact xG.fin (fun _ => rfl) (⟨_, rfl, h⟩)

def w_M_useCell (x1 : Nat) (x2 : Int32) (C : xC) (Q : Nat → xC → Prop) : Prop := w_M_isCell x2 C (fun r2 C1 => (r2 < 2147483648 ∧ ((r2 = 0 → Q 58 C1) ∧ (¬ (r2 = 0) → (x1 < 55 ∧ (x1 < 55 ∧ (xwV x1 < 2147483648 ∧ ((xwV x1 = 32 → (∃ e9 : Nat, x2 = nI e9 ∧ (e9 < 64 ∧ w_S_push_0 (C1.2.2.1 3 e9) C1 (fun C12 => Q 55 C12)))) ∧ (¬ xwV x1 = 32 → ((xwV x1 = 33 → w_S_pop_0 C1 (fun r15 C14 => (∃ e16 : Nat, x2 = nI e16 ∧ (e16 < 64 ∧ Q 55 (cA C14 3 e16 r15))))) ∧ (¬ xwV x1 = 33 → (∃ e19 : Nat, x2 = nI e19 ∧ (e19 < 64 ∧ w_S_pop_0 C1 (fun r23 C22 => (∃ e24 : Nat, x2 = nI e24 ∧ (e24 < 64 ∧ Q 55 (cA C22 3 e24 (((C1.2.2.1 3 e19) + r23)))))))))))))))))))
set_option maxRecDepth 8000 in
set_option maxHeartbeats 4000000 in
theorem p_M_useCell (L : Nat) (xs : Nat → Int32) (d : Nat) (x1 : Nat) (x2 : Int32) (C : xC) (Q : Nat → xC → Prop) (h : w_M_useCell x1 x2 C Q) : xG xec (xgt L xs) (d + 5) xi_M_useCell (0, [(0, .ref 12), (1, .ref (1048576 + x1)), (2, .int x2)], []) C (xPW Q) := by
  unfold w_M_useCell at h
  refine xG.seg 1 (f' := (1, [(0, .ref 12), (1, .ref (1048576 + x1)), (2, .int x2)], [.int x2])) (x1 := C) (fun _ => rfl) ?_
  refine xG.call (d := d + 4) (vs := [.int x2]) (g := (1, [(0, .ref 12), (1, .ref (1048576 + x1)), (2, .int x2)], [])) (fun _ => rfl) rfl (p_M_isCell L xs (d + 4) x2 C _ h) ?_
  clear h
  rintro _ C1 ⟨r2, rfl, h⟩
  refine ⟨_, rfl, ?_⟩
  refine xG.eqf (f' := (4, [(0, .ref 12), (1, .ref (1048576 + x1)), (2, .int x2)], [.int (nI r2)])) rfl ?_
  obtain ⟨c3, h⟩ := h
  refine xG.ifc (t := 11) (A := ¬ (r2 = 0)) rfl rfl (xe_c (xt_N c3) (show (0 : Int32).toInt = 0 from by decide) (by dsimp only; omega)) (fun k4 => ?_) (fun k4 => ?_)
  · replace h := h.2 k4
    refine xG.seg 2 (f' := (15, [(0, .ref 12), (1, .ref (1048576 + x1)), (2, .int x2)], [.ref (1048576 + x1), .ref 1048638])) (x1 := C1) (fun _ => rfl) ?_
    obtain ⟨c5, h⟩ := h
    refine xG.prim (fun _ => rfl) (fun _ => rfl) (show mx_prim xi_M_useCell (15, [(0, .ref 12), (1, .ref (1048576 + x1)), (2, .int x2)], [.ref (1048576 + x1), .ref 1048638]) = some _ from mx_pr_e (I := xi_M_useCell) (ix := 716) (k := 1) (g := xp_g 2) (pc := 15) (lv := [(0, .ref 12), (1, .ref (1048576 + x1)), (2, .int x2)]) (st := [.ref (1048576 + x1), .ref 1048638]) rfl (Nat.le_of_ble_eq_true rfl) (Nat.le_of_ble_eq_true rfl) (xpg_2 c5)) (by omega) ?_
    refine xG.eqf (f' := (18, [(0, .ref 12), (1, .ref (1048576 + x1)), (2, .int x2)], [.int (nI x1), .ref 1048638])) rfl ?_
    obtain ⟨c6, h⟩ := h
    refine xG.cald rfl (Or.inl ⟨rfl, rfl⟩) (by decide) rfl (by decide) c6 ?_
    refine xG.eqf (f' := (19, [(0, .ref 12), (1, .ref (1048576 + x1)), (2, .int x2)], [.int (xw_sw.getD x1 0)])) rfl ?_
    refine xG.conv (xwV_e c6) ?_
    obtain ⟨c7, h⟩ := h
    by_cases k8 : xwV x1 = 32
    · replace h := h.1 k8
      refine xG.lsw (t := 44) rfl c7 rfl (by rw [k8]; rfl) ?_
      refine xG.seg 5 (f' := (53, [(0, .ref 12), (1, .ref (1048576 + x1)), (2, .int x2)], [.int x2, .ref 17, .ref 13])) (x1 := C1) (fun _ => rfl) ?_
      obtain ⟨e9, c10, h⟩ := h
      refine xG.conv (c10) ?_
      obtain ⟨c11, h⟩ := h
      refine xG.iald rfl (Or.inl ⟨rfl, rfl⟩) (by decide) (fun _ => rfl) (by decide) c11 ?_
      refine xG.eqf (f' := (54, [(0, .ref 12), (1, .ref (1048576 + x1)), (2, .int x2)], [.int (C1.2.2.1 3 e9), .ref 13])) rfl ?_
      refine xG.call (d := d + 4) (vs := [.ref 13, .int (C1.2.2.1 3 e9)]) (g := (54, [(0, .ref 12), (1, .ref (1048576 + x1)), (2, .int x2)], [])) (fun _ => rfl) rfl (p_S_push_0 L xs (d + 4) (C1.2.2.1 3 e9) C1 _ h) ?_
      clear h
      rintro _ C12 ⟨rfl, h⟩
      refine ⟨_, rfl, ?_⟩
      refine xG.eqf (f' := (57, [(0, .ref 12), (1, .ref (1048576 + x1)), (2, .int x2)], [])) rfl ?_
      refine xG.seg 1 (f' := (60, [(0, .ref 12), (1, .ref (1048576 + x1)), (2, .int x2)], [.ref (1048576 + 55)])) (x1 := C12) (fun _ => rfl) ?_
      exact xG.fin (fun _ => rfl) (⟨_, rfl, h⟩)
    replace h := h.2 k8
    by_cases k13 : xwV x1 = 33
    · replace h := h.1 k13
      refine xG.lsw (t := 61) rfl c7 rfl (by rw [k13]; rfl) ?_
      refine xG.seg 5 (f' := (70, [(0, .ref 12), (1, .ref (1048576 + x1)), (2, .int x2)], [.ref 13, .int x2, .ref 17])) (x1 := C1) (fun _ => rfl) ?_
      refine xG.call (d := d + 4) (vs := [.ref 13]) (g := (70, [(0, .ref 12), (1, .ref (1048576 + x1)), (2, .int x2)], [.int x2, .ref 17])) (fun _ => rfl) rfl (p_S_pop_0 L xs (d + 4) C1 _ h) ?_
      clear h
      rintro _ C14 ⟨r15, rfl, h⟩
      refine ⟨_, rfl, ?_⟩
      refine xG.eqf (f' := (73, [(0, .ref 12), (1, .ref (1048576 + x1)), (2, .int x2)], [.int r15, .int x2, .ref 17])) rfl ?_
      obtain ⟨e16, c17, h⟩ := h
      refine xG.eqf (f' := (73, [(0, .ref 12), (1, .ref (1048576 + x1)), (2, .int x2)], [.int r15, .int (nI e16), .ref 17])) (by rw [c17]) ?_
      obtain ⟨c18, h⟩ := h
      refine xG.iast (x1 := (cA C14 3 e16 r15)) rfl (by decide) (fun _ => rfl) (by decide) c18 (fun _ => rfl) ?_
      refine xG.eqf (f' := (74, [(0, .ref 12), (1, .ref (1048576 + x1)), (2, .int x2)], [])) rfl ?_
      refine xG.seg 1 (f' := (77, [(0, .ref 12), (1, .ref (1048576 + x1)), (2, .int x2)], [.ref (1048576 + 55)])) (x1 := (cA C14 3 e16 r15)) (fun _ => rfl) ?_
      exact xG.fin (fun _ => rfl) (⟨_, rfl, h⟩)
    replace h := h.2 k13
    refine xG.lsw (t := 78) rfl c7 rfl (by rw [xlsw_d (by intro q hq; simp only [List.mem_cons, List.not_mem_nil, or_false] at hq; rcases hq with hq | hq <;> subst hq <;> dsimp only <;> omega)]; rfl) ?_
    refine xG.seg 4 (f' := (84, [(0, .ref 12), (1, .ref (1048576 + x1)), (2, .int x2)], [.int x2, .ref 17, .int x2, .ref 17])) (x1 := C1) (fun _ => rfl) ?_
    obtain ⟨e19, c20, h⟩ := h
    refine xG.conv (c20) ?_
    obtain ⟨c21, h⟩ := h
    refine xG.iald rfl (Or.inl ⟨rfl, rfl⟩) (by decide) (fun _ => rfl) (by decide) c21 ?_
    refine xG.eqf (f' := (85, [(0, .ref 12), (1, .ref (1048576 + x1)), (2, .int x2)], [.int (C1.2.2.1 3 e19), .int x2, .ref 17])) rfl ?_
    refine xG.seg 2 (f' := (89, [(0, .ref 12), (1, .ref (1048576 + x1)), (2, .int x2)], [.ref 13, .int (C1.2.2.1 3 e19), .int x2, .ref 17])) (x1 := C1) (fun _ => rfl) ?_
    refine xG.call (d := d + 4) (vs := [.ref 13]) (g := (89, [(0, .ref 12), (1, .ref (1048576 + x1)), (2, .int x2)], [.int (C1.2.2.1 3 e19), .int x2, .ref 17])) (fun _ => rfl) rfl (p_S_pop_0 L xs (d + 4) C1 _ h) ?_
    clear h
    rintro _ C22 ⟨r23, rfl, h⟩
    refine ⟨_, rfl, ?_⟩
    refine xG.eqf (f' := (92, [(0, .ref 12), (1, .ref (1048576 + x1)), (2, .int x2)], [.int r23, .int (C1.2.2.1 3 e19), .int x2, .ref 17])) rfl ?_
    refine xG.seg 1 (f' := (93, [(0, .ref 12), (1, .ref (1048576 + x1)), (2, .int x2)], [.int ((C1.2.2.1 3 e19) + r23), .int x2, .ref 17])) (x1 := C22) (fun _ => rfl) ?_
    obtain ⟨e24, c25, h⟩ := h
    refine xG.eqf (f' := (93, [(0, .ref 12), (1, .ref (1048576 + x1)), (2, .int x2)], [.int ((C1.2.2.1 3 e19) + r23), .int (nI e24), .ref 17])) (by rw [c25]) ?_
    obtain ⟨c26, h⟩ := h
    refine xG.iast (x1 := (cA C22 3 e24 (((C1.2.2.1 3 e19) + r23)))) rfl (by decide) (fun _ => rfl) (by decide) c26 (fun _ => rfl) ?_
    refine xG.eqf (f' := (94, [(0, .ref 12), (1, .ref (1048576 + x1)), (2, .int x2)], [])) rfl ?_
    refine xG.seg 1 (f' := (97, [(0, .ref 12), (1, .ref (1048576 + x1)), (2, .int x2)], [.ref (1048576 + 55)])) (x1 := (cA C22 3 e24 (((C1.2.2.1 3 e19) + r23)))) (fun _ => rfl) ?_
    exact xG.fin (fun _ => rfl) (⟨_, rfl, h⟩)
  · replace h := h.1 (Classical.not_not.mp k4)
    refine xG.seg 1 (f' := (10, [(0, .ref 12), (1, .ref (1048576 + x1)), (2, .int x2)], [.ref (1048576 + 58)])) (x1 := C1) (fun _ => rfl) ?_
    exact xG.fin (fun _ => rfl) (⟨_, rfl, h⟩)

def w_S_fromTop_1 (x1 : Nat) (C : xC) (Q : Int32 → xC → Prop) : Prop := (1 + x1 ≤ C.1 10 ∧ (C.1 10 - (1 + x1) < 24 ∧ Q (C.2.2.1 2 (C.1 10 - (1 + x1))) C))
set_option maxRecDepth 8000 in
set_option maxHeartbeats 4000000 in
theorem p_S_fromTop_1 (L : Nat) (xs : Nat → Int32) (d : Nat) (x1 : Nat) (C : xC) (Q : Int32 → xC → Prop) (h : w_S_fromTop_1 x1 C Q) : xG xec (xgt L xs) (d) xi_S_fromTop (0, [(0, .ref 15), (1, .int (nI x1))], []) C (xPI Q) := by
  unfold w_S_fromTop_1 at h
  refine xG.seg 8 (f' := (12, [(0, .ref 15), (1, .int (nI x1))], [.int ((nI (C.1 10) - nI 1) - (nI x1)), .ref 16])) (x1 := C) (fun _ => rfl) ?_
  refine xG.conv (xe_zsn _ _ _) ?_
  refine xG.eqf (f' := (12, [(0, .ref 15), (1, .int (nI x1))], [.int (nI (C.1 10) - nI (1 + x1)), .ref 16])) rfl ?_
  obtain ⟨c1, h⟩ := h
  refine xG.conv (xe_cut c1) ?_
  obtain ⟨c2, h⟩ := h
  refine xG.iald rfl (Or.inl ⟨rfl, rfl⟩) (by decide) (fun _ => rfl) (by decide) c2 ?_
  refine xG.eqf (f' := (13, [(0, .ref 15), (1, .int (nI x1))], [.int (C.2.2.1 2 (C.1 10 - (1 + x1)))])) rfl ?_
  exact xG.fin (fun _ => rfl) (⟨(C.2.2.1 2 (C.1 10 - (1 + x1))), rfl, h⟩)

def w_S_pop_1 (C : xC) (Q : Int32 → xC → Prop) : Prop := (1 ≤ C.1 10 ∧ (C.1 10 - 1 < 24 ∧ Q (C.2.2.1 2 (C.1 10 - 1)) (cN C 10 (C.1 10 - 1))))
set_option maxRecDepth 8000 in
set_option maxHeartbeats 4000000 in
theorem p_S_pop_1 (L : Nat) (xs : Nat → Int32) (d : Nat) (C : xC) (Q : Int32 → xC → Prop) (h : w_S_pop_1 C Q) : xG xec (xgt L xs) (d) xi_S_pop (0, [(0, .ref 15)], []) C (xPI Q) := by
  unfold w_S_pop_1 at h
  refine xG.seg 5 (f' := (7, [(0, .ref 15)], [.int (nI (C.1 10) - nI 1), .ref 15])) (x1 := C) (fun _ => rfl) ?_
  obtain ⟨c1, h⟩ := h
  refine xG.conv (xe_cut c1) ?_
  refine xG.seg 5 (f' := (18, [(0, .ref 15)], [.int (nI (C.1 10 - 1)), .ref 16])) (x1 := (cN C 10 (C.1 10 - 1))) (fun _ => rfl) ?_
  obtain ⟨c2, h⟩ := h
  refine xG.iald rfl (Or.inl ⟨rfl, rfl⟩) (by decide) (fun _ => rfl) (by decide) c2 ?_
  refine xG.eqf (f' := (19, [(0, .ref 15)], [.int (C.2.2.1 2 (C.1 10 - 1))])) rfl ?_
  exact xG.fin (fun _ => rfl) (⟨(C.2.2.1 2 (C.1 10 - 1)), rfl, h⟩)

def w_S_hasRoom_1 (x1 : Nat) (y1 : Nat) (C : xC) (Q : Nat → xC → Prop) : Prop := (C.1 10 + x1 < 2147483648 ∧ (y1 < 2147483648 ∧ ((24 + y1 < C.1 10 + x1 → Q 0 C) ∧ (¬ (24 + y1 < C.1 10 + x1) → Q 1 C))))
set_option maxRecDepth 8000 in
set_option maxHeartbeats 4000000 in
theorem p_S_hasRoom_1 (L : Nat) (xs : Nat → Int32) (d : Nat) (x1 : Nat) (y1 : Nat) (C : xC) (Q : Nat → xC → Prop) (h : w_S_hasRoom_1 x1 y1 C Q) : xG xec (xgt L xs) (d) xi_S_hasRoom (0, [(0, .ref 15), (1, .int (nI x1 - nI y1))], []) C (xPN Q) := by
  unfold w_S_hasRoom_1 at h
  refine xG.seg 4 (f' := (6, [(0, .ref 15), (1, .int (nI x1 - nI y1))], [.int ((nI (C.1 10)) + (nI x1 - nI y1))])) (x1 := C) (fun _ => rfl) ?_
  refine xG.conv (xe_nz _ _ _) ?_
  refine xG.eqf (f' := (6, [(0, .ref 15), (1, .int (nI x1 - nI y1))], [.int (nI (C.1 10 + x1) - nI y1)])) rfl ?_
  refine xG.seg 1 (f' := (8, [(0, .ref 15), (1, .int (nI x1 - nI y1))], [.int (nI 24), .int (nI (C.1 10 + x1) - nI y1)])) (x1 := C) (fun _ => rfl) ?_
  obtain ⟨c1, h⟩ := h
  obtain ⟨c2, h⟩ := h
  refine xG.icmp (t := 15) (A := 24 + y1 < C.1 10 + x1) rfl rfl (xe_c (xt_Z c1 c2) (show ((nI 24) : Int32).toInt = 24 from by decide) (by dsimp only; omega)) (fun k3 => ?_) (fun k3 => ?_)
  · replace h := h.1 k3
    refine xG.seg 1 (f' := (16, [(0, .ref 15), (1, .int (nI x1 - nI y1))], [.int (nI 0)])) (x1 := C) (fun _ => rfl) ?_
    exact xG.fin (fun _ => rfl) (⟨_, rfl, h⟩)
  · replace h := h.2 k3
    refine xG.seg 2 (f' := (16, [(0, .ref 15), (1, .int (nI x1 - nI y1))], [.int (nI 1)])) (x1 := C) (fun _ => rfl) ?_
    exact xG.fin (fun _ => rfl) (⟨_, rfl, h⟩)

def w_S_push_1 (x1 : Int32) (C : xC) (Q : xC → Prop) : Prop := (C.1 10 < 24 ∧ Q (cN (cA C 2 (C.1 10) x1) 10 (C.1 10 + 1)))
set_option maxRecDepth 8000 in
set_option maxHeartbeats 4000000 in
theorem p_S_push_1 (L : Nat) (xs : Nat → Int32) (d : Nat) (x1 : Int32) (C : xC) (Q : xC → Prop) (h : w_S_push_1 x1 C Q) : xG xec (xgt L xs) (d) xi_S_push (0, [(0, .ref 15), (1, .int x1)], []) C (xPV Q) := by
  unfold w_S_push_1 at h
  refine xG.seg 5 (f' := (9, [(0, .ref 15), (1, .int x1)], [.int x1, .int (nI (C.1 10)), .ref 16])) (x1 := C) (fun _ => rfl) ?_
  obtain ⟨c1, h⟩ := h
  refine xG.iast (x1 := (cA C 2 (C.1 10) x1)) rfl (by decide) (fun _ => rfl) (by decide) c1 (fun _ => rfl) ?_
  refine xG.eqf (f' := (10, [(0, .ref 15), (1, .int x1)], [])) rfl ?_
  refine xG.seg 5 (f' := (17, [(0, .ref 15), (1, .int x1)], [.int ((nI (C.1 10)) + (nI 1)), .ref 15])) (x1 := (cA C 2 (C.1 10) x1)) (fun _ => rfl) ?_
  refine xG.conv (xe_add (C.1 10) 1) ?_
  refine xG.eqf (f' := (17, [(0, .ref 15), (1, .int x1)], [.int (nI (C.1 10 + 1)), .ref 15])) rfl ?_
  refine xG.seg 1 (f' := (20, [(0, .ref 15), (1, .int x1)], [])) (x1 := (cN (cA C 2 (C.1 10) x1) 10 (C.1 10 + 1))) (fun _ => rfl) ?_
  exact xG.fin (fun _ => rfl) (⟨rfl, h⟩)

def w_M_useReturns (x1 : Nat) (C : xC) (Q : Nat → xC → Prop) : Prop := (x1 < 61 ∧ ((x1 = 31 → w_S_hasRoom_1 1 0 C (fun r14 C13 => (r14 < 2147483648 ∧ ((r14 = 0 → Q 58 C13) ∧ (¬ (r14 = 0) → w_S_pop_0 C13 (fun r18 C17 => w_S_push_1 r18 C17 (fun C19 => Q 55 C19))))))) ∧ (¬ (x1 = 31) → (C.1 10 < 2147483648 ∧ ((C.1 10 = 0 → Q 58 C) ∧ (¬ (C.1 10 = 0) → (x1 < 61 ∧ ((x1 = 32 → w_S_pop_1 C (fun r11 C10 => w_S_push_0 r11 C10 (fun C12 => Q 55 C12))) ∧ (¬ (x1 = 32) → w_S_fromTop_1 0 C (fun r8 C7 => w_S_push_0 r8 C7 (fun C9 => Q 55 C9)))))))))))
set_option maxRecDepth 8000 in
set_option maxHeartbeats 4000000 in
theorem p_M_useReturns (L : Nat) (xs : Nat → Int32) (d : Nat) (x1 : Nat) (C : xC) (Q : Nat → xC → Prop) (h : w_M_useReturns x1 C Q) : xG xec (xgt L xs) (d + 1) xi_M_useReturns (0, [(0, .ref 12), (1, .ref (1048576 + x1))], []) C (xPW Q) := by
  unfold w_M_useReturns at h
  refine xG.seg 2 (f' := (4, [(0, .ref 12), (1, .ref (1048576 + x1))], [.ref (1048576 + 31), .ref (1048576 + x1)])) (x1 := C) (fun _ => rfl) ?_
  obtain ⟨c1, h⟩ := h
  refine xG.acmp (t := 40) (A := ¬ (x1 = 31)) rfl rfl (xcst_W (e := x1) c1) (xcst_W (e := 31) (by decide)) (xe_an (not_congr xaW)) (fun k2 => ?_) (fun k2 => ?_)
  · replace h := h.2 k2
    refine xG.seg 3 (f' := (47, [(0, .ref 12), (1, .ref (1048576 + x1))], [.int (nI (C.1 10))])) (x1 := C) (fun _ => rfl) ?_
    obtain ⟨c3, h⟩ := h
    refine xG.ifc (t := 54) (A := ¬ (C.1 10 = 0)) rfl rfl (xe_c (xt_N c3) (show (0 : Int32).toInt = 0 from by decide) (by dsimp only; omega)) (fun k4 => ?_) (fun k4 => ?_)
    · replace h := h.2 k4
      refine xG.seg 4 (f' := (62, [(0, .ref 12), (1, .ref (1048576 + x1))], [.ref (1048576 + 32), .ref (1048576 + x1), .ref 13])) (x1 := C) (fun _ => rfl) ?_
      obtain ⟨c5, h⟩ := h
      refine xG.acmp (t := 75) (A := ¬ (x1 = 32)) rfl rfl (xcst_W (e := x1) c5) (xcst_W (e := 32) (by decide)) (xe_an (not_congr xaW)) (fun k6 => ?_) (fun k6 => ?_)
      · replace h := h.2 k6
        refine xG.seg 3 (f' := (80, [(0, .ref 12), (1, .ref (1048576 + x1))], [.int (nI 0), .ref 15, .ref 13])) (x1 := C) (fun _ => rfl) ?_
        refine xG.call (d := d) (vs := [.ref 15, .int (nI 0)]) (g := (80, [(0, .ref 12), (1, .ref (1048576 + x1))], [.ref 13])) (fun _ => rfl) rfl (p_S_fromTop_1 L xs d 0 C _ h) ?_
        clear h
        rintro _ C7 ⟨r8, rfl, h⟩
        refine ⟨_, rfl, ?_⟩
        refine xG.eqf (f' := (83, [(0, .ref 12), (1, .ref (1048576 + x1))], [.int r8, .ref 13])) rfl ?_
        refine xG.call (d := d) (vs := [.ref 13, .int r8]) (g := (83, [(0, .ref 12), (1, .ref (1048576 + x1))], [])) (fun _ => rfl) rfl (p_S_push_0 L xs d r8 C7 _ h) ?_
        clear h
        rintro _ C9 ⟨rfl, h⟩
        refine ⟨_, rfl, ?_⟩
        refine xG.eqf (f' := (86, [(0, .ref 12), (1, .ref (1048576 + x1))], [])) rfl ?_
        refine xG.seg 1 (f' := (89, [(0, .ref 12), (1, .ref (1048576 + x1))], [.ref (1048576 + 55)])) (x1 := C9) (fun _ => rfl) ?_
        exact xG.fin (fun _ => rfl) (⟨_, rfl, h⟩)
      · replace h := h.1 (Classical.not_not.mp k6)
        refine xG.seg 2 (f' := (69, [(0, .ref 12), (1, .ref (1048576 + x1))], [.ref 15, .ref 13])) (x1 := C) (fun _ => rfl) ?_
        refine xG.call (d := d) (vs := [.ref 15]) (g := (69, [(0, .ref 12), (1, .ref (1048576 + x1))], [.ref 13])) (fun _ => rfl) rfl (p_S_pop_1 L xs d C _ h) ?_
        clear h
        rintro _ C10 ⟨r11, rfl, h⟩
        refine ⟨_, rfl, ?_⟩
        refine xG.eqf (f' := (72, [(0, .ref 12), (1, .ref (1048576 + x1))], [.int r11, .ref 13])) rfl ?_
        refine xG.seg 1 (f' := (83, [(0, .ref 12), (1, .ref (1048576 + x1))], [.int r11, .ref 13])) (x1 := C10) (fun _ => rfl) ?_
        refine xG.call (d := d) (vs := [.ref 13, .int r11]) (g := (83, [(0, .ref 12), (1, .ref (1048576 + x1))], [])) (fun _ => rfl) rfl (p_S_push_0 L xs d r11 C10 _ h) ?_
        clear h
        rintro _ C12 ⟨rfl, h⟩
        refine ⟨_, rfl, ?_⟩
        refine xG.eqf (f' := (86, [(0, .ref 12), (1, .ref (1048576 + x1))], [])) rfl ?_
        refine xG.seg 1 (f' := (89, [(0, .ref 12), (1, .ref (1048576 + x1))], [.ref (1048576 + 55)])) (x1 := C12) (fun _ => rfl) ?_
        exact xG.fin (fun _ => rfl) (⟨_, rfl, h⟩)
    · replace h := h.1 (Classical.not_not.mp k4)
      refine xG.seg 1 (f' := (53, [(0, .ref 12), (1, .ref (1048576 + x1))], [.ref (1048576 + 58)])) (x1 := C) (fun _ => rfl) ?_
      exact xG.fin (fun _ => rfl) (⟨_, rfl, h⟩)
  · replace h := h.1 (Classical.not_not.mp k2)
    refine xG.seg 3 (f' := (12, [(0, .ref 12), (1, .ref (1048576 + x1))], [.int (nI 1), .ref 15])) (x1 := C) (fun _ => rfl) ?_
    refine xG.eqf (f' := (12, [(0, .ref 12), (1, .ref (1048576 + x1))], [.int (nI 1 - nI 0), .ref 15])) (by rw [xe_z]) ?_
    refine xG.call (d := d) (vs := [.ref 15, .int (nI 1 - nI 0)]) (g := (12, [(0, .ref 12), (1, .ref (1048576 + x1))], [])) (fun _ => rfl) rfl (p_S_hasRoom_1 L xs d 1 0 C _ h) ?_
    clear h
    rintro _ C13 ⟨r14, rfl, h⟩
    refine ⟨_, rfl, ?_⟩
    refine xG.eqf (f' := (15, [(0, .ref 12), (1, .ref (1048576 + x1))], [.int (nI r14)])) rfl ?_
    obtain ⟨c15, h⟩ := h
    refine xG.ifc (t := 22) (A := ¬ (r14 = 0)) rfl rfl (xe_c (xt_N c15) (show (0 : Int32).toInt = 0 from by decide) (by dsimp only; omega)) (fun k16 => ?_) (fun k16 => ?_)
    · replace h := h.2 k16
      refine xG.seg 4 (f' := (30, [(0, .ref 12), (1, .ref (1048576 + x1))], [.ref 13, .ref 15])) (x1 := C13) (fun _ => rfl) ?_
      refine xG.call (d := d) (vs := [.ref 13]) (g := (30, [(0, .ref 12), (1, .ref (1048576 + x1))], [.ref 15])) (fun _ => rfl) rfl (p_S_pop_0 L xs d C13 _ h) ?_
      clear h
      rintro _ C17 ⟨r18, rfl, h⟩
      refine ⟨_, rfl, ?_⟩
      refine xG.eqf (f' := (33, [(0, .ref 12), (1, .ref (1048576 + x1))], [.int r18, .ref 15])) rfl ?_
      refine xG.call (d := d) (vs := [.ref 15, .int r18]) (g := (33, [(0, .ref 12), (1, .ref (1048576 + x1))], [])) (fun _ => rfl) rfl (p_S_push_1 L xs d r18 C17 _ h) ?_
      clear h
      rintro _ C19 ⟨rfl, h⟩
      refine ⟨_, rfl, ?_⟩
      refine xG.eqf (f' := (36, [(0, .ref 12), (1, .ref (1048576 + x1))], [])) rfl ?_
      refine xG.seg 1 (f' := (39, [(0, .ref 12), (1, .ref (1048576 + x1))], [.ref (1048576 + 55)])) (x1 := C19) (fun _ => rfl) ?_
      exact xG.fin (fun _ => rfl) (⟨_, rfl, h⟩)
    · replace h := h.1 (Classical.not_not.mp k16)
      refine xG.seg 1 (f' := (21, [(0, .ref 12), (1, .ref (1048576 + x1))], [.ref (1048576 + 58)])) (x1 := C13) (fun _ => rfl) ?_
      exact xG.fin (fun _ => rfl) (⟨_, rfl, h⟩)

def w_M_put (x1 : Nat) (x2 : Int32) (C : xC) (Q : Nat → xC → Prop) : Prop := (x1 < 55 ∧ (x1 < 55 ∧ (xwV x1 < 2147483648 ∧ ((xwV x1 = 34 → w_S_push_0 (nI (C.1 9)) C (fun C5 => Q 55 C5)) ∧ (¬ xwV x1 = 34 → ((xwV x1 = 35 → (C.1 13 < 2147483648 ∧ w_S_pop_0 C (fun r9 C8 => ((C.1 13) % 40 < 40 ∧ Q 55 (cN (cA C8 4 ((C.1 13) % 40) r9) 13 (C8.1 13 + 1)))))) ∧ (¬ xwV x1 = 35 → w_S_push_0 x2 C (fun C11 => Q 55 C11))))))))
set_option maxRecDepth 8000 in
set_option maxHeartbeats 4000000 in
theorem p_M_put (L : Nat) (xs : Nat → Int32) (d : Nat) (x1 : Nat) (x2 : Int32) (C : xC) (Q : Nat → xC → Prop) (h : w_M_put x1 x2 C Q) : xG xec (xgt L xs) (d + 5) xi_M_put (0, [(0, .ref 12), (1, .ref (1048576 + x1)), (2, .int x2)], []) C (xPW Q) := by
  unfold w_M_put at h
  refine xG.seg 2 (f' := (4, [(0, .ref 12), (1, .ref (1048576 + x1)), (2, .int x2)], [.ref (1048576 + x1), .ref 1048638])) (x1 := C) (fun _ => rfl) ?_
  obtain ⟨c1, h⟩ := h
  refine xG.prim (fun _ => rfl) (fun _ => rfl) (show mx_prim xi_M_put (4, [(0, .ref 12), (1, .ref (1048576 + x1)), (2, .int x2)], [.ref (1048576 + x1), .ref 1048638]) = some _ from mx_pr_e (I := xi_M_put) (ix := 716) (k := 1) (g := xp_g 2) (pc := 4) (lv := [(0, .ref 12), (1, .ref (1048576 + x1)), (2, .int x2)]) (st := [.ref (1048576 + x1), .ref 1048638]) rfl (Nat.le_of_ble_eq_true rfl) (Nat.le_of_ble_eq_true rfl) (xpg_2 c1)) (by omega) ?_
  refine xG.eqf (f' := (7, [(0, .ref 12), (1, .ref (1048576 + x1)), (2, .int x2)], [.int (nI x1), .ref 1048638])) rfl ?_
  obtain ⟨c2, h⟩ := h
  refine xG.cald rfl (Or.inl ⟨rfl, rfl⟩) (by decide) rfl (by decide) c2 ?_
  refine xG.eqf (f' := (8, [(0, .ref 12), (1, .ref (1048576 + x1)), (2, .int x2)], [.int (xw_sw.getD x1 0)])) rfl ?_
  refine xG.conv (xwV_e c2) ?_
  obtain ⟨c3, h⟩ := h
  by_cases k4 : xwV x1 = 34
  · replace h := h.1 k4
    refine xG.lsw (t := 36) rfl c3 rfl (by rw [k4]; rfl) ?_
    refine xG.seg 5 (f' := (47, [(0, .ref 12), (1, .ref (1048576 + x1)), (2, .int x2)], [.int (nI (C.1 9)), .ref 13])) (x1 := C) (fun _ => rfl) ?_
    refine xG.call (d := d + 4) (vs := [.ref 13, .int (nI (C.1 9))]) (g := (47, [(0, .ref 12), (1, .ref (1048576 + x1)), (2, .int x2)], [])) (fun _ => rfl) rfl (p_S_push_0 L xs (d + 4) (nI (C.1 9)) C _ h) ?_
    clear h
    rintro _ C5 ⟨rfl, h⟩
    refine ⟨_, rfl, ?_⟩
    refine xG.eqf (f' := (50, [(0, .ref 12), (1, .ref (1048576 + x1)), (2, .int x2)], [])) rfl ?_
    refine xG.seg 1 (f' := (53, [(0, .ref 12), (1, .ref (1048576 + x1)), (2, .int x2)], [.ref (1048576 + 55)])) (x1 := C5) (fun _ => rfl) ?_
    exact xG.fin (fun _ => rfl) (⟨_, rfl, h⟩)
  replace h := h.2 k4
  by_cases k6 : xwV x1 = 35
  · replace h := h.1 k6
    refine xG.lsw (t := 54) rfl c3 rfl (by rw [k6]; rfl) ?_
    obtain ⟨c7, h⟩ := h
    refine xG.seg 6 (f' := (65, [(0, .ref 12), (1, .ref (1048576 + x1)), (2, .int x2)], [.int ((nI (C.1 13)) - (nI (C.1 13)) / (nI 40) * (nI 40)), .ref 18])) (x1 := C) (fun _ => rfl) ?_
    refine xG.conv (xe_rem c7 (by decide) (by decide)) ?_
    refine xG.seg 2 (f' := (69, [(0, .ref 12), (1, .ref (1048576 + x1)), (2, .int x2)], [.ref 13, .int (nI ((C.1 13) % 40)), .ref 18])) (x1 := C) (fun _ => rfl) ?_
    refine xG.call (d := d + 4) (vs := [.ref 13]) (g := (69, [(0, .ref 12), (1, .ref (1048576 + x1)), (2, .int x2)], [.int (nI ((C.1 13) % 40)), .ref 18])) (fun _ => rfl) rfl (p_S_pop_0 L xs (d + 4) C _ h) ?_
    clear h
    rintro _ C8 ⟨r9, rfl, h⟩
    refine ⟨_, rfl, ?_⟩
    refine xG.eqf (f' := (72, [(0, .ref 12), (1, .ref (1048576 + x1)), (2, .int x2)], [.int r9, .int (nI ((C.1 13) % 40)), .ref 18])) rfl ?_
    obtain ⟨c10, h⟩ := h
    refine xG.iast (x1 := (cA C8 4 ((C.1 13) % 40) r9)) rfl (by decide) (fun _ => rfl) (by decide) c10 (fun _ => rfl) ?_
    refine xG.eqf (f' := (73, [(0, .ref 12), (1, .ref (1048576 + x1)), (2, .int x2)], [])) rfl ?_
    refine xG.seg 5 (f' := (80, [(0, .ref 12), (1, .ref (1048576 + x1)), (2, .int x2)], [.int ((nI (C8.1 13)) + (nI 1)), .ref 12])) (x1 := (cA C8 4 ((C.1 13) % 40) r9)) (fun _ => rfl) ?_
    refine xG.conv (xe_add (C8.1 13) 1) ?_
    refine xG.eqf (f' := (80, [(0, .ref 12), (1, .ref (1048576 + x1)), (2, .int x2)], [.int (nI (C8.1 13 + 1)), .ref 12])) rfl ?_
    refine xG.seg 2 (f' := (86, [(0, .ref 12), (1, .ref (1048576 + x1)), (2, .int x2)], [.ref (1048576 + 55)])) (x1 := (cN (cA C8 4 ((C.1 13) % 40) r9) 13 (C8.1 13 + 1))) (fun _ => rfl) ?_
    exact xG.fin (fun _ => rfl) (⟨_, rfl, h⟩)
  replace h := h.2 k6
  refine xG.lsw (t := 87) rfl c3 rfl (by rw [xlsw_d (by intro q hq; simp only [List.mem_cons, List.not_mem_nil, or_false] at hq; rcases hq with hq | hq <;> subst hq <;> dsimp only <;> omega)]; rfl) ?_
  refine xG.seg 3 (f' := (92, [(0, .ref 12), (1, .ref (1048576 + x1)), (2, .int x2)], [.int x2, .ref 13])) (x1 := C) (fun _ => rfl) ?_
  refine xG.call (d := d + 4) (vs := [.ref 13, .int x2]) (g := (92, [(0, .ref 12), (1, .ref (1048576 + x1)), (2, .int x2)], [])) (fun _ => rfl) rfl (p_S_push_0 L xs (d + 4) x2 C _ h) ?_
  clear h
  rintro _ C11 ⟨rfl, h⟩
  refine ⟨_, rfl, ?_⟩
  refine xG.eqf (f' := (95, [(0, .ref 12), (1, .ref (1048576 + x1)), (2, .int x2)], [])) rfl ?_
  refine xG.seg 1 (f' := (98, [(0, .ref 12), (1, .ref (1048576 + x1)), (2, .int x2)], [.ref (1048576 + 55)])) (x1 := C11) (fun _ => rfl) ?_
  exact xG.fin (fun _ => rfl) (⟨_, rfl, h⟩)

def w_M_goOnAt (x1 : Nat) (C : xC) (Q : Nat → xC → Prop) : Prop := (1 ≤ C.1 11 ∧ (C.1 11 - 1 < 12 ∧ Q 55 (cB C 4 (C.1 11 - 1) x1)))
set_option maxRecDepth 8000 in
set_option maxHeartbeats 4000000 in
theorem p_M_goOnAt (L : Nat) (xs : Nat → Int32) (d : Nat) (x1 : Nat) (C : xC) (Q : Nat → xC → Prop) (h : w_M_goOnAt x1 C Q) : xG xec (xgt L xs) (d) xi_M_goOnAt (0, [(0, .ref 12), (1, .int (nI x1))], []) C (xPW Q) := by
  unfold w_M_goOnAt at h
  refine xG.seg 7 (f' := (11, [(0, .ref 12), (1, .int (nI x1))], [.int (nI x1), .int (nI (C.1 11) - nI 1), .ref 21])) (x1 := C) (fun _ => rfl) ?_
  obtain ⟨c1, h⟩ := h
  refine xG.eqf (f' := (11, [(0, .ref 12), (1, .int (nI x1))], [.int (nI x1), .int (nI (C.1 11 - 1)), .ref 21])) (by rw [xe_cut c1]) ?_
  obtain ⟨c2, h⟩ := h
  refine xG.iast (x1 := (cB C 4 (C.1 11 - 1) x1)) rfl (by decide) (fun _ => rfl) (by decide) c2 (fun _ => by rw [xu_nI]; rfl) ?_
  refine xG.eqf (f' := (12, [(0, .ref 12), (1, .int (nI x1))], [])) rfl ?_
  refine xG.seg 1 (f' := (15, [(0, .ref 12), (1, .int (nI x1))], [.ref (1048576 + 55)])) (x1 := (cB C 4 (C.1 11 - 1) x1)) (fun _ => rfl) ?_
  exact xG.fin (fun _ => rfl) (⟨_, rfl, h⟩)

def w_M_beginLoop (C : xC) (Q : Nat → xC → Prop) : Prop := w_S_hasRoom_1 2 0 C (fun r2 C1 => (r2 < 2147483648 ∧ ((r2 = 0 → Q 58 C1) ∧ (¬ (r2 = 0) → w_S_pop_0 C1 (fun r6 C5 => w_S_pop_0 C5 (fun r8 C7 => w_S_push_1 r8 C7 (fun C9 => w_S_push_1 r6 C9 (fun C10 => Q 55 C10))))))))
set_option maxRecDepth 8000 in
set_option maxHeartbeats 4000000 in
theorem p_M_beginLoop (L : Nat) (xs : Nat → Int32) (d : Nat) (C : xC) (Q : Nat → xC → Prop) (h : w_M_beginLoop C Q) : xG xec (xgt L xs) (d + 1) xi_M_beginLoop (0, [(0, .ref 12)], []) C (xPW Q) := by
  unfold w_M_beginLoop at h
  refine xG.seg 3 (f' := (5, [(0, .ref 12)], [.int (nI 2), .ref 15])) (x1 := C) (fun _ => rfl) ?_
  refine xG.eqf (f' := (5, [(0, .ref 12)], [.int (nI 2 - nI 0), .ref 15])) (by rw [xe_z]) ?_
  refine xG.call (d := d) (vs := [.ref 15, .int (nI 2 - nI 0)]) (g := (5, [(0, .ref 12)], [])) (fun _ => rfl) rfl (p_S_hasRoom_1 L xs d 2 0 C _ h) ?_
  clear h
  rintro _ C1 ⟨r2, rfl, h⟩
  refine ⟨_, rfl, ?_⟩
  refine xG.eqf (f' := (8, [(0, .ref 12)], [.int (nI r2)])) rfl ?_
  obtain ⟨c3, h⟩ := h
  refine xG.ifc (t := 15) (A := ¬ (r2 = 0)) rfl rfl (xe_c (xt_N c3) (show (0 : Int32).toInt = 0 from by decide) (by dsimp only; omega)) (fun k4 => ?_) (fun k4 => ?_)
  · replace h := h.2 k4
    refine xG.seg 2 (f' := (19, [(0, .ref 12)], [.ref 13])) (x1 := C1) (fun _ => rfl) ?_
    refine xG.call (d := d) (vs := [.ref 13]) (g := (19, [(0, .ref 12)], [])) (fun _ => rfl) rfl (p_S_pop_0 L xs d C1 _ h) ?_
    clear h
    rintro _ C5 ⟨r6, rfl, h⟩
    refine ⟨_, rfl, ?_⟩
    refine xG.eqf (f' := (22, [(0, .ref 12)], [.int r6])) rfl ?_
    refine xG.seg 5 (f' := (31, [(1, .int r6), (0, .ref 12)], [.ref 13, .ref 15])) (x1 := C5) (fun _ => rfl) ?_
    refine xG.call (d := d) (vs := [.ref 13]) (g := (31, [(1, .int r6), (0, .ref 12)], [.ref 15])) (fun _ => rfl) rfl (p_S_pop_0 L xs d C5 _ h) ?_
    clear h
    rintro _ C7 ⟨r8, rfl, h⟩
    refine ⟨_, rfl, ?_⟩
    refine xG.eqf (f' := (34, [(1, .int r6), (0, .ref 12)], [.int r8, .ref 15])) rfl ?_
    refine xG.call (d := d) (vs := [.ref 15, .int r8]) (g := (34, [(1, .int r6), (0, .ref 12)], [])) (fun _ => rfl) rfl (p_S_push_1 L xs d r8 C7 _ h) ?_
    clear h
    rintro _ C9 ⟨rfl, h⟩
    refine ⟨_, rfl, ?_⟩
    refine xG.eqf (f' := (37, [(1, .int r6), (0, .ref 12)], [])) rfl ?_
    refine xG.seg 3 (f' := (42, [(1, .int r6), (0, .ref 12)], [.int r6, .ref 15])) (x1 := C9) (fun _ => rfl) ?_
    refine xG.call (d := d) (vs := [.ref 15, .int r6]) (g := (42, [(1, .int r6), (0, .ref 12)], [])) (fun _ => rfl) rfl (p_S_push_1 L xs d r6 C9 _ h) ?_
    clear h
    rintro _ C10 ⟨rfl, h⟩
    refine ⟨_, rfl, ?_⟩
    refine xG.eqf (f' := (45, [(1, .int r6), (0, .ref 12)], [])) rfl ?_
    refine xG.seg 1 (f' := (48, [(1, .int r6), (0, .ref 12)], [.ref (1048576 + 55)])) (x1 := C10) (fun _ => rfl) ?_
    exact xG.fin (fun _ => rfl) (⟨_, rfl, h⟩)
  · replace h := h.1 (Classical.not_not.mp k4)
    refine xG.seg 1 (f' := (14, [(0, .ref 12)], [.ref (1048576 + 58)])) (x1 := C1) (fun _ => rfl) ?_
    exact xG.fin (fun _ => rfl) (⟨_, rfl, h⟩)

def w_M_endLoop (x1 : Nat) (C : xC) (Q : Nat → xC → Prop) : Prop := (C.1 10 < 2147483648 ∧ ((2 ≤ C.1 10 → w_S_pop_1 C (fun r4 C3 => w_S_fromTop_1 0 C3 (fun r6 C5 => (((r4 + (nI 1)) = r6 → w_S_pop_1 C5 (fun r12 C11 => Q 55 C11)) ∧ (¬ ((r4 + (nI 1)) = r6) → w_S_push_1 (r4 + (nI 1)) C5 (fun C8 => w_M_goOnAt x1 C8 (fun r10 C9 => Q r10 C9))))))) ∧ (¬ (2 ≤ C.1 10) → Q 58 C)))
set_option maxRecDepth 8000 in
set_option maxHeartbeats 4000000 in
theorem p_M_endLoop (L : Nat) (xs : Nat → Int32) (d : Nat) (x1 : Nat) (C : xC) (Q : Nat → xC → Prop) (h : w_M_endLoop x1 C Q) : xG xec (xgt L xs) (d + 1) xi_M_endLoop (0, [(0, .ref 12), (1, .int (nI x1))], []) C (xPW Q) := by
  unfold w_M_endLoop at h
  refine xG.seg 4 (f' := (8, [(0, .ref 12), (1, .int (nI x1))], [.int (nI 2), .int (nI (C.1 10))])) (x1 := C) (fun _ => rfl) ?_
  obtain ⟨c1, h⟩ := h
  refine xG.icmp (t := 15) (A := 2 ≤ C.1 10) rfl rfl (xe_c (xt_N c1) (show ((nI 2) : Int32).toInt = 2 from by decide) (by dsimp only; omega)) (fun k2 => ?_) (fun k2 => ?_)
  · replace h := h.1 k2
    refine xG.seg 2 (f' := (19, [(0, .ref 12), (1, .int (nI x1))], [.ref 15])) (x1 := C) (fun _ => rfl) ?_
    refine xG.call (d := d) (vs := [.ref 15]) (g := (19, [(0, .ref 12), (1, .int (nI x1))], [])) (fun _ => rfl) rfl (p_S_pop_1 L xs d C _ h) ?_
    clear h
    rintro _ C3 ⟨r4, rfl, h⟩
    refine ⟨_, rfl, ?_⟩
    refine xG.eqf (f' := (22, [(0, .ref 12), (1, .int (nI x1))], [.int r4])) rfl ?_
    refine xG.seg 7 (f' := (31, [(2, .int (r4 + (nI 1))), (0, .ref 12), (1, .int (nI x1))], [.int (nI 0), .ref 15, .int (r4 + (nI 1))])) (x1 := C3) (fun _ => rfl) ?_
    refine xG.call (d := d) (vs := [.ref 15, .int (nI 0)]) (g := (31, [(2, .int (r4 + (nI 1))), (0, .ref 12), (1, .int (nI x1))], [.int (r4 + (nI 1))])) (fun _ => rfl) rfl (p_S_fromTop_1 L xs d 0 C3 _ h) ?_
    clear h
    rintro _ C5 ⟨r6, rfl, h⟩
    refine ⟨_, rfl, ?_⟩
    refine xG.eqf (f' := (34, [(2, .int (r4 + (nI 1))), (0, .ref 12), (1, .int (nI x1))], [.int r6, .int (r4 + (nI 1))])) rfl ?_
    refine xG.icmp (t := 49) (A := ¬ ((r4 + (nI 1)) = r6)) rfl rfl (xe_rn _ _) (fun k7 => ?_) (fun k7 => ?_)
    · replace h := h.2 k7
      refine xG.seg 3 (f' := (54, [(2, .int (r4 + (nI 1))), (0, .ref 12), (1, .int (nI x1))], [.int (r4 + (nI 1)), .ref 15])) (x1 := C5) (fun _ => rfl) ?_
      refine xG.call (d := d) (vs := [.ref 15, .int (r4 + (nI 1))]) (g := (54, [(2, .int (r4 + (nI 1))), (0, .ref 12), (1, .int (nI x1))], [])) (fun _ => rfl) rfl (p_S_push_1 L xs d (r4 + (nI 1)) C5 _ h) ?_
      clear h
      rintro _ C8 ⟨rfl, h⟩
      refine ⟨_, rfl, ?_⟩
      refine xG.eqf (f' := (57, [(2, .int (r4 + (nI 1))), (0, .ref 12), (1, .int (nI x1))], [])) rfl ?_
      refine xG.seg 2 (f' := (59, [(2, .int (r4 + (nI 1))), (0, .ref 12), (1, .int (nI x1))], [.int (nI x1), .ref 12])) (x1 := C8) (fun _ => rfl) ?_
      refine xG.call (d := d) (vs := [.ref 12, .int (nI x1)]) (g := (59, [(2, .int (r4 + (nI 1))), (0, .ref 12), (1, .int (nI x1))], [])) (fun _ => rfl) rfl (p_M_goOnAt L xs d x1 C8 _ h) ?_
      clear h
      rintro _ C9 ⟨r10, rfl, h⟩
      refine ⟨_, rfl, ?_⟩
      refine xG.eqf (f' := (62, [(2, .int (r4 + (nI 1))), (0, .ref 12), (1, .int (nI x1))], [.ref (1048576 + r10)])) rfl ?_
      exact xG.fin (fun _ => rfl) (⟨_, rfl, h⟩)
    · replace h := h.1 (Classical.not_not.mp k7)
      refine xG.seg 2 (f' := (41, [(2, .int (r4 + (nI 1))), (0, .ref 12), (1, .int (nI x1))], [.ref 15])) (x1 := C5) (fun _ => rfl) ?_
      refine xG.call (d := d) (vs := [.ref 15]) (g := (41, [(2, .int (r4 + (nI 1))), (0, .ref 12), (1, .int (nI x1))], [])) (fun _ => rfl) rfl (p_S_pop_1 L xs d C5 _ h) ?_
      clear h
      rintro _ C11 ⟨r12, rfl, h⟩
      refine ⟨_, rfl, ?_⟩
      refine xG.eqf (f' := (44, [(2, .int (r4 + (nI 1))), (0, .ref 12), (1, .int (nI x1))], [.int r12])) rfl ?_
      refine xG.seg 2 (f' := (48, [(2, .int (r4 + (nI 1))), (0, .ref 12), (1, .int (nI x1))], [.ref (1048576 + 55)])) (x1 := C11) (fun _ => rfl) ?_
      exact xG.fin (fun _ => rfl) (⟨_, rfl, h⟩)
  · replace h := h.2 k2
    refine xG.seg 1 (f' := (14, [(0, .ref 12), (1, .int (nI x1))], [.ref (1048576 + 58)])) (x1 := C) (fun _ => rfl) ?_
    exact xG.fin (fun _ => rfl) (⟨_, rfl, h⟩)

def w_D_at (x1 : Int32) (C : xC) (Q : Option Nat → xC → Prop) : Prop := ((x1 < 0 → Q none C) ∧ (∀ e1 : Nat, x1 = nI e1 → e1 < 2147483648 → (e1 < 2147483648 ∧ ((e1 < 0 → Q none C) ∧ (¬ (e1 < 0) → (e1 < 2147483648 ∧ (C.1 4 < 2147483648 ∧ ((C.1 4 ≤ e1 → Q none C) ∧ (¬ (C.1 4 ≤ e1) → (e1 < 40 ∧ Q (C.2.2.2.2.1 0 e1) C))))))))))
set_option maxRecDepth 8000 in
set_option maxHeartbeats 4000000 in
theorem p_D_at (L : Nat) (xs : Nat → Int32) (d : Nat) (x1 : Int32) (C : xC) (Q : Option Nat → xC → Prop) (h : w_D_at x1 C Q) : xG xec (xgt L xs) (d) xi_D_at (0, [(0, .ref 3), (1, .int x1)], []) C (xPO Q) := by
  unfold w_D_at at h
  refine xG.seg 1 (f' := (1, [(0, .ref 3), (1, .int x1)], [.int x1])) (x1 := C) (fun _ => rfl) ?_
  rcases xe_sgn x1 with k2 | ⟨e1, k2, k2r⟩
  · replace h := h.1 k2
    refine xG.ifc (t := 21) rfl rfl (xe_ng0 k2) (fun _ => ?_) (fun q => absurd (by decide) q)
    refine xG.seg 1 (f' := (22, [(0, .ref 3), (1, .int x1)], [.null])) (x1 := C) (fun _ => rfl) ?_
    exact xG.aret (q := none) rfl ⟨_, rfl⟩ ⟨_, rfl, h⟩
  · replace h := h.2 e1 k2 k2r
    subst k2
    obtain ⟨c3, h⟩ := h
    refine xG.ifc (t := 21) (A := e1 < 0) rfl rfl (xe_c (xt_N c3) (show (0 : Int32).toInt = 0 from by decide) (by dsimp only; omega)) (fun k4 => ?_) (fun k4 => ?_)
    · replace h := h.1 k4
      refine xG.seg 1 (f' := (22, [(0, .ref 3), (1, .int (nI e1))], [.null])) (x1 := C) (fun _ => rfl) ?_
      exact xG.aret (q := none) rfl ⟨_, rfl⟩ ⟨_, rfl, h⟩
    · replace h := h.2 k4
      refine xG.seg 3 (f' := (9, [(0, .ref 3), (1, .int (nI e1))], [.int (nI (C.1 4)), .int (nI e1)])) (x1 := C) (fun _ => rfl) ?_
      obtain ⟨c5, h⟩ := h
      obtain ⟨c6, h⟩ := h
      refine xG.icmp (t := 21) (A := C.1 4 ≤ e1) rfl rfl (xe_c (xt_N c5) (xt_N c6) (by dsimp only; omega)) (fun k7 => ?_) (fun k7 => ?_)
      · replace h := h.1 k7
        refine xG.seg 1 (f' := (22, [(0, .ref 3), (1, .int (nI e1))], [.null])) (x1 := C) (fun _ => rfl) ?_
        exact xG.aret (q := none) rfl ⟨_, rfl⟩ ⟨_, rfl, h⟩
      · replace h := h.2 k7
        refine xG.seg 3 (f' := (17, [(0, .ref 3), (1, .int (nI e1))], [.int (nI e1), .ref 4])) (x1 := C) (fun _ => rfl) ?_
        obtain ⟨c8, h⟩ := h
        refine xG.aald rfl (Or.inr rfl) (by decide) (fun _ => rfl) (by decide) c8 ?_
        refine xG.eqf (f' := (18, [(0, .ref 3), (1, .int (nI e1))], [va_rf (C.2.2.2.2.1 0 e1)])) rfl ?_
        refine xG.seg 1 (f' := (22, [(0, .ref 3), (1, .int (nI e1))], [va_rf (C.2.2.2.2.1 0 e1)])) (x1 := C) (fun _ => rfl) ?_
        exact xG.aret (q := (C.2.2.2.2.1 0 e1)) rfl ⟨_, rfl⟩ ⟨_, rfl, h⟩

def w_M_enter_n (C : xC) (Q : Nat → xC → Prop) : Prop := Q 58 C
set_option maxRecDepth 8000 in
set_option maxHeartbeats 4000000 in
theorem p_M_enter_n (L : Nat) (xs : Nat → Int32) (d : Nat) (C : xC) (Q : Nat → xC → Prop) (h : w_M_enter_n C Q) : xG xec (xgt L xs) (d) xi_M_enter (0, [(0, .ref 12), (1, .null)], []) C (xPW Q) := by
  unfold w_M_enter_n at h
  refine xG.seg 3 (f' := (16, [(0, .ref 12), (1, .null)], [.ref (1048576 + 58)])) (x1 := C) (fun _ => rfl) ?_
  exact xG.fin (fun _ => rfl) (⟨_, rfl, h⟩)

def w_M_enter_D (x1 : Nat) (C : xC) (Q : Nat → xC → Prop) : Prop := (C.1 11 < 2147483648 ∧ ((C.1 11 = 12 → Q 58 C) ∧ (¬ (C.1 11 = 12) → (C.1 11 < 12 ∧ (xDk C x1 ∧ (C.1 11 < 12 ∧ Q 55 (cN (cB (cR C 3 (C.1 11) (some x1)) 4 (C.1 11) 0) 11 (C.1 11 + 1))))))))
set_option maxRecDepth 8000 in
set_option maxHeartbeats 4000000 in
theorem p_M_enter_D (L : Nat) (xs : Nat → Int32) (d : Nat) (x1 : Nat) (C : xC) (Q : Nat → xC → Prop) (h : w_M_enter_D x1 C Q) : xG xec (xgt L xs) (d) xi_M_enter (0, [(0, .ref 12), (1, .ref x1)], []) C (xPW Q) := by
  unfold w_M_enter_D at h
  refine xG.seg 5 (f' := (10, [(0, .ref 12), (1, .ref x1)], [.int (nI 12), .int (nI (C.1 11))])) (x1 := C) (fun _ => rfl) ?_
  obtain ⟨c1, h⟩ := h
  refine xG.icmp (t := 17) (A := ¬ (C.1 11 = 12)) rfl rfl (xe_c (xt_N c1) (show ((nI 12) : Int32).toInt = 12 from by decide) (by dsimp only; omega)) (fun k2 => ?_) (fun k2 => ?_)
  · replace h := h.2 k2
    refine xG.seg 5 (f' := (26, [(0, .ref 12), (1, .ref x1)], [.ref x1, .int (nI (C.1 11)), .ref 20])) (x1 := C) (fun _ => rfl) ?_
    obtain ⟨c3, h⟩ := h
    obtain ⟨c4, h⟩ := h
    refine xG.aastD (fs := _) (x1 := (cR C 3 (C.1 11) (some x1))) rfl (by decide) (fun _ => rfl) (by decide) c3 rfl c4.1 (fun y => xDk.at c4 y) (fun _ => rfl) ?_
    refine xG.eqf (f' := (27, [(0, .ref 12), (1, .ref x1)], [])) rfl ?_
    refine xG.seg 5 (f' := (36, [(0, .ref 12), (1, .ref x1)], [.int (nI 0), .int (nI (C.1 11)), .ref 21])) (x1 := (cR C 3 (C.1 11) (some x1))) (fun _ => rfl) ?_
    obtain ⟨c5, h⟩ := h
    refine xG.iast (x1 := (cB (cR C 3 (C.1 11) (some x1)) 4 (C.1 11) 0)) rfl (by decide) (fun _ => rfl) (by decide) c5 (fun _ => by rw [xu_nI]; rfl) ?_
    refine xG.eqf (f' := (37, [(0, .ref 12), (1, .ref x1)], [])) rfl ?_
    refine xG.seg 5 (f' := (44, [(0, .ref 12), (1, .ref x1)], [.int ((nI (C.1 11)) + (nI 1)), .ref 12])) (x1 := (cB (cR C 3 (C.1 11) (some x1)) 4 (C.1 11) 0)) (fun _ => rfl) ?_
    refine xG.conv (xe_add (C.1 11) 1) ?_
    refine xG.eqf (f' := (44, [(0, .ref 12), (1, .ref x1)], [.int (nI (C.1 11 + 1)), .ref 12])) rfl ?_
    refine xG.seg 2 (f' := (50, [(0, .ref 12), (1, .ref x1)], [.ref (1048576 + 55)])) (x1 := (cN (cB (cR C 3 (C.1 11) (some x1)) 4 (C.1 11) 0) 11 (C.1 11 + 1))) (fun _ => rfl) ?_
    exact xG.fin (fun _ => rfl) (⟨_, rfl, h⟩)
  · replace h := h.1 (Classical.not_not.mp k2)
    refine xG.seg 1 (f' := (16, [(0, .ref 12), (1, .ref x1)], [.ref (1048576 + 58)])) (x1 := C) (fun _ => rfl) ?_
    exact xG.fin (fun _ => rfl) (⟨_, rfl, h⟩)

def w_M_control (x1 : Nat) (x2 : Int32) (C : xC) (Q : Nat → xC → Prop) : Prop := (x1 < 55 ∧ (x1 < 55 ∧ (xwV x1 < 2147483648 ∧ ((xwV x1 = 3 → w_S_pop_0 C (fun r6 C5 => ((r6 = 0 → (∃ e8 : Nat, x2 = nI e8 ∧ w_M_goOnAt e8 C5 (fun r11 C10 => Q r11 C10))) ∧ (¬ (r6 = 0) → Q 55 C5)))) ∧ (¬ xwV x1 = 3 → ((xwV x1 = 4 → (∃ e13 : Nat, x2 = nI e13 ∧ w_M_goOnAt e13 C (fun r16 C15 => Q r16 C15))) ∧ (¬ xwV x1 = 4 → ((xwV x1 = 7 → w_S_pop_0 C (fun r19 C18 => ((r19 = 0 → (∃ e21 : Nat, x2 = nI e21 ∧ w_M_goOnAt e21 C18 (fun r24 C23 => Q r24 C23))) ∧ (¬ (r19 = 0) → Q 55 C18)))) ∧ (¬ xwV x1 = 7 → ((xwV x1 = 8 → (∃ e26 : Nat, x2 = nI e26 ∧ w_M_goOnAt e26 C (fun r29 C28 => Q r29 C28))) ∧ (¬ xwV x1 = 8 → ((xwV x1 = 9 → w_S_pop_0 C (fun r32 C31 => ((r32 = 0 → (∃ e34 : Nat, x2 = nI e34 ∧ w_M_goOnAt e34 C31 (fun r37 C36 => Q r37 C36))) ∧ (¬ (r32 = 0) → Q 55 C31)))) ∧ (¬ xwV x1 = 9 → ((xwV x1 = 10 → (∃ e39 : Nat, x2 = nI e39 ∧ w_M_goOnAt e39 C (fun r42 C41 => Q r42 C41))) ∧ (¬ xwV x1 = 10 → ((xwV x1 = 11 → w_M_beginLoop C (fun r45 C44 => Q r45 C44)) ∧ (¬ xwV x1 = 11 → ((xwV x1 = 12 → (∃ e47 : Nat, x2 = nI e47 ∧ w_M_endLoop e47 C (fun r50 C49 => Q r50 C49))) ∧ (¬ xwV x1 = 12 → ((xwV x1 = 36 → (1 ≤ C.1 11 ∧ (C.1 11 - 1 < 12 ∧ (∃ (a55 : Nat) (D56 : xDf), C.2.2.2.2.1 3 (C.1 11 - 1) = some a55 ∧ xD C a55 D56 ∧ w_M_goOnAt D56.2.1 C (fun r58 C57 => Q r58 C57))))) ∧ (¬ xwV x1 = 36 → ((xwV x1 = 37 → w_D_at x2 C (fun r61 C60 => ((r61 = none → w_M_enter_n C60 (fun r64 C63 => Q r64 C63)) ∧ (¬ r61 = none → ∃ a65 : Nat, r61 = some a65 ∧ w_M_enter_D a65 C60 (fun r67 C66 => Q r67 C66))))) ∧ (¬ xwV x1 = 37 → Q 55 C)))))))))))))))))))))))
set_option maxRecDepth 8000 in
set_option maxHeartbeats 4000000 in
theorem p_M_control (L : Nat) (xs : Nat → Int32) (d : Nat) (x1 : Nat) (x2 : Int32) (C : xC) (Q : Nat → xC → Prop) (h : w_M_control x1 x2 C Q) : xG xec (xgt L xs) (d + 5) xi_M_control (0, [(0, .ref 12), (1, .ref (1048576 + x1)), (2, .int x2)], []) C (xPW Q) := by
  unfold w_M_control at h
  refine xG.seg 2 (f' := (4, [(0, .ref 12), (1, .ref (1048576 + x1)), (2, .int x2)], [.ref (1048576 + x1), .ref 1048638])) (x1 := C) (fun _ => rfl) ?_
  obtain ⟨c1, h⟩ := h
  refine xG.prim (fun _ => rfl) (fun _ => rfl) (show mx_prim xi_M_control (4, [(0, .ref 12), (1, .ref (1048576 + x1)), (2, .int x2)], [.ref (1048576 + x1), .ref 1048638]) = some _ from mx_pr_e (I := xi_M_control) (ix := 716) (k := 1) (g := xp_g 2) (pc := 4) (lv := [(0, .ref 12), (1, .ref (1048576 + x1)), (2, .int x2)]) (st := [.ref (1048576 + x1), .ref 1048638]) rfl (Nat.le_of_ble_eq_true rfl) (Nat.le_of_ble_eq_true rfl) (xpg_2 c1)) (by omega) ?_
  refine xG.eqf (f' := (7, [(0, .ref 12), (1, .ref (1048576 + x1)), (2, .int x2)], [.int (nI x1), .ref 1048638])) rfl ?_
  obtain ⟨c2, h⟩ := h
  refine xG.cald rfl (Or.inl ⟨rfl, rfl⟩) (by decide) rfl (by decide) c2 ?_
  refine xG.eqf (f' := (8, [(0, .ref 12), (1, .ref (1048576 + x1)), (2, .int x2)], [.int (xw_sw.getD x1 0)])) rfl ?_
  refine xG.conv (xwV_e c2) ?_
  obtain ⟨c3, h⟩ := h
  by_cases k4 : xwV x1 = 3
  · replace h := h.1 k4
    refine xG.tsw (t := 164) rfl c3 (by rw [k4]; rfl) ?_
    refine xG.seg 2 (f' := (168, [(0, .ref 12), (1, .ref (1048576 + x1)), (2, .int x2)], [.ref 13])) (x1 := C) (fun _ => rfl) ?_
    refine xG.call (d := d + 4) (vs := [.ref 13]) (g := (168, [(0, .ref 12), (1, .ref (1048576 + x1)), (2, .int x2)], [])) (fun _ => rfl) rfl (p_S_pop_0 L xs (d + 4) C _ h) ?_
    clear h
    rintro _ C5 ⟨r6, rfl, h⟩
    refine ⟨_, rfl, ?_⟩
    refine xG.eqf (f' := (171, [(0, .ref 12), (1, .ref (1048576 + x1)), (2, .int x2)], [.int r6])) rfl ?_
    refine xG.ifc (t := 182) (A := ¬ (r6 = 0)) rfl rfl (xe_rn _ _) (fun k7 => ?_) (fun k7 => ?_)
    · replace h := h.2 k7
      refine xG.seg 1 (f' := (185, [(0, .ref 12), (1, .ref (1048576 + x1)), (2, .int x2)], [.ref (1048576 + 55)])) (x1 := C5) (fun _ => rfl) ?_
      exact xG.fin (fun _ => rfl) (⟨_, rfl, h⟩)
    · replace h := h.1 (Classical.not_not.mp k7)
      refine xG.seg 2 (f' := (176, [(0, .ref 12), (1, .ref (1048576 + x1)), (2, .int x2)], [.int x2, .ref 12])) (x1 := C5) (fun _ => rfl) ?_
      obtain ⟨e8, c9, h⟩ := h
      refine xG.conv (c9) ?_
      refine xG.call (d := d + 4) (vs := [.ref 12, .int (nI e8)]) (g := (176, [(0, .ref 12), (1, .ref (1048576 + x1)), (2, .int x2)], [])) (fun _ => rfl) rfl (p_M_goOnAt L xs (d + 4) e8 C5 _ h) ?_
      clear h
      rintro _ C10 ⟨r11, rfl, h⟩
      refine ⟨_, rfl, ?_⟩
      refine xG.eqf (f' := (179, [(0, .ref 12), (1, .ref (1048576 + x1)), (2, .int x2)], [.ref (1048576 + r11)])) rfl ?_
      refine xG.seg 1 (f' := (185, [(0, .ref 12), (1, .ref (1048576 + x1)), (2, .int x2)], [.ref (1048576 + r11)])) (x1 := C10) (fun _ => rfl) ?_
      exact xG.fin (fun _ => rfl) (⟨_, rfl, h⟩)
  replace h := h.2 k4
  by_cases k12 : xwV x1 = 4
  · replace h := h.1 k12
    refine xG.tsw (t := 186) rfl c3 (by rw [k12]; rfl) ?_
    refine xG.seg 2 (f' := (188, [(0, .ref 12), (1, .ref (1048576 + x1)), (2, .int x2)], [.int x2, .ref 12])) (x1 := C) (fun _ => rfl) ?_
    obtain ⟨e13, c14, h⟩ := h
    refine xG.conv (c14) ?_
    refine xG.call (d := d + 4) (vs := [.ref 12, .int (nI e13)]) (g := (188, [(0, .ref 12), (1, .ref (1048576 + x1)), (2, .int x2)], [])) (fun _ => rfl) rfl (p_M_goOnAt L xs (d + 4) e13 C _ h) ?_
    clear h
    rintro _ C15 ⟨r16, rfl, h⟩
    refine ⟨_, rfl, ?_⟩
    refine xG.eqf (f' := (191, [(0, .ref 12), (1, .ref (1048576 + x1)), (2, .int x2)], [.ref (1048576 + r16)])) rfl ?_
    exact xG.fin (fun _ => rfl) (⟨_, rfl, h⟩)
  replace h := h.2 k12
  by_cases k17 : xwV x1 = 7
  · replace h := h.1 k17
    refine xG.tsw (t := 164) rfl c3 (by rw [k17]; rfl) ?_
    refine xG.seg 2 (f' := (168, [(0, .ref 12), (1, .ref (1048576 + x1)), (2, .int x2)], [.ref 13])) (x1 := C) (fun _ => rfl) ?_
    refine xG.call (d := d + 4) (vs := [.ref 13]) (g := (168, [(0, .ref 12), (1, .ref (1048576 + x1)), (2, .int x2)], [])) (fun _ => rfl) rfl (p_S_pop_0 L xs (d + 4) C _ h) ?_
    clear h
    rintro _ C18 ⟨r19, rfl, h⟩
    refine ⟨_, rfl, ?_⟩
    refine xG.eqf (f' := (171, [(0, .ref 12), (1, .ref (1048576 + x1)), (2, .int x2)], [.int r19])) rfl ?_
    refine xG.ifc (t := 182) (A := ¬ (r19 = 0)) rfl rfl (xe_rn _ _) (fun k20 => ?_) (fun k20 => ?_)
    · replace h := h.2 k20
      refine xG.seg 1 (f' := (185, [(0, .ref 12), (1, .ref (1048576 + x1)), (2, .int x2)], [.ref (1048576 + 55)])) (x1 := C18) (fun _ => rfl) ?_
      exact xG.fin (fun _ => rfl) (⟨_, rfl, h⟩)
    · replace h := h.1 (Classical.not_not.mp k20)
      refine xG.seg 2 (f' := (176, [(0, .ref 12), (1, .ref (1048576 + x1)), (2, .int x2)], [.int x2, .ref 12])) (x1 := C18) (fun _ => rfl) ?_
      obtain ⟨e21, c22, h⟩ := h
      refine xG.conv (c22) ?_
      refine xG.call (d := d + 4) (vs := [.ref 12, .int (nI e21)]) (g := (176, [(0, .ref 12), (1, .ref (1048576 + x1)), (2, .int x2)], [])) (fun _ => rfl) rfl (p_M_goOnAt L xs (d + 4) e21 C18 _ h) ?_
      clear h
      rintro _ C23 ⟨r24, rfl, h⟩
      refine ⟨_, rfl, ?_⟩
      refine xG.eqf (f' := (179, [(0, .ref 12), (1, .ref (1048576 + x1)), (2, .int x2)], [.ref (1048576 + r24)])) rfl ?_
      refine xG.seg 1 (f' := (185, [(0, .ref 12), (1, .ref (1048576 + x1)), (2, .int x2)], [.ref (1048576 + r24)])) (x1 := C23) (fun _ => rfl) ?_
      exact xG.fin (fun _ => rfl) (⟨_, rfl, h⟩)
  replace h := h.2 k17
  by_cases k25 : xwV x1 = 8
  · replace h := h.1 k25
    refine xG.tsw (t := 186) rfl c3 (by rw [k25]; rfl) ?_
    refine xG.seg 2 (f' := (188, [(0, .ref 12), (1, .ref (1048576 + x1)), (2, .int x2)], [.int x2, .ref 12])) (x1 := C) (fun _ => rfl) ?_
    obtain ⟨e26, c27, h⟩ := h
    refine xG.conv (c27) ?_
    refine xG.call (d := d + 4) (vs := [.ref 12, .int (nI e26)]) (g := (188, [(0, .ref 12), (1, .ref (1048576 + x1)), (2, .int x2)], [])) (fun _ => rfl) rfl (p_M_goOnAt L xs (d + 4) e26 C _ h) ?_
    clear h
    rintro _ C28 ⟨r29, rfl, h⟩
    refine ⟨_, rfl, ?_⟩
    refine xG.eqf (f' := (191, [(0, .ref 12), (1, .ref (1048576 + x1)), (2, .int x2)], [.ref (1048576 + r29)])) rfl ?_
    exact xG.fin (fun _ => rfl) (⟨_, rfl, h⟩)
  replace h := h.2 k25
  by_cases k30 : xwV x1 = 9
  · replace h := h.1 k30
    refine xG.tsw (t := 164) rfl c3 (by rw [k30]; rfl) ?_
    refine xG.seg 2 (f' := (168, [(0, .ref 12), (1, .ref (1048576 + x1)), (2, .int x2)], [.ref 13])) (x1 := C) (fun _ => rfl) ?_
    refine xG.call (d := d + 4) (vs := [.ref 13]) (g := (168, [(0, .ref 12), (1, .ref (1048576 + x1)), (2, .int x2)], [])) (fun _ => rfl) rfl (p_S_pop_0 L xs (d + 4) C _ h) ?_
    clear h
    rintro _ C31 ⟨r32, rfl, h⟩
    refine ⟨_, rfl, ?_⟩
    refine xG.eqf (f' := (171, [(0, .ref 12), (1, .ref (1048576 + x1)), (2, .int x2)], [.int r32])) rfl ?_
    refine xG.ifc (t := 182) (A := ¬ (r32 = 0)) rfl rfl (xe_rn _ _) (fun k33 => ?_) (fun k33 => ?_)
    · replace h := h.2 k33
      refine xG.seg 1 (f' := (185, [(0, .ref 12), (1, .ref (1048576 + x1)), (2, .int x2)], [.ref (1048576 + 55)])) (x1 := C31) (fun _ => rfl) ?_
      exact xG.fin (fun _ => rfl) (⟨_, rfl, h⟩)
    · replace h := h.1 (Classical.not_not.mp k33)
      refine xG.seg 2 (f' := (176, [(0, .ref 12), (1, .ref (1048576 + x1)), (2, .int x2)], [.int x2, .ref 12])) (x1 := C31) (fun _ => rfl) ?_
      obtain ⟨e34, c35, h⟩ := h
      refine xG.conv (c35) ?_
      refine xG.call (d := d + 4) (vs := [.ref 12, .int (nI e34)]) (g := (176, [(0, .ref 12), (1, .ref (1048576 + x1)), (2, .int x2)], [])) (fun _ => rfl) rfl (p_M_goOnAt L xs (d + 4) e34 C31 _ h) ?_
      clear h
      rintro _ C36 ⟨r37, rfl, h⟩
      refine ⟨_, rfl, ?_⟩
      refine xG.eqf (f' := (179, [(0, .ref 12), (1, .ref (1048576 + x1)), (2, .int x2)], [.ref (1048576 + r37)])) rfl ?_
      refine xG.seg 1 (f' := (185, [(0, .ref 12), (1, .ref (1048576 + x1)), (2, .int x2)], [.ref (1048576 + r37)])) (x1 := C36) (fun _ => rfl) ?_
      exact xG.fin (fun _ => rfl) (⟨_, rfl, h⟩)
  replace h := h.2 k30
  by_cases k38 : xwV x1 = 10
  · replace h := h.1 k38
    refine xG.tsw (t := 186) rfl c3 (by rw [k38]; rfl) ?_
    refine xG.seg 2 (f' := (188, [(0, .ref 12), (1, .ref (1048576 + x1)), (2, .int x2)], [.int x2, .ref 12])) (x1 := C) (fun _ => rfl) ?_
    obtain ⟨e39, c40, h⟩ := h
    refine xG.conv (c40) ?_
    refine xG.call (d := d + 4) (vs := [.ref 12, .int (nI e39)]) (g := (188, [(0, .ref 12), (1, .ref (1048576 + x1)), (2, .int x2)], [])) (fun _ => rfl) rfl (p_M_goOnAt L xs (d + 4) e39 C _ h) ?_
    clear h
    rintro _ C41 ⟨r42, rfl, h⟩
    refine ⟨_, rfl, ?_⟩
    refine xG.eqf (f' := (191, [(0, .ref 12), (1, .ref (1048576 + x1)), (2, .int x2)], [.ref (1048576 + r42)])) rfl ?_
    exact xG.fin (fun _ => rfl) (⟨_, rfl, h⟩)
  replace h := h.2 k38
  by_cases k43 : xwV x1 = 11
  · replace h := h.1 k43
    refine xG.tsw (t := 192) rfl c3 (by rw [k43]; rfl) ?_
    refine xG.seg 1 (f' := (193, [(0, .ref 12), (1, .ref (1048576 + x1)), (2, .int x2)], [.ref 12])) (x1 := C) (fun _ => rfl) ?_
    refine xG.call (d := d + 4) (vs := [.ref 12]) (g := (193, [(0, .ref 12), (1, .ref (1048576 + x1)), (2, .int x2)], [])) (fun _ => rfl) rfl (p_M_beginLoop L xs (d + 3) C _ h) ?_
    clear h
    rintro _ C44 ⟨r45, rfl, h⟩
    refine ⟨_, rfl, ?_⟩
    refine xG.eqf (f' := (196, [(0, .ref 12), (1, .ref (1048576 + x1)), (2, .int x2)], [.ref (1048576 + r45)])) rfl ?_
    exact xG.fin (fun _ => rfl) (⟨_, rfl, h⟩)
  replace h := h.2 k43
  by_cases k46 : xwV x1 = 12
  · replace h := h.1 k46
    refine xG.tsw (t := 197) rfl c3 (by rw [k46]; rfl) ?_
    refine xG.seg 2 (f' := (199, [(0, .ref 12), (1, .ref (1048576 + x1)), (2, .int x2)], [.int x2, .ref 12])) (x1 := C) (fun _ => rfl) ?_
    obtain ⟨e47, c48, h⟩ := h
    refine xG.conv (c48) ?_
    refine xG.call (d := d + 4) (vs := [.ref 12, .int (nI e47)]) (g := (199, [(0, .ref 12), (1, .ref (1048576 + x1)), (2, .int x2)], [])) (fun _ => rfl) rfl (p_M_endLoop L xs (d + 3) e47 C _ h) ?_
    clear h
    rintro _ C49 ⟨r50, rfl, h⟩
    refine ⟨_, rfl, ?_⟩
    refine xG.eqf (f' := (202, [(0, .ref 12), (1, .ref (1048576 + x1)), (2, .int x2)], [.ref (1048576 + r50)])) rfl ?_
    exact xG.fin (fun _ => rfl) (⟨_, rfl, h⟩)
  replace h := h.2 k46
  by_cases k51 : xwV x1 = 36
  · replace h := h.1 k51
    refine xG.tsw (t := 203) rfl c3 (by rw [k51]; rfl) ?_
    refine xG.seg 7 (f' := (214, [(0, .ref 12), (1, .ref (1048576 + x1)), (2, .int x2)], [.int (nI (C.1 11) - nI 1), .ref 20, .ref 12])) (x1 := C) (fun _ => rfl) ?_
    obtain ⟨c52, h⟩ := h
    refine xG.conv (xe_cut c52) ?_
    obtain ⟨c53, h⟩ := h
    refine xG.aald rfl (Or.inr rfl) (by decide) (fun _ => rfl) (by decide) c53 ?_
    refine xG.eqf (f' := (215, [(0, .ref 12), (1, .ref (1048576 + x1)), (2, .int x2)], [va_rf (C.2.2.2.2.1 3 (C.1 11 - 1)), .ref 12])) rfl ?_
    obtain ⟨a55, D56, c54, hD56, h⟩ := h
    refine xG.eqf (f' := (215, [(0, .ref 12), (1, .ref (1048576 + x1)), (2, .int x2)], [.ref a55, .ref 12])) (by rw [c54]; rfl) ?_
    refine xG.geto rfl rfl hD56.lt (fun y => hD56.at0 y) rfl ?_
    refine xG.eqf (f' := (218, [(0, .ref 12), (1, .ref (1048576 + x1)), (2, .int x2)], [.int (nI D56.2.1), .ref 12])) rfl ?_
    refine xG.call (d := d + 4) (vs := [.ref 12, .int (nI D56.2.1)]) (g := (218, [(0, .ref 12), (1, .ref (1048576 + x1)), (2, .int x2)], [])) (fun _ => rfl) rfl (p_M_goOnAt L xs (d + 4) D56.2.1 C _ h) ?_
    clear h
    rintro _ C57 ⟨r58, rfl, h⟩
    refine ⟨_, rfl, ?_⟩
    refine xG.eqf (f' := (221, [(0, .ref 12), (1, .ref (1048576 + x1)), (2, .int x2)], [.ref (1048576 + r58)])) rfl ?_
    exact xG.fin (fun _ => rfl) (⟨_, rfl, h⟩)
  replace h := h.2 k51
  by_cases k59 : xwV x1 = 37
  · replace h := h.1 k59
    refine xG.tsw (t := 222) rfl c3 (by rw [k59]; rfl) ?_
    refine xG.seg 4 (f' := (228, [(0, .ref 12), (1, .ref (1048576 + x1)), (2, .int x2)], [.int x2, .ref 3, .ref 12])) (x1 := C) (fun _ => rfl) ?_
    refine xG.call (d := d + 4) (vs := [.ref 3, .int x2]) (g := (228, [(0, .ref 12), (1, .ref (1048576 + x1)), (2, .int x2)], [.ref 12])) (fun _ => rfl) rfl (p_D_at L xs (d + 4) x2 C _ h) ?_
    clear h
    rintro _ C60 ⟨r61, rfl, h⟩
    refine ⟨_, rfl, ?_⟩
    refine xG.eqf (f' := (231, [(0, .ref 12), (1, .ref (1048576 + x1)), (2, .int x2)], [va_rf r61, .ref 12])) rfl ?_
    by_cases k62 : r61 = none
    · replace h := h.1 k62
      refine xG.eqf (f' := (231, [(0, .ref 12), (1, .ref (1048576 + x1)), (2, .int x2)], [.null, .ref 12])) (by rw [k62]; rfl) ?_
      refine xG.call (d := d + 4) (vs := [.ref 12, .null]) (g := (231, [(0, .ref 12), (1, .ref (1048576 + x1)), (2, .int x2)], [])) (fun _ => rfl) rfl (p_M_enter_n L xs (d + 4) C60 _ h) ?_
      clear h
      rintro _ C63 ⟨r64, rfl, h⟩
      refine ⟨_, rfl, ?_⟩
      refine xG.eqf (f' := (234, [(0, .ref 12), (1, .ref (1048576 + x1)), (2, .int x2)], [.ref (1048576 + r64)])) rfl ?_
      exact xG.fin (fun _ => rfl) (⟨_, rfl, h⟩)
    · replace h := h.2 k62
      obtain ⟨a65, k62a, h⟩ := h
      refine xG.eqf (f' := (231, [(0, .ref 12), (1, .ref (1048576 + x1)), (2, .int x2)], [.ref a65, .ref 12])) (by rw [k62a]; rfl) ?_
      refine xG.call (d := d + 4) (vs := [.ref 12, .ref a65]) (g := (231, [(0, .ref 12), (1, .ref (1048576 + x1)), (2, .int x2)], [])) (fun _ => rfl) rfl (p_M_enter_D L xs (d + 4) a65 C60 _ h) ?_
      clear h
      rintro _ C66 ⟨r67, rfl, h⟩
      refine ⟨_, rfl, ?_⟩
      refine xG.eqf (f' := (234, [(0, .ref 12), (1, .ref (1048576 + x1)), (2, .int x2)], [.ref (1048576 + r67)])) rfl ?_
      exact xG.fin (fun _ => rfl) (⟨_, rfl, h⟩)
  replace h := h.2 k59
  refine xG.tsw (t := 235) rfl c3 (xtsw_d [3, 4, 7, 8, 9, 10, 11, 12, 36, 37] rfl (by decide) rfl (by decide) (by simp only [List.mem_cons, List.not_mem_nil, or_false]; omega)) ?_
  refine xG.seg 1 (f' := (238, [(0, .ref 12), (1, .ref (1048576 + x1)), (2, .int x2)], [.ref (1048576 + 55)])) (x1 := C) (fun _ => rfl) ?_
  exact xG.fin (fun _ => rfl) (⟨_, rfl, h⟩)

def w_M_perform (x1 : Nat) (x2 : Int32) (C : xC) (Q : Nat → xC → Prop) : Prop := (x1 < 55 ∧ (C.1 9 < 2147483648 ∧ (xwT x1 < 2147483648 ∧ ((C.1 9 < xwT x1 → Q 58 C) ∧ (¬ (C.1 9 < xwT x1) → (x1 < 55 ∧ (x1 < 55 ∧ (x1 < 55 ∧ w_S_hasRoom_0 (xwL x1) (xwT x1) C (fun r9 C8 => (r9 < 2147483648 ∧ ((r9 = 0 → Q 58 C8) ∧ (¬ (r9 = 0) → (x1 < 55 ∧ (xwK x1 < 2147483648 ∧ ((xwK x1 = 0 → w_M_performOfTwo x1 C8 (fun r16 C15 => Q r16 C15)) ∧ (¬ xwK x1 = 0 → ((xwK x1 = 1 → w_S_pop_0 C8 (fun r19 C18 => w_M_ofOne x1 r19 C18 (fun r21 C20 => w_S_push_0 r21 C20 (fun C22 => Q 55 C22)))) ∧ (¬ xwK x1 = 1 → ((xwK x1 = 2 → w_M_move x1 C8 (fun r25 C24 => Q r25 C24)) ∧ (¬ xwK x1 = 2 → ((xwK x1 = 3 → w_S_pop_0 C8 (fun r28 C27 => w_M_useCell x1 r28 C27 (fun r30 C29 => Q r30 C29))) ∧ (¬ xwK x1 = 3 → ((xwK x1 = 4 → w_M_useReturns x1 C8 (fun r33 C32 => Q r33 C32)) ∧ (¬ xwK x1 = 4 → ((xwK x1 = 5 → w_M_put x1 x2 C8 (fun r36 C35 => Q r36 C35)) ∧ (¬ xwK x1 = 5 → w_M_control x1 x2 C8 (fun r38 C37 => Q r38 C37)))))))))))))))))))))))))))
set_option maxRecDepth 8000 in
set_option maxHeartbeats 4000000 in
theorem p_M_perform (L : Nat) (xs : Nat → Int32) (d : Nat) (x1 : Nat) (x2 : Int32) (C : xC) (Q : Nat → xC → Prop) (h : w_M_perform x1 x2 C Q) : xG xec (xgt L xs) (d + 7) xi_M_perform (0, [(0, .ref 12), (1, .ref (1048576 + x1)), (2, .int x2)], []) C (xPW Q) := by
  unfold w_M_perform at h
  refine xG.seg 4 (f' := (8, [(0, .ref 12), (1, .ref (1048576 + x1)), (2, .int x2)], [.ref (1048576 + x1), .int (nI (C.1 9))])) (x1 := C) (fun _ => rfl) ?_
  obtain ⟨c1, h⟩ := h
  refine xG.getc rfl (by omega) (xgc_2 (l := xg_M) (ix := 84) rfl c1) ?_
  refine xG.eqf (f' := (11, [(0, .ref 12), (1, .ref (1048576 + x1)), (2, .int x2)], [.int (nI (xwT x1)), .int (nI (C.1 9))])) rfl ?_
  obtain ⟨c2, h⟩ := h
  obtain ⟨c3, h⟩ := h
  refine xG.icmp (t := 36) (A := C.1 9 < xwT x1) rfl rfl (xe_c (xt_N c2) (xt_N c3) (by dsimp only; omega)) (fun k4 => ?_) (fun k4 => ?_)
  · replace h := h.1 k4
    refine xG.seg 1 (f' := (39, [(0, .ref 12), (1, .ref (1048576 + x1)), (2, .int x2)], [.ref (1048576 + 58)])) (x1 := C) (fun _ => rfl) ?_
    exact xG.fin (fun _ => rfl) (⟨_, rfl, h⟩)
  · replace h := h.2 k4
    refine xG.seg 3 (f' := (19, [(0, .ref 12), (1, .ref (1048576 + x1)), (2, .int x2)], [.ref (1048576 + x1), .ref 13])) (x1 := C) (fun _ => rfl) ?_
    obtain ⟨c5, h⟩ := h
    refine xG.getc rfl (by omega) (xgc_3 (l := xg_M) (ix := 110) rfl c5) ?_
    refine xG.eqf (f' := (22, [(0, .ref 12), (1, .ref (1048576 + x1)), (2, .int x2)], [.ref (1048641 + xwG x1), .ref 13])) rfl ?_
    obtain ⟨c6, h⟩ := h
    refine xG.prim (fun _ => rfl) (fun _ => rfl) (show mx_prim xi_M_perform (22, [(0, .ref 12), (1, .ref (1048576 + x1)), (2, .int x2)], [.ref (1048641 + xwG x1), .ref 13]) = some _ from mx_pr_e (I := xi_M_perform) (ix := 456) (k := 1) (g := xp_g 0) (pc := 22) (lv := [(0, .ref 12), (1, .ref (1048576 + x1)), (2, .int x2)]) (st := [.ref (1048641 + xwG x1), .ref 13]) rfl (Nat.le_of_ble_eq_true rfl) (Nat.le_of_ble_eq_true rfl) (xpg_0 c6)) (by omega) ?_
    refine xG.eqf (f' := (25, [(0, .ref 12), (1, .ref (1048576 + x1)), (2, .int x2)], [.int (nI (xwL x1)), .ref 13])) rfl ?_
    refine xG.seg 1 (f' := (26, [(0, .ref 12), (1, .ref (1048576 + x1)), (2, .int x2)], [.ref (1048576 + x1), .int (nI (xwL x1)), .ref 13])) (x1 := C) (fun _ => rfl) ?_
    obtain ⟨c7, h⟩ := h
    refine xG.getc rfl (by omega) (xgc_2 (l := xg_M) (ix := 84) rfl c7) ?_
    refine xG.eqf (f' := (29, [(0, .ref 12), (1, .ref (1048576 + x1)), (2, .int x2)], [.int (nI (xwT x1)), .int (nI (xwL x1)), .ref 13])) rfl ?_
    refine xG.seg 1 (f' := (30, [(0, .ref 12), (1, .ref (1048576 + x1)), (2, .int x2)], [.int (nI (xwL x1) - nI (xwT x1)), .ref 13])) (x1 := C) (fun _ => rfl) ?_
    refine xG.call (d := d + 6) (vs := [.ref 13, .int (nI (xwL x1) - nI (xwT x1))]) (g := (30, [(0, .ref 12), (1, .ref (1048576 + x1)), (2, .int x2)], [])) (fun _ => rfl) rfl (p_S_hasRoom_0 L xs (d + 6) (xwL x1) (xwT x1) C _ h) ?_
    clear h
    rintro _ C8 ⟨r9, rfl, h⟩
    refine ⟨_, rfl, ?_⟩
    refine xG.eqf (f' := (33, [(0, .ref 12), (1, .ref (1048576 + x1)), (2, .int x2)], [.int (nI r9)])) rfl ?_
    obtain ⟨c10, h⟩ := h
    refine xG.ifc (t := 40) (A := ¬ (r9 = 0)) rfl rfl (xe_c (xt_N c10) (show (0 : Int32).toInt = 0 from by decide) (by dsimp only; omega)) (fun k11 => ?_) (fun k11 => ?_)
    · replace h := h.2 k11
      refine xG.seg 1 (f' := (41, [(0, .ref 12), (1, .ref (1048576 + x1)), (2, .int x2)], [.ref (1048576 + x1)])) (x1 := C8) (fun _ => rfl) ?_
      obtain ⟨c12, h⟩ := h
      refine xG.getc rfl (by omega) (xgc_1 (l := xg_M) (ix := 127) rfl c12) ?_
      refine xG.eqf (f' := (44, [(0, .ref 12), (1, .ref (1048576 + x1)), (2, .int x2)], [.int (nI (xwK x1))])) rfl ?_
      obtain ⟨c13, h⟩ := h
      by_cases k14 : xwK x1 = 0
      · replace h := h.1 k14
        refine xG.tsw (t := 84) rfl c13 (by rw [k14]; rfl) ?_
        refine xG.seg 2 (f' := (86, [(0, .ref 12), (1, .ref (1048576 + x1)), (2, .int x2)], [.ref (1048576 + x1), .ref 12])) (x1 := C8) (fun _ => rfl) ?_
        refine xG.call (d := d + 6) (vs := [.ref 12, .ref (1048576 + x1)]) (g := (86, [(0, .ref 12), (1, .ref (1048576 + x1)), (2, .int x2)], [])) (fun _ => rfl) rfl (p_M_performOfTwo L xs d x1 C8 _ h) ?_
        clear h
        rintro _ C15 ⟨r16, rfl, h⟩
        refine ⟨_, rfl, ?_⟩
        refine xG.eqf (f' := (89, [(0, .ref 12), (1, .ref (1048576 + x1)), (2, .int x2)], [.ref (1048576 + r16)])) rfl ?_
        exact xG.fin (fun _ => rfl) (⟨_, rfl, h⟩)
      replace h := h.2 k14
      by_cases k17 : xwK x1 = 1
      · replace h := h.1 k17
        refine xG.tsw (t := 90) rfl c13 (by rw [k17]; rfl) ?_
        refine xG.seg 5 (f' := (99, [(0, .ref 12), (1, .ref (1048576 + x1)), (2, .int x2)], [.ref 13, .ref (1048576 + x1), .ref 13])) (x1 := C8) (fun _ => rfl) ?_
        refine xG.call (d := d + 6) (vs := [.ref 13]) (g := (99, [(0, .ref 12), (1, .ref (1048576 + x1)), (2, .int x2)], [.ref (1048576 + x1), .ref 13])) (fun _ => rfl) rfl (p_S_pop_0 L xs (d + 6) C8 _ h) ?_
        clear h
        rintro _ C18 ⟨r19, rfl, h⟩
        refine ⟨_, rfl, ?_⟩
        refine xG.eqf (f' := (102, [(0, .ref 12), (1, .ref (1048576 + x1)), (2, .int x2)], [.int r19, .ref (1048576 + x1), .ref 13])) rfl ?_
        refine xG.call (d := d + 6) (vs := [.ref (1048576 + x1), .int r19]) (g := (102, [(0, .ref 12), (1, .ref (1048576 + x1)), (2, .int x2)], [.ref 13])) (fun _ => rfl) rfl (p_M_ofOne L xs (d + 1) x1 r19 C18 _ h) ?_
        clear h
        rintro _ C20 ⟨r21, rfl, h⟩
        refine ⟨_, rfl, ?_⟩
        refine xG.eqf (f' := (105, [(0, .ref 12), (1, .ref (1048576 + x1)), (2, .int x2)], [.int r21, .ref 13])) rfl ?_
        refine xG.call (d := d + 6) (vs := [.ref 13, .int r21]) (g := (105, [(0, .ref 12), (1, .ref (1048576 + x1)), (2, .int x2)], [])) (fun _ => rfl) rfl (p_S_push_0 L xs (d + 6) r21 C20 _ h) ?_
        clear h
        rintro _ C22 ⟨rfl, h⟩
        refine ⟨_, rfl, ?_⟩
        refine xG.eqf (f' := (108, [(0, .ref 12), (1, .ref (1048576 + x1)), (2, .int x2)], [])) rfl ?_
        refine xG.seg 1 (f' := (111, [(0, .ref 12), (1, .ref (1048576 + x1)), (2, .int x2)], [.ref (1048576 + 55)])) (x1 := C22) (fun _ => rfl) ?_
        exact xG.fin (fun _ => rfl) (⟨_, rfl, h⟩)
      replace h := h.2 k17
      by_cases k23 : xwK x1 = 2
      · replace h := h.1 k23
        refine xG.tsw (t := 112) rfl c13 (by rw [k23]; rfl) ?_
        refine xG.seg 2 (f' := (114, [(0, .ref 12), (1, .ref (1048576 + x1)), (2, .int x2)], [.ref (1048576 + x1), .ref 12])) (x1 := C8) (fun _ => rfl) ?_
        refine xG.call (d := d + 6) (vs := [.ref 12, .ref (1048576 + x1)]) (g := (114, [(0, .ref 12), (1, .ref (1048576 + x1)), (2, .int x2)], [])) (fun _ => rfl) rfl (p_M_move L xs (d + 1) x1 C8 _ h) ?_
        clear h
        rintro _ C24 ⟨r25, rfl, h⟩
        refine ⟨_, rfl, ?_⟩
        refine xG.eqf (f' := (117, [(0, .ref 12), (1, .ref (1048576 + x1)), (2, .int x2)], [.ref (1048576 + r25)])) rfl ?_
        exact xG.fin (fun _ => rfl) (⟨_, rfl, h⟩)
      replace h := h.2 k23
      by_cases k26 : xwK x1 = 3
      · replace h := h.1 k26
        refine xG.tsw (t := 118) rfl c13 (by rw [k26]; rfl) ?_
        refine xG.seg 4 (f' := (124, [(0, .ref 12), (1, .ref (1048576 + x1)), (2, .int x2)], [.ref 13, .ref (1048576 + x1), .ref 12])) (x1 := C8) (fun _ => rfl) ?_
        refine xG.call (d := d + 6) (vs := [.ref 13]) (g := (124, [(0, .ref 12), (1, .ref (1048576 + x1)), (2, .int x2)], [.ref (1048576 + x1), .ref 12])) (fun _ => rfl) rfl (p_S_pop_0 L xs (d + 6) C8 _ h) ?_
        clear h
        rintro _ C27 ⟨r28, rfl, h⟩
        refine ⟨_, rfl, ?_⟩
        refine xG.eqf (f' := (127, [(0, .ref 12), (1, .ref (1048576 + x1)), (2, .int x2)], [.int r28, .ref (1048576 + x1), .ref 12])) rfl ?_
        refine xG.call (d := d + 6) (vs := [.ref 12, .ref (1048576 + x1), .int r28]) (g := (127, [(0, .ref 12), (1, .ref (1048576 + x1)), (2, .int x2)], [])) (fun _ => rfl) rfl (p_M_useCell L xs (d + 1) x1 r28 C27 _ h) ?_
        clear h
        rintro _ C29 ⟨r30, rfl, h⟩
        refine ⟨_, rfl, ?_⟩
        refine xG.eqf (f' := (130, [(0, .ref 12), (1, .ref (1048576 + x1)), (2, .int x2)], [.ref (1048576 + r30)])) rfl ?_
        exact xG.fin (fun _ => rfl) (⟨_, rfl, h⟩)
      replace h := h.2 k26
      by_cases k31 : xwK x1 = 4
      · replace h := h.1 k31
        refine xG.tsw (t := 131) rfl c13 (by rw [k31]; rfl) ?_
        refine xG.seg 2 (f' := (133, [(0, .ref 12), (1, .ref (1048576 + x1)), (2, .int x2)], [.ref (1048576 + x1), .ref 12])) (x1 := C8) (fun _ => rfl) ?_
        refine xG.call (d := d + 6) (vs := [.ref 12, .ref (1048576 + x1)]) (g := (133, [(0, .ref 12), (1, .ref (1048576 + x1)), (2, .int x2)], [])) (fun _ => rfl) rfl (p_M_useReturns L xs (d + 5) x1 C8 _ h) ?_
        clear h
        rintro _ C32 ⟨r33, rfl, h⟩
        refine ⟨_, rfl, ?_⟩
        refine xG.eqf (f' := (136, [(0, .ref 12), (1, .ref (1048576 + x1)), (2, .int x2)], [.ref (1048576 + r33)])) rfl ?_
        exact xG.fin (fun _ => rfl) (⟨_, rfl, h⟩)
      replace h := h.2 k31
      by_cases k34 : xwK x1 = 5
      · replace h := h.1 k34
        refine xG.tsw (t := 137) rfl c13 (by rw [k34]; rfl) ?_
        refine xG.seg 3 (f' := (140, [(0, .ref 12), (1, .ref (1048576 + x1)), (2, .int x2)], [.int x2, .ref (1048576 + x1), .ref 12])) (x1 := C8) (fun _ => rfl) ?_
        refine xG.call (d := d + 6) (vs := [.ref 12, .ref (1048576 + x1), .int x2]) (g := (140, [(0, .ref 12), (1, .ref (1048576 + x1)), (2, .int x2)], [])) (fun _ => rfl) rfl (p_M_put L xs (d + 1) x1 x2 C8 _ h) ?_
        clear h
        rintro _ C35 ⟨r36, rfl, h⟩
        refine ⟨_, rfl, ?_⟩
        refine xG.eqf (f' := (143, [(0, .ref 12), (1, .ref (1048576 + x1)), (2, .int x2)], [.ref (1048576 + r36)])) rfl ?_
        exact xG.fin (fun _ => rfl) (⟨_, rfl, h⟩)
      replace h := h.2 k34
      refine xG.tsw (t := 144) rfl c13 (xtsw_d [0, 1, 2, 3, 4, 5] rfl (by decide) rfl (by decide) (by simp only [List.mem_cons, List.not_mem_nil, or_false]; omega)) ?_
      refine xG.seg 3 (f' := (147, [(0, .ref 12), (1, .ref (1048576 + x1)), (2, .int x2)], [.int x2, .ref (1048576 + x1), .ref 12])) (x1 := C8) (fun _ => rfl) ?_
      refine xG.call (d := d + 6) (vs := [.ref 12, .ref (1048576 + x1), .int x2]) (g := (147, [(0, .ref 12), (1, .ref (1048576 + x1)), (2, .int x2)], [])) (fun _ => rfl) rfl (p_M_control L xs (d + 1) x1 x2 C8 _ h) ?_
      clear h
      rintro _ C37 ⟨r38, rfl, h⟩
      refine ⟨_, rfl, ?_⟩
      refine xG.eqf (f' := (150, [(0, .ref 12), (1, .ref (1048576 + x1)), (2, .int x2)], [.ref (1048576 + r38)])) rfl ?_
      exact xG.fin (fun _ => rfl) (⟨_, rfl, h⟩)
    · replace h := h.1 (Classical.not_not.mp k11)
      refine xG.seg 1 (f' := (39, [(0, .ref 12), (1, .ref (1048576 + x1)), (2, .int x2)], [.ref (1048576 + 58)])) (x1 := C8) (fun _ => rfl) ?_
      exact xG.fin (fun _ => rfl) (⟨_, rfl, h⟩)

def w_M_leaveWhatEnded (C : xC) (Q : xC → Prop) : Prop := (1 ≤ C.1 11 ∧ (C.1 11 - 1 < 12 ∧ (1 ≤ C.1 11 ∧ (C.1 11 - 1 < 12 ∧ (∃ (a6 : Nat) (D7 : xDf), C.2.2.2.2.1 3 (C.1 11 - 1) = some a6 ∧ xD C a6 D7 ∧ (C.2.1 4 (C.1 11 - 1) < 2147483648 ∧ (D7.2.1 < 2147483648 ∧ ((C.2.1 4 (C.1 11 - 1) = D7.2.1 → (1 ≤ C.1 11 ∧ Q (cN C 11 (C.1 11 - 1)))) ∧ (¬ (C.2.1 4 (C.1 11 - 1) = D7.2.1) → Q C)))))))))
set_option maxRecDepth 8000 in
set_option maxHeartbeats 4000000 in
theorem p_M_leaveWhatEnded (L : Nat) (xs : Nat → Int32) (d : Nat) (C : xC) (Q : xC → Prop) (h : w_M_leaveWhatEnded C Q) : xG xec (xgt L xs) (d) xi_M_leaveWhatEnded (0, [(0, .ref 12)], []) C (xPV Q) := by
  unfold w_M_leaveWhatEnded at h
  refine xG.seg 6 (f' := (10, [(0, .ref 12)], [.int (nI (C.1 11) - nI 1), .ref 21])) (x1 := C) (fun _ => rfl) ?_
  obtain ⟨c1, h⟩ := h
  refine xG.conv (xe_cut c1) ?_
  obtain ⟨c2, h⟩ := h
  refine xG.iald rfl (Or.inl ⟨rfl, rfl⟩) (by decide) (fun _ => rfl) (by decide) c2 ?_
  refine xG.eqf (f' := (11, [(0, .ref 12)], [.int (nI (C.2.1 4 (C.1 11 - 1)))])) rfl ?_
  refine xG.seg 6 (f' := (21, [(0, .ref 12)], [.int (nI (C.1 11) - nI 1), .ref 20, .int (nI (C.2.1 4 (C.1 11 - 1)))])) (x1 := C) (fun _ => rfl) ?_
  obtain ⟨c3, h⟩ := h
  refine xG.conv (xe_cut c3) ?_
  obtain ⟨c4, h⟩ := h
  refine xG.aald rfl (Or.inr rfl) (by decide) (fun _ => rfl) (by decide) c4 ?_
  refine xG.eqf (f' := (22, [(0, .ref 12)], [va_rf (C.2.2.2.2.1 3 (C.1 11 - 1)), .int (nI (C.2.1 4 (C.1 11 - 1)))])) rfl ?_
  obtain ⟨a6, D7, c5, hD7, h⟩ := h
  refine xG.eqf (f' := (22, [(0, .ref 12)], [.ref a6, .int (nI (C.2.1 4 (C.1 11 - 1)))])) (by rw [c5]; rfl) ?_
  refine xG.geto rfl rfl hD7.lt (fun y => hD7.at0 y) rfl ?_
  refine xG.eqf (f' := (25, [(0, .ref 12)], [.int (nI D7.2.1), .int (nI (C.2.1 4 (C.1 11 - 1)))])) rfl ?_
  obtain ⟨c8, h⟩ := h
  obtain ⟨c9, h⟩ := h
  refine xG.icmp (t := 38) (A := ¬ (C.2.1 4 (C.1 11 - 1) = D7.2.1)) rfl rfl (xe_c (xt_N c8) (xt_N c9) (by dsimp only; omega)) (fun k10 => ?_) (fun k10 => ?_)
  · replace h := h.2 k10
    exact xG.fin (fun _ => rfl) (⟨rfl, h⟩)
  · replace h := h.1 (Classical.not_not.mp k10)
    refine xG.seg 5 (f' := (35, [(0, .ref 12)], [.int (nI (C.1 11) - nI 1), .ref 12])) (x1 := C) (fun _ => rfl) ?_
    obtain ⟨c11, h⟩ := h
    refine xG.conv (xe_cut c11) ?_
    refine xG.seg 1 (f' := (38, [(0, .ref 12)], [])) (x1 := (cN C 11 (C.1 11 - 1))) (fun _ => rfl) ?_
    exact xG.fin (fun _ => rfl) (⟨rfl, h⟩)

def wi_M_doWord_28 (K : Nat → Nat → xC → Prop) (l3 : Nat) (l4 : Nat) (C : xC) (Q : Nat → xC → Prop) : Prop := (l4 < 2147483648 ∧ ((600 < l4 → Q l3 C) ∧ (¬ (600 < l4) → (C.1 11 < 2147483648 ∧ ((C.1 11 ≤ 0 → Q l3 C) ∧ (¬ (C.1 11 ≤ 0) → (l3 < 61 ∧ ((l3 = 55 → (1 ≤ C.1 11 ∧ (C.1 11 - 1 < 12 ∧ (∃ (a2010 : Nat) (D2011 : xDf), C.2.2.2.2.1 3 (C.1 11 - 1) = some a2010 ∧ xD C a2010 D2011 ∧ (1 ≤ C.1 11 ∧ (C.1 11 - 1 < 12 ∧ w_M_takeStep C (fun r2015 C2014 => (r2015 < 2147483648 ∧ ((r2015 = 0 → Q 60 C2014) ∧ (¬ (r2015 = 0) → (1 ≤ C2014.1 11 ∧ (C2014.1 11 - 1 < 12 ∧ (xD C2014 a2010 D2011 ∧ (C.2.1 4 (C.1 11 - 1) < D2011.2.1 ∧ (∃ w2025 : Nat, D2011.2.2.1 (C.2.1 4 (C.1 11 - 1)) = some (1048576 + w2025) ∧ (w2025 < 55 ∧ (C.2.1 4 (C.1 11 - 1) < D2011.2.1 ∧ w_M_countLoads (xwT w2025) (D2011.2.2.2.2.1 (C.2.1 4 (C.1 11 - 1))) (cB C2014 4 (C2014.1 11 - 1) ((C.2.1 4 (C.1 11 - 1)) + 1)) (fun C2030 => (xD C2030 a2010 D2011 ∧ (C.2.1 4 (C.1 11 - 1) < D2011.2.1 ∧ (C.2.1 4 (C.1 11 - 1) < D2011.2.1 ∧ (∃ w2035 : Nat, D2011.2.2.1 (C.2.1 4 (C.1 11 - 1)) = some (1048576 + w2035) ∧ w_M_perform w2035 (D2011.2.2.2.1 (C.2.1 4 (C.1 11 - 1))) C2030 (fun r2037 C2036 => (r2037 < 61 ∧ ((r2037 = 55 → (xD C2036 a2010 D2011 ∧ (C.2.1 4 (C.1 11 - 1) < D2011.2.1 ∧ w_M_leaveWhatEnded (cN C2036 16 (C2036.1 16 + (D2011.2.2.2.2.2 (C.2.1 4 (C.1 11 - 1))))) (fun C2042 => K r2037 (l4 + 1) C2042)))) ∧ (¬ (r2037 = 55) → K r2037 (l4 + 1) C2036)))))))))))))))))))))))))) ∧ (¬ (l3 = 55) → Q l3 C)))))))))
set_option maxRecDepth 8000 in
set_option maxHeartbeats 4000000 in
theorem pi_M_doWord_28 (L : Nat) (xs : Nat → Int32) (d : Nat) (Q : Nat → xC → Prop) (K : Nat → Nat → xC → Prop) (hK : ∀ (l3 : Nat) (l4 : Nat) (C : xC), K l3 l4 C → xG xec (xgt L xs) (d + 8) xi_M_doWord (28, [(0, .ref 12), (3, .ref (1048576 + l3)), (4, .int (nI l4))], []) C (xPW Q)) (l3 : Nat) (l4 : Nat) (C : xC) (h : wi_M_doWord_28 K l3 l4 C Q) : xG xec (xgt L xs) (d + 8) xi_M_doWord (28, [(0, .ref 12), (3, .ref (1048576 + l3)), (4, .int (nI l4))], []) C (xPW Q) := by
  unfold wi_M_doWord_28 at h
  refine xG.seg 2 (f' := (33, [(0, .ref 12), (3, .ref (1048576 + l3)), (4, .int (nI l4))], [.int (nI 600), .int (nI l4)])) (x1 := C) (fun _ => rfl) ?_
  obtain ⟨c2001, h⟩ := h
  refine xG.icmp (t := 180) (A := 600 < l4) rfl rfl (xe_c (xt_N c2001) (show ((nI 600) : Int32).toInt = 600 from by decide) (by dsimp only; omega)) (fun k2002 => ?_) (fun k2002 => ?_)
  · replace h := h.1 k2002
    refine xG.seg 1 (f' := (181, [(0, .ref 12), (3, .ref (1048576 + l3)), (4, .int (nI l4))], [.ref (1048576 + l3)])) (x1 := C) (fun _ => rfl) ?_
    exact xG.fin (fun _ => rfl) (⟨_, rfl, h⟩)
  · replace h := h.2 k2002
    refine xG.seg 2 (f' := (40, [(0, .ref 12), (3, .ref (1048576 + l3)), (4, .int (nI l4))], [.int (nI (C.1 11))])) (x1 := C) (fun _ => rfl) ?_
    obtain ⟨c2003, h⟩ := h
    refine xG.ifc (t := 180) (A := C.1 11 ≤ 0) rfl rfl (xe_c (xt_N c2003) (show (0 : Int32).toInt = 0 from by decide) (by dsimp only; omega)) (fun k2004 => ?_) (fun k2004 => ?_)
    · replace h := h.1 k2004
      refine xG.seg 1 (f' := (181, [(0, .ref 12), (3, .ref (1048576 + l3)), (4, .int (nI l4))], [.ref (1048576 + l3)])) (x1 := C) (fun _ => rfl) ?_
      exact xG.fin (fun _ => rfl) (⟨_, rfl, h⟩)
    · replace h := h.2 k2004
      refine xG.seg 2 (f' := (47, [(0, .ref 12), (3, .ref (1048576 + l3)), (4, .int (nI l4))], [.ref (1048576 + 55), .ref (1048576 + l3)])) (x1 := C) (fun _ => rfl) ?_
      obtain ⟨c2005, h⟩ := h
      refine xG.acmp (t := 180) (A := ¬ (l3 = 55)) rfl rfl (xcst_W (e := l3) c2005) (xcst_W (e := 55) (by decide)) (xe_an (not_congr xaW)) (fun k2006 => ?_) (fun k2006 => ?_)
      · replace h := h.2 k2006
        refine xG.seg 1 (f' := (181, [(0, .ref 12), (3, .ref (1048576 + l3)), (4, .int (nI l4))], [.ref (1048576 + l3)])) (x1 := C) (fun _ => rfl) ?_
        exact xG.fin (fun _ => rfl) (⟨_, rfl, h⟩)
      · replace h := h.1 (Classical.not_not.mp k2006)
        refine xG.seg 6 (f' := (60, [(0, .ref 12), (3, .ref (1048576 + l3)), (4, .int (nI l4))], [.int (nI (C.1 11) - nI 1), .ref 20])) (x1 := C) (fun _ => rfl) ?_
        obtain ⟨c2007, h⟩ := h
        refine xG.conv (xe_cut c2007) ?_
        obtain ⟨c2008, h⟩ := h
        refine xG.aald rfl (Or.inr rfl) (by decide) (fun _ => rfl) (by decide) c2008 ?_
        refine xG.eqf (f' := (61, [(0, .ref 12), (3, .ref (1048576 + l3)), (4, .int (nI l4))], [va_rf (C.2.2.2.2.1 3 (C.1 11 - 1))])) rfl ?_
        obtain ⟨a2010, D2011, c2009, hD2011, h⟩ := h
        refine xG.eqf (f' := (61, [(0, .ref 12), (3, .ref (1048576 + l3)), (4, .int (nI l4))], [.ref a2010])) (by rw [c2009]; rfl) ?_
        refine xG.seg 7 (f' := (73, [(5, .ref a2010), (0, .ref 12), (3, .ref (1048576 + l3)), (4, .int (nI l4))], [.int (nI (C.1 11) - nI 1), .ref 21])) (x1 := C) (fun _ => rfl) ?_
        obtain ⟨c2012, h⟩ := h
        refine xG.conv (xe_cut c2012) ?_
        obtain ⟨c2013, h⟩ := h
        refine xG.iald rfl (Or.inl ⟨rfl, rfl⟩) (by decide) (fun _ => rfl) (by decide) c2013 ?_
        refine xG.eqf (f' := (74, [(5, .ref a2010), (0, .ref 12), (3, .ref (1048576 + l3)), (4, .int (nI l4))], [.int (nI (C.2.1 4 (C.1 11 - 1)))])) rfl ?_
        refine xG.seg 2 (f' := (77, [(6, .int (nI (C.2.1 4 (C.1 11 - 1)))), (5, .ref a2010), (0, .ref 12), (3, .ref (1048576 + l3)), (4, .int (nI l4))], [.ref 12])) (x1 := C) (fun _ => rfl) ?_
        refine xG.call (d := d + 7) (vs := [.ref 12]) (g := (77, [(6, .int (nI (C.2.1 4 (C.1 11 - 1)))), (5, .ref a2010), (0, .ref 12), (3, .ref (1048576 + l3)), (4, .int (nI l4))], [])) (fun _ => rfl) rfl (p_M_takeStep L xs (d + 7) C _ h) ?_
        clear h
        rintro _ C2014 ⟨r2015, rfl, h⟩
        refine ⟨_, rfl, ?_⟩
        refine xG.eqf (f' := (80, [(6, .int (nI (C.2.1 4 (C.1 11 - 1)))), (5, .ref a2010), (0, .ref 12), (3, .ref (1048576 + l3)), (4, .int (nI l4))], [.int (nI r2015)])) rfl ?_
        obtain ⟨c2016, h⟩ := h
        refine xG.ifc (t := 87) (A := ¬ (r2015 = 0)) rfl rfl (xe_c (xt_N c2016) (show (0 : Int32).toInt = 0 from by decide) (by dsimp only; omega)) (fun k2017 => ?_) (fun k2017 => ?_)
        · replace h := h.2 k2017
          refine xG.seg 9 (f' := (101, [(6, .int (nI (C.2.1 4 (C.1 11 - 1)))), (5, .ref a2010), (0, .ref 12), (3, .ref (1048576 + l3)), (4, .int (nI l4))], [.int ((nI (C.2.1 4 (C.1 11 - 1))) + (nI 1)), .int (nI (C2014.1 11) - nI 1), .ref 21])) (x1 := C2014) (fun _ => rfl) ?_
          refine xG.conv (xe_add (C.2.1 4 (C.1 11 - 1)) 1) ?_
          refine xG.eqf (f' := (101, [(6, .int (nI (C.2.1 4 (C.1 11 - 1)))), (5, .ref a2010), (0, .ref 12), (3, .ref (1048576 + l3)), (4, .int (nI l4))], [.int (nI ((C.2.1 4 (C.1 11 - 1)) + 1)), .int (nI (C2014.1 11) - nI 1), .ref 21])) rfl ?_
          obtain ⟨c2018, h⟩ := h
          refine xG.eqf (f' := (101, [(6, .int (nI (C.2.1 4 (C.1 11 - 1)))), (5, .ref a2010), (0, .ref 12), (3, .ref (1048576 + l3)), (4, .int (nI l4))], [.int (nI ((C.2.1 4 (C.1 11 - 1)) + 1)), .int (nI (C2014.1 11 - 1)), .ref 21])) (by rw [xe_cut c2018]) ?_
          obtain ⟨c2019, h⟩ := h
          refine xG.iast (x1 := (cB C2014 4 (C2014.1 11 - 1) ((C.2.1 4 (C.1 11 - 1)) + 1))) rfl (by decide) (fun _ => rfl) (by decide) c2019 (fun _ => by rw [xu_nI]; rfl) ?_
          refine xG.eqf (f' := (102, [(6, .int (nI (C.2.1 4 (C.1 11 - 1)))), (5, .ref a2010), (0, .ref 12), (3, .ref (1048576 + l3)), (4, .int (nI l4))], [])) rfl ?_
          refine xG.seg 2 (f' := (105, [(6, .int (nI (C.2.1 4 (C.1 11 - 1)))), (5, .ref a2010), (0, .ref 12), (3, .ref (1048576 + l3)), (4, .int (nI l4))], [.ref a2010, .ref 12])) (x1 := (cB C2014 4 (C2014.1 11 - 1) ((C.2.1 4 (C.1 11 - 1)) + 1))) (fun _ => rfl) ?_
          obtain ⟨hD2020, h⟩ := h
          have hE2021 : xD (cB C2014 4 (C2014.1 11 - 1) ((C.2.1 4 (C.1 11 - 1)) + 1)) a2010 D2011 := hD2020
          refine xG.geto rfl rfl hE2021.lt (fun y => hE2021.at0 y) rfl ?_
          refine xG.eqf (f' := (108, [(6, .int (nI (C.2.1 4 (C.1 11 - 1)))), (5, .ref a2010), (0, .ref 12), (3, .ref (1048576 + l3)), (4, .int (nI l4))], [.ref (a2010 + 1), .ref 12])) rfl ?_
          refine xG.seg 1 (f' := (110, [(6, .int (nI (C.2.1 4 (C.1 11 - 1)))), (5, .ref a2010), (0, .ref 12), (3, .ref (1048576 + l3)), (4, .int (nI l4))], [.int (nI (C.2.1 4 (C.1 11 - 1))), .ref (a2010 + 1), .ref 12])) (x1 := (cB C2014 4 (C2014.1 11 - 1) ((C.2.1 4 (C.1 11 - 1)) + 1))) (fun _ => rfl) ?_
          have hE2022 : xD (cB C2014 4 (C2014.1 11 - 1) ((C.2.1 4 (C.1 11 - 1)) + 1)) a2010 D2011 := hD2020
          obtain ⟨c2023, h⟩ := h
          refine xG.aald rfl (Or.inl rfl) hE2022.lt1 (fun y => hE2022.at1 y) hE2022.le c2023 ?_
          refine xG.eqf (f' := (111, [(6, .int (nI (C.2.1 4 (C.1 11 - 1)))), (5, .ref a2010), (0, .ref 12), (3, .ref (1048576 + l3)), (4, .int (nI l4))], [va_rf (D2011.2.2.1 (C.2.1 4 (C.1 11 - 1))), .ref 12])) rfl ?_
          obtain ⟨w2025, c2024, h⟩ := h
          refine xG.eqf (f' := (111, [(6, .int (nI (C.2.1 4 (C.1 11 - 1)))), (5, .ref a2010), (0, .ref 12), (3, .ref (1048576 + l3)), (4, .int (nI l4))], [.ref (1048576 + w2025), .ref 12])) (by rw [c2024]; rfl) ?_
          obtain ⟨c2026, h⟩ := h
          refine xG.getc rfl (by omega) (xgc_2 (l := xg_M) (ix := 84) rfl c2026) ?_
          refine xG.eqf (f' := (114, [(6, .int (nI (C.2.1 4 (C.1 11 - 1)))), (5, .ref a2010), (0, .ref 12), (3, .ref (1048576 + l3)), (4, .int (nI l4))], [.int (nI (xwT w2025)), .ref 12])) rfl ?_
          refine xG.seg 1 (f' := (116, [(6, .int (nI (C.2.1 4 (C.1 11 - 1)))), (5, .ref a2010), (0, .ref 12), (3, .ref (1048576 + l3)), (4, .int (nI l4))], [.ref a2010, .int (nI (xwT w2025)), .ref 12])) (x1 := (cB C2014 4 (C2014.1 11 - 1) ((C.2.1 4 (C.1 11 - 1)) + 1))) (fun _ => rfl) ?_
          have hE2027 : xD (cB C2014 4 (C2014.1 11 - 1) ((C.2.1 4 (C.1 11 - 1)) + 1)) a2010 D2011 := hD2020
          refine xG.geto rfl rfl hE2027.lt (fun y => hE2027.at0 y) rfl ?_
          refine xG.eqf (f' := (119, [(6, .int (nI (C.2.1 4 (C.1 11 - 1)))), (5, .ref a2010), (0, .ref 12), (3, .ref (1048576 + l3)), (4, .int (nI l4))], [.ref (a2010 + 3), .int (nI (xwT w2025)), .ref 12])) rfl ?_
          refine xG.seg 1 (f' := (121, [(6, .int (nI (C.2.1 4 (C.1 11 - 1)))), (5, .ref a2010), (0, .ref 12), (3, .ref (1048576 + l3)), (4, .int (nI l4))], [.int (nI (C.2.1 4 (C.1 11 - 1))), .ref (a2010 + 3), .int (nI (xwT w2025)), .ref 12])) (x1 := (cB C2014 4 (C2014.1 11 - 1) ((C.2.1 4 (C.1 11 - 1)) + 1))) (fun _ => rfl) ?_
          have hE2028 : xD (cB C2014 4 (C2014.1 11 - 1) ((C.2.1 4 (C.1 11 - 1)) + 1)) a2010 D2011 := hD2020
          obtain ⟨c2029, h⟩ := h
          refine xG.iald rfl (Or.inl ⟨rfl, rfl⟩) hE2028.lt3 (fun y => hE2028.at3 y) hE2028.le c2029 ?_
          refine xG.eqf (f' := (122, [(6, .int (nI (C.2.1 4 (C.1 11 - 1)))), (5, .ref a2010), (0, .ref 12), (3, .ref (1048576 + l3)), (4, .int (nI l4))], [.int (nI (D2011.2.2.2.2.1 (C.2.1 4 (C.1 11 - 1)))), .int (nI (xwT w2025)), .ref 12])) rfl ?_
          refine xG.call (d := d + 7) (vs := [.ref 12, .int (nI (xwT w2025)), .int (nI (D2011.2.2.2.2.1 (C.2.1 4 (C.1 11 - 1))))]) (g := (122, [(6, .int (nI (C.2.1 4 (C.1 11 - 1)))), (5, .ref a2010), (0, .ref 12), (3, .ref (1048576 + l3)), (4, .int (nI l4))], [])) (fun _ => rfl) rfl (p_M_countLoads L xs (d + 2) (xwT w2025) (D2011.2.2.2.2.1 (C.2.1 4 (C.1 11 - 1))) (cB C2014 4 (C2014.1 11 - 1) ((C.2.1 4 (C.1 11 - 1)) + 1)) _ h) ?_
          clear h
          rintro _ C2030 ⟨rfl, h⟩
          refine ⟨_, rfl, ?_⟩
          refine xG.eqf (f' := (125, [(6, .int (nI (C.2.1 4 (C.1 11 - 1)))), (5, .ref a2010), (0, .ref 12), (3, .ref (1048576 + l3)), (4, .int (nI l4))], [])) rfl ?_
          refine xG.seg 2 (f' := (128, [(6, .int (nI (C.2.1 4 (C.1 11 - 1)))), (5, .ref a2010), (0, .ref 12), (3, .ref (1048576 + l3)), (4, .int (nI l4))], [.ref a2010, .ref 12])) (x1 := C2030) (fun _ => rfl) ?_
          obtain ⟨hD2031, h⟩ := h
          refine xG.geto rfl rfl hD2031.lt (fun y => hD2031.at0 y) rfl ?_
          refine xG.eqf (f' := (131, [(6, .int (nI (C.2.1 4 (C.1 11 - 1)))), (5, .ref a2010), (0, .ref 12), (3, .ref (1048576 + l3)), (4, .int (nI l4))], [.ref (a2010 + 1), .ref 12])) rfl ?_
          refine xG.seg 1 (f' := (133, [(6, .int (nI (C.2.1 4 (C.1 11 - 1)))), (5, .ref a2010), (0, .ref 12), (3, .ref (1048576 + l3)), (4, .int (nI l4))], [.int (nI (C.2.1 4 (C.1 11 - 1))), .ref (a2010 + 1), .ref 12])) (x1 := C2030) (fun _ => rfl) ?_
          obtain ⟨c2032, h⟩ := h
          refine xG.aald rfl (Or.inl rfl) hD2031.lt1 (fun y => hD2031.at1 y) hD2031.le c2032 ?_
          refine xG.eqf (f' := (134, [(6, .int (nI (C.2.1 4 (C.1 11 - 1)))), (5, .ref a2010), (0, .ref 12), (3, .ref (1048576 + l3)), (4, .int (nI l4))], [va_rf (D2011.2.2.1 (C.2.1 4 (C.1 11 - 1))), .ref 12])) rfl ?_
          refine xG.seg 1 (f' := (136, [(6, .int (nI (C.2.1 4 (C.1 11 - 1)))), (5, .ref a2010), (0, .ref 12), (3, .ref (1048576 + l3)), (4, .int (nI l4))], [.ref a2010, va_rf (D2011.2.2.1 (C.2.1 4 (C.1 11 - 1))), .ref 12])) (x1 := C2030) (fun _ => rfl) ?_
          refine xG.geto rfl rfl hD2031.lt (fun y => hD2031.at0 y) rfl ?_
          refine xG.eqf (f' := (139, [(6, .int (nI (C.2.1 4 (C.1 11 - 1)))), (5, .ref a2010), (0, .ref 12), (3, .ref (1048576 + l3)), (4, .int (nI l4))], [.ref (a2010 + 2), va_rf (D2011.2.2.1 (C.2.1 4 (C.1 11 - 1))), .ref 12])) rfl ?_
          refine xG.seg 1 (f' := (141, [(6, .int (nI (C.2.1 4 (C.1 11 - 1)))), (5, .ref a2010), (0, .ref 12), (3, .ref (1048576 + l3)), (4, .int (nI l4))], [.int (nI (C.2.1 4 (C.1 11 - 1))), .ref (a2010 + 2), va_rf (D2011.2.2.1 (C.2.1 4 (C.1 11 - 1))), .ref 12])) (x1 := C2030) (fun _ => rfl) ?_
          obtain ⟨c2033, h⟩ := h
          refine xG.iald rfl (Or.inl ⟨rfl, rfl⟩) hD2031.lt2 (fun y => hD2031.at2 y) hD2031.le c2033 ?_
          refine xG.eqf (f' := (142, [(6, .int (nI (C.2.1 4 (C.1 11 - 1)))), (5, .ref a2010), (0, .ref 12), (3, .ref (1048576 + l3)), (4, .int (nI l4))], [.int (D2011.2.2.2.1 (C.2.1 4 (C.1 11 - 1))), va_rf (D2011.2.2.1 (C.2.1 4 (C.1 11 - 1))), .ref 12])) rfl ?_
          obtain ⟨w2035, c2034, h⟩ := h
          refine xG.eqf (f' := (142, [(6, .int (nI (C.2.1 4 (C.1 11 - 1)))), (5, .ref a2010), (0, .ref 12), (3, .ref (1048576 + l3)), (4, .int (nI l4))], [.int (D2011.2.2.2.1 (C.2.1 4 (C.1 11 - 1))), .ref (1048576 + w2035), .ref 12])) (by rw [c2034]; rfl) ?_
          refine xG.call (d := d + 7) (vs := [.ref 12, .ref (1048576 + w2035), .int (D2011.2.2.2.1 (C.2.1 4 (C.1 11 - 1)))]) (g := (142, [(6, .int (nI (C.2.1 4 (C.1 11 - 1)))), (5, .ref a2010), (0, .ref 12), (3, .ref (1048576 + l3)), (4, .int (nI l4))], [])) (fun _ => rfl) rfl (p_M_perform L xs d w2035 (D2011.2.2.2.1 (C.2.1 4 (C.1 11 - 1))) C2030 _ h) ?_
          clear h
          rintro _ C2036 ⟨r2037, rfl, h⟩
          refine ⟨_, rfl, ?_⟩
          refine xG.eqf (f' := (145, [(6, .int (nI (C.2.1 4 (C.1 11 - 1)))), (5, .ref a2010), (0, .ref 12), (3, .ref (1048576 + l3)), (4, .int (nI l4))], [.ref (1048576 + r2037)])) rfl ?_
          refine xG.seg 3 (f' := (150, [(3, .ref (1048576 + r2037)), (6, .int (nI (C.2.1 4 (C.1 11 - 1)))), (5, .ref a2010), (0, .ref 12), (4, .int (nI l4))], [.ref (1048576 + 55), .ref (1048576 + r2037)])) (x1 := C2036) (fun _ => rfl) ?_
          obtain ⟨c2038, h⟩ := h
          refine xG.acmp (t := 174) (A := ¬ (r2037 = 55)) rfl rfl (xcst_W (e := r2037) c2038) (xcst_W (e := 55) (by decide)) (xe_an (not_congr xaW)) (fun k2039 => ?_) (fun k2039 => ?_)
          · replace h := h.2 k2039
            refine xG.iinc (v := (nI l4)) (w := (nI (l4 + 1))) rfl rfl (by decide) (xe_add l4 1) ?_
            refine xG.eqf (f' := (177, [(4, .int (nI (l4 + 1))), (3, .ref (1048576 + r2037)), (6, .int (nI (C.2.1 4 (C.1 11 - 1)))), (5, .ref a2010), (0, .ref 12)], [])) rfl ?_
            refine xG.seg 1 (f' := (28, [(4, .int (nI (l4 + 1))), (3, .ref (1048576 + r2037)), (6, .int (nI (C.2.1 4 (C.1 11 - 1)))), (5, .ref a2010), (0, .ref 12)], [])) (x1 := C2036) (fun _ => rfl) ?_
            refine xG.lv (lv := [(0, .ref 12), (3, .ref (1048576 + r2037)), (4, .int (nI (l4 + 1)))]) (lv' := [(4, .int (nI (l4 + 1))), (3, .ref (1048576 + r2037)), (6, .int (nI (C.2.1 4 (C.1 11 - 1)))), (5, .ref a2010), (0, .ref 12)]) rfl rfl rfl ?_
            exact hK r2037 (l4 + 1) C2036 h
          · replace h := h.1 (Classical.not_not.mp k2039)
            refine xG.seg 4 (f' := (160, [(3, .ref (1048576 + r2037)), (6, .int (nI (C.2.1 4 (C.1 11 - 1)))), (5, .ref a2010), (0, .ref 12), (4, .int (nI l4))], [.ref a2010, .int (nI (C2036.1 16)), .ref 12])) (x1 := C2036) (fun _ => rfl) ?_
            obtain ⟨hD2040, h⟩ := h
            refine xG.geto rfl rfl hD2040.lt (fun y => hD2040.at0 y) rfl ?_
            refine xG.eqf (f' := (163, [(3, .ref (1048576 + r2037)), (6, .int (nI (C.2.1 4 (C.1 11 - 1)))), (5, .ref a2010), (0, .ref 12), (4, .int (nI l4))], [.ref (a2010 + 4), .int (nI (C2036.1 16)), .ref 12])) rfl ?_
            refine xG.seg 1 (f' := (165, [(3, .ref (1048576 + r2037)), (6, .int (nI (C.2.1 4 (C.1 11 - 1)))), (5, .ref a2010), (0, .ref 12), (4, .int (nI l4))], [.int (nI (C.2.1 4 (C.1 11 - 1))), .ref (a2010 + 4), .int (nI (C2036.1 16)), .ref 12])) (x1 := C2036) (fun _ => rfl) ?_
            obtain ⟨c2041, h⟩ := h
            refine xG.iald rfl (Or.inl ⟨rfl, rfl⟩) hD2040.lt4 (fun y => hD2040.at4 y) hD2040.le c2041 ?_
            refine xG.eqf (f' := (166, [(3, .ref (1048576 + r2037)), (6, .int (nI (C.2.1 4 (C.1 11 - 1)))), (5, .ref a2010), (0, .ref 12), (4, .int (nI l4))], [.int (nI (D2011.2.2.2.2.2 (C.2.1 4 (C.1 11 - 1)))), .int (nI (C2036.1 16)), .ref 12])) rfl ?_
            refine xG.seg 1 (f' := (167, [(3, .ref (1048576 + r2037)), (6, .int (nI (C.2.1 4 (C.1 11 - 1)))), (5, .ref a2010), (0, .ref 12), (4, .int (nI l4))], [.int ((nI (C2036.1 16)) + (nI (D2011.2.2.2.2.2 (C.2.1 4 (C.1 11 - 1))))), .ref 12])) (x1 := C2036) (fun _ => rfl) ?_
            refine xG.conv (xe_add (C2036.1 16) (D2011.2.2.2.2.2 (C.2.1 4 (C.1 11 - 1)))) ?_
            refine xG.eqf (f' := (167, [(3, .ref (1048576 + r2037)), (6, .int (nI (C.2.1 4 (C.1 11 - 1)))), (5, .ref a2010), (0, .ref 12), (4, .int (nI l4))], [.int (nI (C2036.1 16 + (D2011.2.2.2.2.2 (C.2.1 4 (C.1 11 - 1))))), .ref 12])) rfl ?_
            refine xG.seg 2 (f' := (171, [(3, .ref (1048576 + r2037)), (6, .int (nI (C.2.1 4 (C.1 11 - 1)))), (5, .ref a2010), (0, .ref 12), (4, .int (nI l4))], [.ref 12])) (x1 := (cN C2036 16 (C2036.1 16 + (D2011.2.2.2.2.2 (C.2.1 4 (C.1 11 - 1)))))) (fun _ => rfl) ?_
            refine xG.call (d := d + 7) (vs := [.ref 12]) (g := (171, [(3, .ref (1048576 + r2037)), (6, .int (nI (C.2.1 4 (C.1 11 - 1)))), (5, .ref a2010), (0, .ref 12), (4, .int (nI l4))], [])) (fun _ => rfl) rfl (p_M_leaveWhatEnded L xs (d + 7) (cN C2036 16 (C2036.1 16 + (D2011.2.2.2.2.2 (C.2.1 4 (C.1 11 - 1))))) _ h) ?_
            clear h
            rintro _ C2042 ⟨rfl, h⟩
            refine ⟨_, rfl, ?_⟩
            refine xG.eqf (f' := (174, [(3, .ref (1048576 + r2037)), (6, .int (nI (C.2.1 4 (C.1 11 - 1)))), (5, .ref a2010), (0, .ref 12), (4, .int (nI l4))], [])) rfl ?_
            refine xG.iinc (v := (nI l4)) (w := (nI (l4 + 1))) rfl rfl (by decide) (xe_add l4 1) ?_
            refine xG.eqf (f' := (177, [(4, .int (nI (l4 + 1))), (3, .ref (1048576 + r2037)), (6, .int (nI (C.2.1 4 (C.1 11 - 1)))), (5, .ref a2010), (0, .ref 12)], [])) rfl ?_
            refine xG.seg 1 (f' := (28, [(4, .int (nI (l4 + 1))), (3, .ref (1048576 + r2037)), (6, .int (nI (C.2.1 4 (C.1 11 - 1)))), (5, .ref a2010), (0, .ref 12)], [])) (x1 := C2042) (fun _ => rfl) ?_
            refine xG.lv (lv := [(0, .ref 12), (3, .ref (1048576 + r2037)), (4, .int (nI (l4 + 1)))]) (lv' := [(4, .int (nI (l4 + 1))), (3, .ref (1048576 + r2037)), (6, .int (nI (C.2.1 4 (C.1 11 - 1)))), (5, .ref a2010), (0, .ref 12)]) rfl rfl rfl ?_
            exact hK r2037 (l4 + 1) C2042 h
        · replace h := h.1 (Classical.not_not.mp k2017)
          refine xG.seg 1 (f' := (86, [(6, .int (nI (C.2.1 4 (C.1 11 - 1)))), (5, .ref a2010), (0, .ref 12), (3, .ref (1048576 + l3)), (4, .int (nI l4))], [.ref (1048576 + 60)])) (x1 := C2014) (fun _ => rfl) ?_
          exact xG.fin (fun _ => rfl) (⟨_, rfl, h⟩)

def w_M_doWord_28 : Nat → Nat → Nat → (xC) → (Nat → xC → Prop) → Prop
  | 0, _, _, _, _ => False
  | n + 1, l3, l4, C, Q => wi_M_doWord_28 (fun l3 l4 C => w_M_doWord_28 n l3 l4 C Q) l3 l4 C Q
theorem p_M_doWord_28 (L : Nat) (xs : Nat → Int32) (d : Nat) (Q : Nat → xC → Prop) : ∀ (n : Nat) (l3 : Nat) (l4 : Nat) (C : xC), w_M_doWord_28 n l3 l4 C Q → xG xec (xgt L xs) (d + 8) xi_M_doWord (28, [(0, .ref 12), (3, .ref (1048576 + l3)), (4, .int (nI l4))], []) C (xPW Q)
  | 0, _, _, _, h => by cases h
  | n + 1, l3, l4, C, h => pi_M_doWord_28 L xs d Q (fun l3 l4 C => w_M_doWord_28 n l3 l4 C Q) (fun l3 l4 C h => p_M_doWord_28 L xs d Q n l3 l4 C h) l3 l4 C h

def w_M_doWord (x1 : Nat) (x2 : Int32) (C : xC) (Q : Nat → xC → Prop) : Prop := w_M_takeStep (cN C 11 0) (fun r2 C1 => (r2 < 2147483648 ∧ ((r2 = 0 → ∃ fu5 : Nat, w_M_doWord_28 fu5 60 0 C1 Q) ∧ (¬ (r2 = 0) → w_M_perform x1 x2 C1 (fun r7 C6 => ∃ fu8 : Nat, w_M_doWord_28 fu8 r7 0 C6 Q)))))
set_option maxRecDepth 8000 in
set_option maxHeartbeats 4000000 in
theorem p_M_doWord (L : Nat) (xs : Nat → Int32) (d : Nat) (x1 : Nat) (x2 : Int32) (C : xC) (Q : Nat → xC → Prop) (h : w_M_doWord x1 x2 C Q) : xG xec (xgt L xs) (d + 8) xi_M_doWord (0, [(0, .ref 12), (1, .ref (1048576 + x1)), (2, .int x2)], []) C (xPW Q) := by
  unfold w_M_doWord at h
  refine xG.seg 4 (f' := (6, [(0, .ref 12), (1, .ref (1048576 + x1)), (2, .int x2)], [.ref 12])) (x1 := (cN C 11 0)) (fun _ => rfl) ?_
  refine xG.call (d := d + 7) (vs := [.ref 12]) (g := (6, [(0, .ref 12), (1, .ref (1048576 + x1)), (2, .int x2)], [])) (fun _ => rfl) rfl (p_M_takeStep L xs (d + 7) (cN C 11 0) _ h) ?_
  clear h
  rintro _ C1 ⟨r2, rfl, h⟩
  refine ⟨_, rfl, ?_⟩
  refine xG.eqf (f' := (9, [(0, .ref 12), (1, .ref (1048576 + x1)), (2, .int x2)], [.int (nI r2)])) rfl ?_
  obtain ⟨c3, h⟩ := h
  refine xG.ifc (t := 21) (A := r2 = 0) rfl rfl (xe_c (xt_N c3) (show (0 : Int32).toInt = 0 from by decide) (by dsimp only; omega)) (fun k4 => ?_) (fun k4 => ?_)
  · replace h := h.1 k4
    refine xG.seg 4 (f' := (28, [(4, .int (nI 0)), (3, .ref (1048576 + 60)), (0, .ref 12), (1, .ref (1048576 + x1)), (2, .int x2)], [])) (x1 := C1) (fun _ => rfl) ?_
    refine xG.lv (lv := [(0, .ref 12), (3, .ref (1048576 + 60)), (4, .int (nI 0))]) (lv' := [(4, .int (nI 0)), (3, .ref (1048576 + 60)), (0, .ref 12), (1, .ref (1048576 + x1)), (2, .int x2)]) rfl rfl rfl ?_
    obtain ⟨fu5, h⟩ := h
    exact p_M_doWord_28 L xs d Q fu5 60 0 C1 h
  · replace h := h.2 k4
    refine xG.seg 3 (f' := (15, [(0, .ref 12), (1, .ref (1048576 + x1)), (2, .int x2)], [.int x2, .ref (1048576 + x1), .ref 12])) (x1 := C1) (fun _ => rfl) ?_
    refine xG.call (d := d + 7) (vs := [.ref 12, .ref (1048576 + x1), .int x2]) (g := (15, [(0, .ref 12), (1, .ref (1048576 + x1)), (2, .int x2)], [])) (fun _ => rfl) rfl (p_M_perform L xs d x1 x2 C1 _ h) ?_
    clear h
    rintro _ C6 ⟨r7, rfl, h⟩
    refine ⟨_, rfl, ?_⟩
    refine xG.eqf (f' := (18, [(0, .ref 12), (1, .ref (1048576 + x1)), (2, .int x2)], [.ref (1048576 + r7)])) rfl ?_
    refine xG.seg 4 (f' := (28, [(4, .int (nI 0)), (3, .ref (1048576 + r7)), (0, .ref 12), (1, .ref (1048576 + x1)), (2, .int x2)], [])) (x1 := C6) (fun _ => rfl) ?_
    refine xG.lv (lv := [(0, .ref 12), (3, .ref (1048576 + r7)), (4, .int (nI 0))]) (lv' := [(4, .int (nI 0)), (3, .ref (1048576 + r7)), (0, .ref 12), (1, .ref (1048576 + x1)), (2, .int x2)]) rfl rfl rfl ?_
    obtain ⟨fu8, h⟩ := h
    exact p_M_doWord_28 L xs d Q fu8 r7 0 C6 h

def w_C_storeHeld (C : xC) (Q : xC → Prop) : Prop := (C.1 6 < 2147483648 ∧ ((C.1 6 ≤ 0 → Q (cN C 7 0)) ∧ (¬ (C.1 6 ≤ 0) → (1 ≤ C.1 6 ∧ (C.1 6 - 1 < 60 ∧ (1 ≤ C.1 6 ∧ (C.1 6 - 1 < 60 ∧ Q (cN (cB C 2 (C.1 6 - 1) ((C.2.1 2 (C.1 6 - 1)) + (C.1 7))) 7 0))))))))
set_option maxRecDepth 8000 in
set_option maxHeartbeats 4000000 in
theorem p_C_storeHeld (L : Nat) (xs : Nat → Int32) (d : Nat) (C : xC) (Q : xC → Prop) (h : w_C_storeHeld C Q) : xG xec (xgt L xs) (d) xi_C_storeHeld (0, [(0, .ref 5)], []) C (xPV Q) := by
  unfold w_C_storeHeld at h
  refine xG.seg 2 (f' := (4, [(0, .ref 5)], [.int (nI (C.1 6))])) (x1 := C) (fun _ => rfl) ?_
  obtain ⟨c1, h⟩ := h
  refine xG.ifc (t := 25) (A := C.1 6 ≤ 0) rfl rfl (xe_c (xt_N c1) (show (0 : Int32).toInt = 0 from by decide) (by dsimp only; omega)) (fun k2 => ?_) (fun k2 => ?_)
  · replace h := h.1 k2
    refine xG.seg 3 (f' := (30, [(0, .ref 5)], [])) (x1 := (cN C 7 0)) (fun _ => rfl) ?_
    exact xG.fin (fun _ => rfl) (⟨rfl, h⟩)
  · replace h := h.2 k2
    refine xG.seg 7 (f' := (18, [(0, .ref 5)], [.int (nI (C.1 6) - nI 1), .ref 9, .int (nI (C.1 6) - nI 1), .ref 9])) (x1 := C) (fun _ => rfl) ?_
    obtain ⟨c3, h⟩ := h
    refine xG.conv (xe_cut c3) ?_
    obtain ⟨c4, h⟩ := h
    refine xG.iald rfl (Or.inl ⟨rfl, rfl⟩) (by decide) (fun _ => rfl) (by decide) c4 ?_
    refine xG.eqf (f' := (19, [(0, .ref 5)], [.int (nI (C.2.1 2 (C.1 6 - 1))), .int (nI (C.1 6) - nI 1), .ref 9])) rfl ?_
    refine xG.seg 3 (f' := (24, [(0, .ref 5)], [.int ((nI (C.2.1 2 (C.1 6 - 1))) + (nI (C.1 7))), .int (nI (C.1 6) - nI 1), .ref 9])) (x1 := C) (fun _ => rfl) ?_
    refine xG.conv (xe_add (C.2.1 2 (C.1 6 - 1)) (C.1 7)) ?_
    refine xG.eqf (f' := (24, [(0, .ref 5)], [.int (nI ((C.2.1 2 (C.1 6 - 1)) + (C.1 7))), .int (nI (C.1 6) - nI 1), .ref 9])) rfl ?_
    obtain ⟨c5, h⟩ := h
    refine xG.eqf (f' := (24, [(0, .ref 5)], [.int (nI ((C.2.1 2 (C.1 6 - 1)) + (C.1 7))), .int (nI (C.1 6 - 1)), .ref 9])) (by rw [xe_cut c5]) ?_
    obtain ⟨c6, h⟩ := h
    refine xG.iast (x1 := (cB C 2 (C.1 6 - 1) ((C.2.1 2 (C.1 6 - 1)) + (C.1 7)))) rfl (by decide) (fun _ => rfl) (by decide) c6 (fun _ => by rw [xu_nI]; rfl) ?_
    refine xG.eqf (f' := (25, [(0, .ref 5)], [])) rfl ?_
    refine xG.seg 3 (f' := (30, [(0, .ref 5)], [])) (x1 := (cN (cB C 2 (C.1 6 - 1) ((C.2.1 2 (C.1 6 - 1)) + (C.1 7))) 7 0)) (fun _ => rfl) ?_
    exact xG.fin (fun _ => rfl) (⟨rfl, h⟩)

def w_C_add_24 (l1 : Nat) (l2 : Int32) (C : xC) (Q : Nat → xC → Prop) : Prop := (l1 < 55 ∧ (xwT l1 < 2147483648 ∧ (C.1 7 < 2147483648 ∧ (l1 < 55 ∧ (l1 < 55 ∧ (l1 < 55 ∧ (C.1 6 < 60 ∧ (l1 < 55 ∧ (C.1 6 < 60 ∧ (C.1 6 < 60 ∧ ((C.1 7 + (xwT l1 - (C.1 7))) + (xwL l1) < 2147483648 ∧ (xwT l1 + 3 < 2147483648 ∧ (C.1 6 < 60 ∧ (C.1 6 < 60 ∧ (xwT l1 + ((cB (cB (cA (cR C 1 (C.1 6) (some (1048576 + l1))) 0 (C.1 6) l2) 1 (C.1 6) (xwT l1 - (C.1 7))) 2 (C.1 6) ((C.1 7 + (xwT l1 - (C.1 7))) + (xwL l1) - (xwT l1 + 3))).2.1 2 (C.1 6)) ≤ (C.1 7 + (xwT l1 - (C.1 7))) + (xwL l1) ∧ (l1 < 55 ∧ (xwK l1 < 2147483648 ∧ ((xwK l1 = 6 → w_C_storeHeld (cN (cN (cB (cB (cA (cR C 1 (C.1 6) (some (1048576 + l1))) 0 (C.1 6) l2) 1 (C.1 6) (xwT l1 - (C.1 7))) 2 (C.1 6) ((C.1 7 + (xwT l1 - (C.1 7))) + (xwL l1) - (xwT l1 + 3))) 7 ((C.1 7 + (xwT l1 - (C.1 7))) + (xwL l1) - (xwT l1 + ((cB (cB (cA (cR C 1 (C.1 6) (some (1048576 + l1))) 0 (C.1 6) l2) 1 (C.1 6) (xwT l1 - (C.1 7))) 2 (C.1 6) ((C.1 7 + (xwT l1 - (C.1 7))) + (xwL l1) - (xwT l1 + 3))).2.1 2 (C.1 6))))) 6 (C.1 6 + 1)) (fun C2019 => Q 1 C2019)) ∧ (¬ (xwK l1 = 6) → Q 1 (cN (cN (cB (cB (cA (cR C 1 (C.1 6) (some (1048576 + l1))) 0 (C.1 6) l2) 1 (C.1 6) (xwT l1 - (C.1 7))) 2 (C.1 6) ((C.1 7 + (xwT l1 - (C.1 7))) + (xwL l1) - (xwT l1 + 3))) 7 ((C.1 7 + (xwT l1 - (C.1 7))) + (xwL l1) - (xwT l1 + ((cB (cB (cA (cR C 1 (C.1 6) (some (1048576 + l1))) 0 (C.1 6) l2) 1 (C.1 6) (xwT l1 - (C.1 7))) 2 (C.1 6) ((C.1 7 + (xwT l1 - (C.1 7))) + (xwL l1) - (xwT l1 + 3))).2.1 2 (C.1 6))))) 6 (C.1 6 + 1)))))))))))))))))))))
set_option maxRecDepth 8000 in
set_option maxHeartbeats 4000000 in
theorem p_C_add_24 (L : Nat) (xs : Nat → Int32) (d : Nat) (Q : Nat → xC → Prop) (l1 : Nat) (l2 : Int32) (C : xC) (h : w_C_add_24 l1 l2 C Q) : xG xec (xgt L xs) (d + 5) xi_C_add (24, [(0, .ref 5), (1, .ref (1048576 + l1)), (2, .int l2)], []) C (xPN Q) := by
  unfold w_C_add_24 at h
  refine xG.seg 2 (f' := (26, [(0, .ref 5), (1, .ref (1048576 + l1)), (2, .int l2)], [.ref (1048576 + l1), .int (nI 0)])) (x1 := C) (fun _ => rfl) ?_
  obtain ⟨c2001, h⟩ := h
  refine xG.getc rfl (by omega) (xgc_2 (l := xg_C) (ix := 77) rfl c2001) ?_
  refine xG.eqf (f' := (29, [(0, .ref 5), (1, .ref (1048576 + l1)), (2, .int l2)], [.int (nI (xwT l1)), .int (nI 0)])) rfl ?_
  refine xG.seg 3 (f' := (34, [(0, .ref 5), (1, .ref (1048576 + l1)), (2, .int l2)], [.int (nI (xwT l1) - nI (C.1 7)), .int (nI 0)])) (x1 := C) (fun _ => rfl) ?_
  obtain ⟨c2002, h⟩ := h
  obtain ⟨c2003, h⟩ := h
  refine xG.prim (fun _ => rfl) (fun _ => rfl) (show mx_prim xi_C_add (34, [(0, .ref 5), (1, .ref (1048576 + l1)), (2, .int l2)], [.int (nI (xwT l1) - nI (C.1 7)), .int (nI 0)]) = some _ from mx_pr_e (I := xi_C_add) (ix := 321) (k := 2) (g := xp_g 3) (pc := 34) (lv := [(0, .ref 5), (1, .ref (1048576 + l1)), (2, .int l2)]) (st := [.int (nI (xwT l1) - nI (C.1 7)), .int (nI 0)]) rfl (Nat.le_of_ble_eq_true rfl) (Nat.le_of_ble_eq_true rfl) (xpg_3 c2002 c2003)) (by omega) ?_
  refine xG.eqf (f' := (37, [(0, .ref 5), (1, .ref (1048576 + l1)), (2, .int l2)], [.int (nI (xwT l1 - (C.1 7)))])) rfl ?_
  refine xG.seg 5 (f' := (44, [(3, .int (nI (xwT l1 - (C.1 7)))), (0, .ref 5), (1, .ref (1048576 + l1)), (2, .int l2)], [.int ((nI (C.1 7)) + (nI (xwT l1 - (C.1 7))))])) (x1 := C) (fun _ => rfl) ?_
  refine xG.conv (xe_add (C.1 7) (xwT l1 - (C.1 7))) ?_
  refine xG.eqf (f' := (44, [(3, .int (nI (xwT l1 - (C.1 7)))), (0, .ref 5), (1, .ref (1048576 + l1)), (2, .int l2)], [.int (nI (C.1 7 + (xwT l1 - (C.1 7))))])) rfl ?_
  refine xG.seg 1 (f' := (45, [(3, .int (nI (xwT l1 - (C.1 7)))), (0, .ref 5), (1, .ref (1048576 + l1)), (2, .int l2)], [.ref (1048576 + l1), .int (nI (C.1 7 + (xwT l1 - (C.1 7))))])) (x1 := C) (fun _ => rfl) ?_
  obtain ⟨c2004, h⟩ := h
  refine xG.getc rfl (by omega) (xgc_2 (l := xg_C) (ix := 77) rfl c2004) ?_
  refine xG.eqf (f' := (48, [(3, .int (nI (xwT l1 - (C.1 7)))), (0, .ref 5), (1, .ref (1048576 + l1)), (2, .int l2)], [.int (nI (xwT l1)), .int (nI (C.1 7 + (xwT l1 - (C.1 7))))])) rfl ?_
  refine xG.seg 2 (f' := (50, [(3, .int (nI (xwT l1 - (C.1 7)))), (0, .ref 5), (1, .ref (1048576 + l1)), (2, .int l2)], [.ref (1048576 + l1), .int (nI (C.1 7 + (xwT l1 - (C.1 7))) - nI (xwT l1))])) (x1 := C) (fun _ => rfl) ?_
  obtain ⟨c2005, h⟩ := h
  refine xG.getc rfl (by omega) (xgc_3 (l := xg_C) (ix := 86) rfl c2005) ?_
  refine xG.eqf (f' := (53, [(3, .int (nI (xwT l1 - (C.1 7)))), (0, .ref 5), (1, .ref (1048576 + l1)), (2, .int l2)], [.ref (1048641 + xwG l1), .int (nI (C.1 7 + (xwT l1 - (C.1 7))) - nI (xwT l1))])) rfl ?_
  obtain ⟨c2006, h⟩ := h
  refine xG.prim (fun _ => rfl) (fun _ => rfl) (show mx_prim xi_C_add (53, [(3, .int (nI (xwT l1 - (C.1 7)))), (0, .ref 5), (1, .ref (1048576 + l1)), (2, .int l2)], [.ref (1048641 + xwG l1), .int (nI (C.1 7 + (xwT l1 - (C.1 7))) - nI (xwT l1))]) = some _ from mx_pr_e (I := xi_C_add) (ix := 360) (k := 1) (g := xp_g 0) (pc := 53) (lv := [(3, .int (nI (xwT l1 - (C.1 7)))), (0, .ref 5), (1, .ref (1048576 + l1)), (2, .int l2)]) (st := [.ref (1048641 + xwG l1), .int (nI (C.1 7 + (xwT l1 - (C.1 7))) - nI (xwT l1))]) rfl (Nat.le_of_ble_eq_true rfl) (Nat.le_of_ble_eq_true rfl) (xpg_0 c2006)) (by omega) ?_
  refine xG.eqf (f' := (56, [(3, .int (nI (xwT l1 - (C.1 7)))), (0, .ref 5), (1, .ref (1048576 + l1)), (2, .int l2)], [.int (nI (xwL l1)), .int (nI (C.1 7 + (xwT l1 - (C.1 7))) - nI (xwT l1))])) rfl ?_
  refine xG.seg 1 (f' := (57, [(3, .int (nI (xwT l1 - (C.1 7)))), (0, .ref 5), (1, .ref (1048576 + l1)), (2, .int l2)], [.int ((nI (C.1 7 + (xwT l1 - (C.1 7))) - nI (xwT l1)) + (nI (xwL l1)))])) (x1 := C) (fun _ => rfl) ?_
  refine xG.conv (xe_zn _ _ _) ?_
  refine xG.eqf (f' := (57, [(3, .int (nI (xwT l1 - (C.1 7)))), (0, .ref 5), (1, .ref (1048576 + l1)), (2, .int l2)], [.int (nI ((C.1 7 + (xwT l1 - (C.1 7))) + (xwL l1)) - nI (xwT l1))])) rfl ?_
  refine xG.seg 6 (f' := (68, [(4, .int (nI ((C.1 7 + (xwT l1 - (C.1 7))) + (xwL l1)) - nI (xwT l1))), (3, .int (nI (xwT l1 - (C.1 7)))), (0, .ref 5), (1, .ref (1048576 + l1)), (2, .int l2)], [.ref (1048576 + l1), .int (nI (C.1 6)), .ref 6])) (x1 := C) (fun _ => rfl) ?_
  obtain ⟨c2007, h⟩ := h
  obtain ⟨c2008, h⟩ := h
  refine xG.aastW (x1 := (cR C 1 (C.1 6) (some (1048576 + l1)))) rfl (by decide) (fun _ => rfl) (by decide) c2007 rfl c2008 (fun _ => rfl) ?_
  refine xG.eqf (f' := (69, [(4, .int (nI ((C.1 7 + (xwT l1 - (C.1 7))) + (xwL l1)) - nI (xwT l1))), (3, .int (nI (xwT l1 - (C.1 7)))), (0, .ref 5), (1, .ref (1048576 + l1)), (2, .int l2)], [])) rfl ?_
  refine xG.seg 5 (f' := (78, [(4, .int (nI ((C.1 7 + (xwT l1 - (C.1 7))) + (xwL l1)) - nI (xwT l1))), (3, .int (nI (xwT l1 - (C.1 7)))), (0, .ref 5), (1, .ref (1048576 + l1)), (2, .int l2)], [.int l2, .int (nI (C.1 6)), .ref 7])) (x1 := (cR C 1 (C.1 6) (some (1048576 + l1)))) (fun _ => rfl) ?_
  obtain ⟨c2009, h⟩ := h
  refine xG.iast (x1 := (cA (cR C 1 (C.1 6) (some (1048576 + l1))) 0 (C.1 6) l2)) rfl (by decide) (fun _ => rfl) (by decide) c2009 (fun _ => rfl) ?_
  refine xG.eqf (f' := (79, [(4, .int (nI ((C.1 7 + (xwT l1 - (C.1 7))) + (xwL l1)) - nI (xwT l1))), (3, .int (nI (xwT l1 - (C.1 7)))), (0, .ref 5), (1, .ref (1048576 + l1)), (2, .int l2)], [])) rfl ?_
  refine xG.seg 5 (f' := (88, [(4, .int (nI ((C.1 7 + (xwT l1 - (C.1 7))) + (xwL l1)) - nI (xwT l1))), (3, .int (nI (xwT l1 - (C.1 7)))), (0, .ref 5), (1, .ref (1048576 + l1)), (2, .int l2)], [.int (nI (xwT l1 - (C.1 7))), .int (nI (C.1 6)), .ref 8])) (x1 := (cA (cR C 1 (C.1 6) (some (1048576 + l1))) 0 (C.1 6) l2)) (fun _ => rfl) ?_
  obtain ⟨c2010, h⟩ := h
  refine xG.iast (x1 := (cB (cA (cR C 1 (C.1 6) (some (1048576 + l1))) 0 (C.1 6) l2) 1 (C.1 6) (xwT l1 - (C.1 7)))) rfl (by decide) (fun _ => rfl) (by decide) c2010 (fun _ => by rw [xu_nI]; rfl) ?_
  refine xG.eqf (f' := (89, [(4, .int (nI ((C.1 7 + (xwT l1 - (C.1 7))) + (xwL l1)) - nI (xwT l1))), (3, .int (nI (xwT l1 - (C.1 7)))), (0, .ref 5), (1, .ref (1048576 + l1)), (2, .int l2)], [])) rfl ?_
  refine xG.seg 8 (f' := (102, [(4, .int (nI ((C.1 7 + (xwT l1 - (C.1 7))) + (xwL l1)) - nI (xwT l1))), (3, .int (nI (xwT l1 - (C.1 7)))), (0, .ref 5), (1, .ref (1048576 + l1)), (2, .int l2)], [.int ((nI ((C.1 7 + (xwT l1 - (C.1 7))) + (xwL l1)) - nI (xwT l1)) - (nI 3)), .int (nI 0), .int (nI (C.1 6)), .ref 9])) (x1 := (cB (cA (cR C 1 (C.1 6) (some (1048576 + l1))) 0 (C.1 6) l2) 1 (C.1 6) (xwT l1 - (C.1 7)))) (fun _ => rfl) ?_
  refine xG.conv (xe_zsn _ _ _) ?_
  refine xG.eqf (f' := (102, [(4, .int (nI ((C.1 7 + (xwT l1 - (C.1 7))) + (xwL l1)) - nI (xwT l1))), (3, .int (nI (xwT l1 - (C.1 7)))), (0, .ref 5), (1, .ref (1048576 + l1)), (2, .int l2)], [.int (nI ((C.1 7 + (xwT l1 - (C.1 7))) + (xwL l1)) - nI (xwT l1 + 3)), .int (nI 0), .int (nI (C.1 6)), .ref 9])) rfl ?_
  obtain ⟨c2011, h⟩ := h
  obtain ⟨c2012, h⟩ := h
  refine xG.prim (fun _ => rfl) (fun _ => rfl) (show mx_prim xi_C_add (102, [(4, .int (nI ((C.1 7 + (xwT l1 - (C.1 7))) + (xwL l1)) - nI (xwT l1))), (3, .int (nI (xwT l1 - (C.1 7)))), (0, .ref 5), (1, .ref (1048576 + l1)), (2, .int l2)], [.int (nI ((C.1 7 + (xwT l1 - (C.1 7))) + (xwL l1)) - nI (xwT l1 + 3)), .int (nI 0), .int (nI (C.1 6)), .ref 9]) = some _ from mx_pr_e (I := xi_C_add) (ix := 321) (k := 2) (g := xp_g 3) (pc := 102) (lv := [(4, .int (nI ((C.1 7 + (xwT l1 - (C.1 7))) + (xwL l1)) - nI (xwT l1))), (3, .int (nI (xwT l1 - (C.1 7)))), (0, .ref 5), (1, .ref (1048576 + l1)), (2, .int l2)]) (st := [.int (nI ((C.1 7 + (xwT l1 - (C.1 7))) + (xwL l1)) - nI (xwT l1 + 3)), .int (nI 0), .int (nI (C.1 6)), .ref 9]) rfl (Nat.le_of_ble_eq_true rfl) (Nat.le_of_ble_eq_true rfl) (xpg_3 c2011 c2012)) (by omega) ?_
  refine xG.eqf (f' := (105, [(4, .int (nI ((C.1 7 + (xwT l1 - (C.1 7))) + (xwL l1)) - nI (xwT l1))), (3, .int (nI (xwT l1 - (C.1 7)))), (0, .ref 5), (1, .ref (1048576 + l1)), (2, .int l2)], [.int (nI ((C.1 7 + (xwT l1 - (C.1 7))) + (xwL l1) - (xwT l1 + 3))), .int (nI (C.1 6)), .ref 9])) rfl ?_
  obtain ⟨c2013, h⟩ := h
  refine xG.iast (x1 := (cB (cB (cA (cR C 1 (C.1 6) (some (1048576 + l1))) 0 (C.1 6) l2) 1 (C.1 6) (xwT l1 - (C.1 7))) 2 (C.1 6) ((C.1 7 + (xwT l1 - (C.1 7))) + (xwL l1) - (xwT l1 + 3)))) rfl (by decide) (fun _ => rfl) (by decide) c2013 (fun _ => by rw [xu_nI]; rfl) ?_
  refine xG.eqf (f' := (106, [(4, .int (nI ((C.1 7 + (xwT l1 - (C.1 7))) + (xwL l1)) - nI (xwT l1))), (3, .int (nI (xwT l1 - (C.1 7)))), (0, .ref 5), (1, .ref (1048576 + l1)), (2, .int l2)], [])) rfl ?_
  refine xG.seg 6 (f' := (117, [(4, .int (nI ((C.1 7 + (xwT l1 - (C.1 7))) + (xwL l1)) - nI (xwT l1))), (3, .int (nI (xwT l1 - (C.1 7)))), (0, .ref 5), (1, .ref (1048576 + l1)), (2, .int l2)], [.int (nI (C.1 6)), .ref 9, .int (nI ((C.1 7 + (xwT l1 - (C.1 7))) + (xwL l1)) - nI (xwT l1)), .ref 5])) (x1 := (cB (cB (cA (cR C 1 (C.1 6) (some (1048576 + l1))) 0 (C.1 6) l2) 1 (C.1 6) (xwT l1 - (C.1 7))) 2 (C.1 6) ((C.1 7 + (xwT l1 - (C.1 7))) + (xwL l1) - (xwT l1 + 3)))) (fun _ => rfl) ?_
  obtain ⟨c2014, h⟩ := h
  refine xG.iald rfl (Or.inl ⟨rfl, rfl⟩) (by decide) (fun _ => rfl) (by decide) c2014 ?_
  refine xG.eqf (f' := (118, [(4, .int (nI ((C.1 7 + (xwT l1 - (C.1 7))) + (xwL l1)) - nI (xwT l1))), (3, .int (nI (xwT l1 - (C.1 7)))), (0, .ref 5), (1, .ref (1048576 + l1)), (2, .int l2)], [.int (nI ((cB (cB (cA (cR C 1 (C.1 6) (some (1048576 + l1))) 0 (C.1 6) l2) 1 (C.1 6) (xwT l1 - (C.1 7))) 2 (C.1 6) ((C.1 7 + (xwT l1 - (C.1 7))) + (xwL l1) - (xwT l1 + 3))).2.1 2 (C.1 6))), .int (nI ((C.1 7 + (xwT l1 - (C.1 7))) + (xwL l1)) - nI (xwT l1)), .ref 5])) rfl ?_
  refine xG.seg 1 (f' := (119, [(4, .int (nI ((C.1 7 + (xwT l1 - (C.1 7))) + (xwL l1)) - nI (xwT l1))), (3, .int (nI (xwT l1 - (C.1 7)))), (0, .ref 5), (1, .ref (1048576 + l1)), (2, .int l2)], [.int ((nI ((C.1 7 + (xwT l1 - (C.1 7))) + (xwL l1)) - nI (xwT l1)) - (nI ((cB (cB (cA (cR C 1 (C.1 6) (some (1048576 + l1))) 0 (C.1 6) l2) 1 (C.1 6) (xwT l1 - (C.1 7))) 2 (C.1 6) ((C.1 7 + (xwT l1 - (C.1 7))) + (xwL l1) - (xwT l1 + 3))).2.1 2 (C.1 6)))), .ref 5])) (x1 := (cB (cB (cA (cR C 1 (C.1 6) (some (1048576 + l1))) 0 (C.1 6) l2) 1 (C.1 6) (xwT l1 - (C.1 7))) 2 (C.1 6) ((C.1 7 + (xwT l1 - (C.1 7))) + (xwL l1) - (xwT l1 + 3)))) (fun _ => rfl) ?_
  refine xG.conv (xe_zsn _ _ _) ?_
  refine xG.eqf (f' := (119, [(4, .int (nI ((C.1 7 + (xwT l1 - (C.1 7))) + (xwL l1)) - nI (xwT l1))), (3, .int (nI (xwT l1 - (C.1 7)))), (0, .ref 5), (1, .ref (1048576 + l1)), (2, .int l2)], [.int (nI ((C.1 7 + (xwT l1 - (C.1 7))) + (xwL l1)) - nI (xwT l1 + ((cB (cB (cA (cR C 1 (C.1 6) (some (1048576 + l1))) 0 (C.1 6) l2) 1 (C.1 6) (xwT l1 - (C.1 7))) 2 (C.1 6) ((C.1 7 + (xwT l1 - (C.1 7))) + (xwL l1) - (xwT l1 + 3))).2.1 2 (C.1 6)))), .ref 5])) rfl ?_
  obtain ⟨c2015, h⟩ := h
  refine xG.conv (xe_cut c2015) ?_
  refine xG.seg 6 (f' := (129, [(4, .int (nI ((C.1 7 + (xwT l1 - (C.1 7))) + (xwL l1)) - nI (xwT l1))), (3, .int (nI (xwT l1 - (C.1 7)))), (0, .ref 5), (1, .ref (1048576 + l1)), (2, .int l2)], [.int ((nI (C.1 6)) + (nI 1)), .ref 5])) (x1 := (cN (cB (cB (cA (cR C 1 (C.1 6) (some (1048576 + l1))) 0 (C.1 6) l2) 1 (C.1 6) (xwT l1 - (C.1 7))) 2 (C.1 6) ((C.1 7 + (xwT l1 - (C.1 7))) + (xwL l1) - (xwT l1 + 3))) 7 ((C.1 7 + (xwT l1 - (C.1 7))) + (xwL l1) - (xwT l1 + ((cB (cB (cA (cR C 1 (C.1 6) (some (1048576 + l1))) 0 (C.1 6) l2) 1 (C.1 6) (xwT l1 - (C.1 7))) 2 (C.1 6) ((C.1 7 + (xwT l1 - (C.1 7))) + (xwL l1) - (xwT l1 + 3))).2.1 2 (C.1 6)))))) (fun _ => rfl) ?_
  refine xG.conv (xe_add (C.1 6) 1) ?_
  refine xG.eqf (f' := (129, [(4, .int (nI ((C.1 7 + (xwT l1 - (C.1 7))) + (xwL l1)) - nI (xwT l1))), (3, .int (nI (xwT l1 - (C.1 7)))), (0, .ref 5), (1, .ref (1048576 + l1)), (2, .int l2)], [.int (nI (C.1 6 + 1)), .ref 5])) rfl ?_
  refine xG.seg 2 (f' := (133, [(4, .int (nI ((C.1 7 + (xwT l1 - (C.1 7))) + (xwL l1)) - nI (xwT l1))), (3, .int (nI (xwT l1 - (C.1 7)))), (0, .ref 5), (1, .ref (1048576 + l1)), (2, .int l2)], [.ref (1048576 + l1)])) (x1 := (cN (cN (cB (cB (cA (cR C 1 (C.1 6) (some (1048576 + l1))) 0 (C.1 6) l2) 1 (C.1 6) (xwT l1 - (C.1 7))) 2 (C.1 6) ((C.1 7 + (xwT l1 - (C.1 7))) + (xwL l1) - (xwT l1 + 3))) 7 ((C.1 7 + (xwT l1 - (C.1 7))) + (xwL l1) - (xwT l1 + ((cB (cB (cA (cR C 1 (C.1 6) (some (1048576 + l1))) 0 (C.1 6) l2) 1 (C.1 6) (xwT l1 - (C.1 7))) 2 (C.1 6) ((C.1 7 + (xwT l1 - (C.1 7))) + (xwL l1) - (xwT l1 + 3))).2.1 2 (C.1 6))))) 6 (C.1 6 + 1))) (fun _ => rfl) ?_
  obtain ⟨c2016, h⟩ := h
  refine xG.getc rfl (by omega) (xgc_1 (l := xg_C) (ix := 71) rfl c2016) ?_
  refine xG.eqf (f' := (136, [(4, .int (nI ((C.1 7 + (xwT l1 - (C.1 7))) + (xwL l1)) - nI (xwT l1))), (3, .int (nI (xwT l1 - (C.1 7)))), (0, .ref 5), (1, .ref (1048576 + l1)), (2, .int l2)], [.int (nI (xwK l1))])) rfl ?_
  refine xG.seg 1 (f' := (138, [(4, .int (nI ((C.1 7 + (xwT l1 - (C.1 7))) + (xwL l1)) - nI (xwT l1))), (3, .int (nI (xwT l1 - (C.1 7)))), (0, .ref 5), (1, .ref (1048576 + l1)), (2, .int l2)], [.int (nI 6), .int (nI (xwK l1))])) (x1 := (cN (cN (cB (cB (cA (cR C 1 (C.1 6) (some (1048576 + l1))) 0 (C.1 6) l2) 1 (C.1 6) (xwT l1 - (C.1 7))) 2 (C.1 6) ((C.1 7 + (xwT l1 - (C.1 7))) + (xwL l1) - (xwT l1 + 3))) 7 ((C.1 7 + (xwT l1 - (C.1 7))) + (xwL l1) - (xwT l1 + ((cB (cB (cA (cR C 1 (C.1 6) (some (1048576 + l1))) 0 (C.1 6) l2) 1 (C.1 6) (xwT l1 - (C.1 7))) 2 (C.1 6) ((C.1 7 + (xwT l1 - (C.1 7))) + (xwL l1) - (xwT l1 + 3))).2.1 2 (C.1 6))))) 6 (C.1 6 + 1))) (fun _ => rfl) ?_
  obtain ⟨c2017, h⟩ := h
  refine xG.icmp (t := 145) (A := ¬ (xwK l1 = 6)) rfl rfl (xe_c (xt_N c2017) (show ((nI 6) : Int32).toInt = 6 from by decide) (by dsimp only; omega)) (fun k2018 => ?_) (fun k2018 => ?_)
  · replace h := h.2 k2018
    refine xG.seg 1 (f' := (146, [(4, .int (nI ((C.1 7 + (xwT l1 - (C.1 7))) + (xwL l1)) - nI (xwT l1))), (3, .int (nI (xwT l1 - (C.1 7)))), (0, .ref 5), (1, .ref (1048576 + l1)), (2, .int l2)], [.int (nI 1)])) (x1 := (cN (cN (cB (cB (cA (cR C 1 (C.1 6) (some (1048576 + l1))) 0 (C.1 6) l2) 1 (C.1 6) (xwT l1 - (C.1 7))) 2 (C.1 6) ((C.1 7 + (xwT l1 - (C.1 7))) + (xwL l1) - (xwT l1 + 3))) 7 ((C.1 7 + (xwT l1 - (C.1 7))) + (xwL l1) - (xwT l1 + ((cB (cB (cA (cR C 1 (C.1 6) (some (1048576 + l1))) 0 (C.1 6) l2) 1 (C.1 6) (xwT l1 - (C.1 7))) 2 (C.1 6) ((C.1 7 + (xwT l1 - (C.1 7))) + (xwL l1) - (xwT l1 + 3))).2.1 2 (C.1 6))))) 6 (C.1 6 + 1))) (fun _ => rfl) ?_
    exact xG.fin (fun _ => rfl) (⟨_, rfl, h⟩)
  · replace h := h.1 (Classical.not_not.mp k2018)
    refine xG.seg 1 (f' := (142, [(4, .int (nI ((C.1 7 + (xwT l1 - (C.1 7))) + (xwL l1)) - nI (xwT l1))), (3, .int (nI (xwT l1 - (C.1 7)))), (0, .ref 5), (1, .ref (1048576 + l1)), (2, .int l2)], [.ref 5])) (x1 := (cN (cN (cB (cB (cA (cR C 1 (C.1 6) (some (1048576 + l1))) 0 (C.1 6) l2) 1 (C.1 6) (xwT l1 - (C.1 7))) 2 (C.1 6) ((C.1 7 + (xwT l1 - (C.1 7))) + (xwL l1) - (xwT l1 + 3))) 7 ((C.1 7 + (xwT l1 - (C.1 7))) + (xwL l1) - (xwT l1 + ((cB (cB (cA (cR C 1 (C.1 6) (some (1048576 + l1))) 0 (C.1 6) l2) 1 (C.1 6) (xwT l1 - (C.1 7))) 2 (C.1 6) ((C.1 7 + (xwT l1 - (C.1 7))) + (xwL l1) - (xwT l1 + 3))).2.1 2 (C.1 6))))) 6 (C.1 6 + 1))) (fun _ => rfl) ?_
    refine xG.call (d := d + 4) (vs := [.ref 5]) (g := (142, [(4, .int (nI ((C.1 7 + (xwT l1 - (C.1 7))) + (xwL l1)) - nI (xwT l1))), (3, .int (nI (xwT l1 - (C.1 7)))), (0, .ref 5), (1, .ref (1048576 + l1)), (2, .int l2)], [])) (fun _ => rfl) rfl (p_C_storeHeld L xs (d + 4) (cN (cN (cB (cB (cA (cR C 1 (C.1 6) (some (1048576 + l1))) 0 (C.1 6) l2) 1 (C.1 6) (xwT l1 - (C.1 7))) 2 (C.1 6) ((C.1 7 + (xwT l1 - (C.1 7))) + (xwL l1) - (xwT l1 + 3))) 7 ((C.1 7 + (xwT l1 - (C.1 7))) + (xwL l1) - (xwT l1 + ((cB (cB (cA (cR C 1 (C.1 6) (some (1048576 + l1))) 0 (C.1 6) l2) 1 (C.1 6) (xwT l1 - (C.1 7))) 2 (C.1 6) ((C.1 7 + (xwT l1 - (C.1 7))) + (xwL l1) - (xwT l1 + 3))).2.1 2 (C.1 6))))) 6 (C.1 6 + 1)) _ h) ?_
    clear h
    rintro _ C2019 ⟨rfl, h⟩
    refine ⟨_, rfl, ?_⟩
    refine xG.eqf (f' := (145, [(4, .int (nI ((C.1 7 + (xwT l1 - (C.1 7))) + (xwL l1)) - nI (xwT l1))), (3, .int (nI (xwT l1 - (C.1 7)))), (0, .ref 5), (1, .ref (1048576 + l1)), (2, .int l2)], [])) rfl ?_
    refine xG.seg 1 (f' := (146, [(4, .int (nI ((C.1 7 + (xwT l1 - (C.1 7))) + (xwL l1)) - nI (xwT l1))), (3, .int (nI (xwT l1 - (C.1 7)))), (0, .ref 5), (1, .ref (1048576 + l1)), (2, .int l2)], [.int (nI 1)])) (x1 := C2019) (fun _ => rfl) ?_
    exact xG.fin (fun _ => rfl) (⟨_, rfl, h⟩)

def w_C_add (x1 : Nat) (x2 : Int32) (C : xC) (Q : Nat → xC → Prop) : Prop := (C.1 6 < 2147483648 ∧ ((C.1 6 = 60 → Q 0 C) ∧ (¬ (C.1 6 = 60) → (x1 < 55 ∧ (xwK x1 < 2147483648 ∧ ((xwK x1 = 7 → w_C_storeHeld C (fun C6 => w_C_add_24 x1 x2 C6 Q)) ∧ (¬ (xwK x1 = 7) → w_C_add_24 x1 x2 C Q)))))))
set_option maxRecDepth 8000 in
set_option maxHeartbeats 4000000 in
theorem p_C_add (L : Nat) (xs : Nat → Int32) (d : Nat) (x1 : Nat) (x2 : Int32) (C : xC) (Q : Nat → xC → Prop) (h : w_C_add x1 x2 C Q) : xG xec (xgt L xs) (d + 5) xi_C_add (0, [(0, .ref 5), (1, .ref (1048576 + x1)), (2, .int x2)], []) C (xPN Q) := by
  unfold w_C_add at h
  refine xG.seg 3 (f' := (6, [(0, .ref 5), (1, .ref (1048576 + x1)), (2, .int x2)], [.int (nI 60), .int (nI (C.1 6))])) (x1 := C) (fun _ => rfl) ?_
  obtain ⟨c1, h⟩ := h
  refine xG.icmp (t := 11) (A := ¬ (C.1 6 = 60)) rfl rfl (xe_c (xt_N c1) (show ((nI 60) : Int32).toInt = 60 from by decide) (by dsimp only; omega)) (fun k2 => ?_) (fun k2 => ?_)
  · replace h := h.2 k2
    refine xG.seg 1 (f' := (12, [(0, .ref 5), (1, .ref (1048576 + x1)), (2, .int x2)], [.ref (1048576 + x1)])) (x1 := C) (fun _ => rfl) ?_
    obtain ⟨c3, h⟩ := h
    refine xG.getc rfl (by omega) (xgc_1 (l := xg_C) (ix := 71) rfl c3) ?_
    refine xG.eqf (f' := (15, [(0, .ref 5), (1, .ref (1048576 + x1)), (2, .int x2)], [.int (nI (xwK x1))])) rfl ?_
    refine xG.seg 1 (f' := (17, [(0, .ref 5), (1, .ref (1048576 + x1)), (2, .int x2)], [.int (nI 7), .int (nI (xwK x1))])) (x1 := C) (fun _ => rfl) ?_
    obtain ⟨c4, h⟩ := h
    refine xG.icmp (t := 24) (A := ¬ (xwK x1 = 7)) rfl rfl (xe_c (xt_N c4) (show ((nI 7) : Int32).toInt = 7 from by decide) (by dsimp only; omega)) (fun k5 => ?_) (fun k5 => ?_)
    · replace h := h.2 k5
      refine xG.lv (lv := [(0, .ref 5), (1, .ref (1048576 + x1)), (2, .int x2)]) (lv' := [(0, .ref 5), (1, .ref (1048576 + x1)), (2, .int x2)]) rfl rfl rfl ?_
      exact p_C_add_24 L xs d Q x1 x2 C h
    · replace h := h.1 (Classical.not_not.mp k5)
      refine xG.seg 1 (f' := (21, [(0, .ref 5), (1, .ref (1048576 + x1)), (2, .int x2)], [.ref 5])) (x1 := C) (fun _ => rfl) ?_
      refine xG.call (d := d + 4) (vs := [.ref 5]) (g := (21, [(0, .ref 5), (1, .ref (1048576 + x1)), (2, .int x2)], [])) (fun _ => rfl) rfl (p_C_storeHeld L xs (d + 4) C _ h) ?_
      clear h
      rintro _ C6 ⟨rfl, h⟩
      refine ⟨_, rfl, ?_⟩
      refine xG.eqf (f' := (24, [(0, .ref 5), (1, .ref (1048576 + x1)), (2, .int x2)], [])) rfl ?_
      refine xG.lv (lv := [(0, .ref 5), (1, .ref (1048576 + x1)), (2, .int x2)]) (lv' := [(0, .ref 5), (1, .ref (1048576 + x1)), (2, .int x2)]) rfl rfl rfl ?_
      exact p_C_add_24 L xs d Q x1 x2 C6 h
  · replace h := h.1 (Classical.not_not.mp k2)
    refine xG.seg 1 (f' := (10, [(0, .ref 5), (1, .ref (1048576 + x1)), (2, .int x2)], [.int (nI 0)])) (x1 := C) (fun _ => rfl) ?_
    exact xG.fin (fun _ => rfl) (⟨_, rfl, h⟩)

def w_F_fitting (x1 : Nat) (C : xC) (Q : Nat → xC → Prop) : Prop := (x1 < 2147483648 ∧ ((x1 = 0 → Q 57 C) ∧ (¬ (x1 = 0) → Q 55 C)))
set_option maxRecDepth 8000 in
set_option maxHeartbeats 4000000 in
theorem p_F_fitting (L : Nat) (xs : Nat → Int32) (d : Nat) (x1 : Nat) (C : xC) (Q : Nat → xC → Prop) (h : w_F_fitting x1 C Q) : xG xec (xgt L xs) (d) xi_F_fitting (0, [(0, .int (nI x1))], []) C (xPW Q) := by
  unfold w_F_fitting at h
  refine xG.seg 1 (f' := (1, [(0, .int (nI x1))], [.int (nI x1)])) (x1 := C) (fun _ => rfl) ?_
  obtain ⟨c1, h⟩ := h
  refine xG.ifc (t := 10) (A := x1 = 0) rfl rfl (xe_c (xt_N c1) (show (0 : Int32).toInt = 0 from by decide) (by dsimp only; omega)) (fun k2 => ?_) (fun k2 => ?_)
  · replace h := h.1 k2
    refine xG.seg 1 (f' := (13, [(0, .int (nI x1))], [.ref (1048576 + 57)])) (x1 := C) (fun _ => rfl) ?_
    exact xG.fin (fun _ => rfl) (⟨_, rfl, h⟩)
  · replace h := h.2 k2
    refine xG.seg 2 (f' := (13, [(0, .int (nI x1))], [.ref (1048576 + 55)])) (x1 := C) (fun _ => rfl) ?_
    exact xG.fin (fun _ => rfl) (⟨_, rfl, h⟩)

def w_F_compileOrDo (x1 : Nat) (x2 : Int32) (C : xC) (Q : Nat → xC → Prop) : Prop := (C.1 5 < 2147483648 ∧ ((C.1 5 = 0 → w_M_doWord x1 x2 C (fun r4 C3 => Q r4 C3)) ∧ (¬ (C.1 5 = 0) → w_C_add x1 x2 C (fun r6 C5 => w_F_fitting r6 C5 (fun r8 C7 => Q r8 C7)))))
set_option maxRecDepth 8000 in
set_option maxHeartbeats 4000000 in
theorem p_F_compileOrDo (L : Nat) (xs : Nat → Int32) (d : Nat) (x1 : Nat) (x2 : Int32) (C : xC) (Q : Nat → xC → Prop) (h : w_F_compileOrDo x1 x2 C Q) : xG xec (xgt L xs) (d + 9) xi_F_compileOrDo (0, [(0, .ref 0), (1, .ref (1048576 + x1)), (2, .int x2)], []) C (xPW Q) := by
  unfold w_F_compileOrDo at h
  refine xG.seg 3 (f' := (7, [(0, .ref 0), (1, .ref (1048576 + x1)), (2, .int x2)], [.int (nI (C.1 5))])) (x1 := C) (fun _ => rfl) ?_
  obtain ⟨c1, h⟩ := h
  refine xG.ifc (t := 25) (A := C.1 5 = 0) rfl rfl (xe_c (xt_N c1) (show (0 : Int32).toInt = 0 from by decide) (by dsimp only; omega)) (fun k2 => ?_) (fun k2 => ?_)
  · replace h := h.1 k2
    refine xG.seg 4 (f' := (31, [(0, .ref 0), (1, .ref (1048576 + x1)), (2, .int x2)], [.int x2, .ref (1048576 + x1), .ref 12])) (x1 := C) (fun _ => rfl) ?_
    refine xG.call (d := d + 8) (vs := [.ref 12, .ref (1048576 + x1), .int x2]) (g := (31, [(0, .ref 0), (1, .ref (1048576 + x1)), (2, .int x2)], [])) (fun _ => rfl) rfl (p_M_doWord L xs d x1 x2 C _ h) ?_
    clear h
    rintro _ C3 ⟨r4, rfl, h⟩
    refine ⟨_, rfl, ?_⟩
    refine xG.eqf (f' := (34, [(0, .ref 0), (1, .ref (1048576 + x1)), (2, .int x2)], [.ref (1048576 + r4)])) rfl ?_
    exact xG.fin (fun _ => rfl) (⟨_, rfl, h⟩)
  · replace h := h.2 k2
    refine xG.seg 4 (f' := (16, [(0, .ref 0), (1, .ref (1048576 + x1)), (2, .int x2)], [.int x2, .ref (1048576 + x1), .ref 5])) (x1 := C) (fun _ => rfl) ?_
    refine xG.call (d := d + 8) (vs := [.ref 5, .ref (1048576 + x1), .int x2]) (g := (16, [(0, .ref 0), (1, .ref (1048576 + x1)), (2, .int x2)], [])) (fun _ => rfl) rfl (p_C_add L xs (d + 3) x1 x2 C _ h) ?_
    clear h
    rintro _ C5 ⟨r6, rfl, h⟩
    refine ⟨_, rfl, ?_⟩
    refine xG.eqf (f' := (19, [(0, .ref 0), (1, .ref (1048576 + x1)), (2, .int x2)], [.int (nI r6)])) rfl ?_
    refine xG.call (d := d + 8) (vs := [.int (nI r6)]) (g := (19, [(0, .ref 0), (1, .ref (1048576 + x1)), (2, .int x2)], [])) (fun _ => rfl) rfl (p_F_fitting L xs (d + 8) r6 C5 _ h) ?_
    clear h
    rintro _ C7 ⟨r8, rfl, h⟩
    refine ⟨_, rfl, ?_⟩
    refine xG.eqf (f' := (22, [(0, .ref 0), (1, .ref (1048576 + x1)), (2, .int x2)], [.ref (1048576 + r8)])) rfl ?_
    refine xG.seg 1 (f' := (34, [(0, .ref 0), (1, .ref (1048576 + x1)), (2, .int x2)], [.ref (1048576 + r8)])) (x1 := C7) (fun _ => rfl) ?_
    exact xG.fin (fun _ => rfl) (⟨_, rfl, h⟩)

def w_C_open (x1 : Nat) (x2 : Nat) (C : xC) (Q : Nat → xC → Prop) : Prop := (C.1 8 < 2147483648 ∧ ((C.1 8 = 8 → Q 0 C) ∧ (¬ (C.1 8 = 8) → (C.1 8 < 8 ∧ (x1 < 55 ∧ (C.1 8 < 8 ∧ Q 1 (cN (cB (cR C 2 (C.1 8) (some (1048576 + x1))) 3 (C.1 8) x2) 8 (C.1 8 + 1))))))))
set_option maxRecDepth 8000 in
set_option maxHeartbeats 4000000 in
theorem p_C_open (L : Nat) (xs : Nat → Int32) (d : Nat) (x1 : Nat) (x2 : Nat) (C : xC) (Q : Nat → xC → Prop) (h : w_C_open x1 x2 C Q) : xG xec (xgt L xs) (d) xi_C_open (0, [(0, .ref 5), (1, .ref (1048576 + x1)), (2, .int (nI x2))], []) C (xPN Q) := by
  unfold w_C_open at h
  refine xG.seg 3 (f' := (6, [(0, .ref 5), (1, .ref (1048576 + x1)), (2, .int (nI x2))], [.int (nI 8), .int (nI (C.1 8))])) (x1 := C) (fun _ => rfl) ?_
  obtain ⟨c1, h⟩ := h
  refine xG.icmp (t := 11) (A := ¬ (C.1 8 = 8)) rfl rfl (xe_c (xt_N c1) (show ((nI 8) : Int32).toInt = 8 from by decide) (by dsimp only; omega)) (fun k2 => ?_) (fun k2 => ?_)
  · replace h := h.2 k2
    refine xG.seg 5 (f' := (20, [(0, .ref 5), (1, .ref (1048576 + x1)), (2, .int (nI x2))], [.ref (1048576 + x1), .int (nI (C.1 8)), .ref 10])) (x1 := C) (fun _ => rfl) ?_
    obtain ⟨c3, h⟩ := h
    obtain ⟨c4, h⟩ := h
    refine xG.aastW (x1 := (cR C 2 (C.1 8) (some (1048576 + x1)))) rfl (by decide) (fun _ => rfl) (by decide) c3 rfl c4 (fun _ => rfl) ?_
    refine xG.eqf (f' := (21, [(0, .ref 5), (1, .ref (1048576 + x1)), (2, .int (nI x2))], [])) rfl ?_
    refine xG.seg 5 (f' := (30, [(0, .ref 5), (1, .ref (1048576 + x1)), (2, .int (nI x2))], [.int (nI x2), .int (nI (C.1 8)), .ref 11])) (x1 := (cR C 2 (C.1 8) (some (1048576 + x1)))) (fun _ => rfl) ?_
    obtain ⟨c5, h⟩ := h
    refine xG.iast (x1 := (cB (cR C 2 (C.1 8) (some (1048576 + x1))) 3 (C.1 8) x2)) rfl (by decide) (fun _ => rfl) (by decide) c5 (fun _ => by rw [xu_nI]; rfl) ?_
    refine xG.eqf (f' := (31, [(0, .ref 5), (1, .ref (1048576 + x1)), (2, .int (nI x2))], [])) rfl ?_
    refine xG.seg 5 (f' := (38, [(0, .ref 5), (1, .ref (1048576 + x1)), (2, .int (nI x2))], [.int ((nI (C.1 8)) + (nI 1)), .ref 5])) (x1 := (cB (cR C 2 (C.1 8) (some (1048576 + x1))) 3 (C.1 8) x2)) (fun _ => rfl) ?_
    refine xG.conv (xe_add (C.1 8) 1) ?_
    refine xG.eqf (f' := (38, [(0, .ref 5), (1, .ref (1048576 + x1)), (2, .int (nI x2))], [.int (nI (C.1 8 + 1)), .ref 5])) rfl ?_
    refine xG.seg 2 (f' := (42, [(0, .ref 5), (1, .ref (1048576 + x1)), (2, .int (nI x2))], [.int (nI 1)])) (x1 := (cN (cB (cR C 2 (C.1 8) (some (1048576 + x1))) 3 (C.1 8) x2) 8 (C.1 8 + 1))) (fun _ => rfl) ?_
    exact xG.fin (fun _ => rfl) (⟨_, rfl, h⟩)
  · replace h := h.1 (Classical.not_not.mp k2)
    refine xG.seg 1 (f' := (10, [(0, .ref 5), (1, .ref (1048576 + x1)), (2, .int (nI x2))], [.int (nI 0)])) (x1 := C) (fun _ => rfl) ?_
    exact xG.fin (fun _ => rfl) (⟨_, rfl, h⟩)

def w_C_lastOpen (C : xC) (Q : Option Nat → xC → Prop) : Prop := (C.1 8 < 2147483648 ∧ ((C.1 8 ≤ 0 → Q none C) ∧ (¬ (C.1 8 ≤ 0) → (1 ≤ C.1 8 ∧ (C.1 8 - 1 < 8 ∧ Q (C.2.2.2.2.1 2 (C.1 8 - 1)) C)))))
set_option maxRecDepth 8000 in
set_option maxHeartbeats 4000000 in
theorem p_C_lastOpen (L : Nat) (xs : Nat → Int32) (d : Nat) (C : xC) (Q : Option Nat → xC → Prop) (h : w_C_lastOpen C Q) : xG xec (xgt L xs) (d) xi_C_lastOpen (0, [(0, .ref 5)], []) C (xPO Q) := by
  unfold w_C_lastOpen at h
  refine xG.seg 2 (f' := (4, [(0, .ref 5)], [.int (nI (C.1 8))])) (x1 := C) (fun _ => rfl) ?_
  obtain ⟨c1, h⟩ := h
  refine xG.ifc (t := 21) (A := C.1 8 ≤ 0) rfl rfl (xe_c (xt_N c1) (show (0 : Int32).toInt = 0 from by decide) (by dsimp only; omega)) (fun k2 => ?_) (fun k2 => ?_)
  · replace h := h.1 k2
    refine xG.seg 1 (f' := (22, [(0, .ref 5)], [.null])) (x1 := C) (fun _ => rfl) ?_
    exact xG.aret (q := none) rfl ⟨_, rfl⟩ ⟨_, rfl, h⟩
  · replace h := h.2 k2
    refine xG.seg 6 (f' := (17, [(0, .ref 5)], [.int (nI (C.1 8) - nI 1), .ref 10])) (x1 := C) (fun _ => rfl) ?_
    obtain ⟨c3, h⟩ := h
    refine xG.conv (xe_cut c3) ?_
    obtain ⟨c4, h⟩ := h
    refine xG.aald rfl (Or.inl rfl) (by decide) (fun _ => rfl) (by decide) c4 ?_
    refine xG.eqf (f' := (18, [(0, .ref 5)], [va_rf (C.2.2.2.2.1 2 (C.1 8 - 1))])) rfl ?_
    refine xG.seg 1 (f' := (22, [(0, .ref 5)], [va_rf (C.2.2.2.2.1 2 (C.1 8 - 1))])) (x1 := C) (fun _ => rfl) ?_
    exact xG.aret (q := (C.2.2.2.2.1 2 (C.1 8 - 1))) rfl ⟨_, rfl⟩ ⟨_, rfl, h⟩

def w_C_closeLast (C : xC) (Q : Nat → xC → Prop) : Prop := (1 ≤ C.1 8 ∧ (C.1 8 - 1 < 8 ∧ Q (C.2.1 3 (C.1 8 - 1)) (cN C 8 (C.1 8 - 1))))
set_option maxRecDepth 8000 in
set_option maxHeartbeats 4000000 in
theorem p_C_closeLast (L : Nat) (xs : Nat → Int32) (d : Nat) (C : xC) (Q : Nat → xC → Prop) (h : w_C_closeLast C Q) : xG xec (xgt L xs) (d) xi_C_closeLast (0, [(0, .ref 5)], []) C (xPN Q) := by
  unfold w_C_closeLast at h
  refine xG.seg 5 (f' := (7, [(0, .ref 5)], [.int (nI (C.1 8) - nI 1), .ref 5])) (x1 := C) (fun _ => rfl) ?_
  obtain ⟨c1, h⟩ := h
  refine xG.conv (xe_cut c1) ?_
  refine xG.seg 5 (f' := (18, [(0, .ref 5)], [.int (nI (C.1 8 - 1)), .ref 11])) (x1 := (cN C 8 (C.1 8 - 1))) (fun _ => rfl) ?_
  obtain ⟨c2, h⟩ := h
  refine xG.iald rfl (Or.inl ⟨rfl, rfl⟩) (by decide) (fun _ => rfl) (by decide) c2 ?_
  refine xG.eqf (f' := (19, [(0, .ref 5)], [.int (nI (C.2.1 3 (C.1 8 - 1)))])) rfl ?_
  exact xG.fin (fun _ => rfl) (⟨_, rfl, h⟩)

def w_C_turnIfToElse (C : xC) (Q : Nat → xC → Prop) : Prop := w_C_closeLast C (fun r2 C1 => (r2 < 60 ∧ (1 ≤ C1.1 6 ∧ w_C_open 42 (C1.1 6 - 1) (cA C1 0 r2 ((nI (C1.1 6)))) (fun r6 C5 => (r6 ≤ 1 ∧ Q r6 C5)))))
set_option maxRecDepth 8000 in
set_option maxHeartbeats 4000000 in
theorem p_C_turnIfToElse (L : Nat) (xs : Nat → Int32) (d : Nat) (C : xC) (Q : Nat → xC → Prop) (h : w_C_turnIfToElse C Q) : xG xec (xgt L xs) (d + 1) xi_C_turnIfToElse (0, [(0, .ref 5)], []) C (xPN Q) := by
  unfold w_C_turnIfToElse at h
  refine xG.seg 3 (f' := (5, [(0, .ref 5)], [.ref 5, .ref 7])) (x1 := C) (fun _ => rfl) ?_
  refine xG.call (d := d) (vs := [.ref 5]) (g := (5, [(0, .ref 5)], [.ref 7])) (fun _ => rfl) rfl (p_C_closeLast L xs d C _ h) ?_
  clear h
  rintro _ C1 ⟨r2, rfl, h⟩
  refine ⟨_, rfl, ?_⟩
  refine xG.eqf (f' := (8, [(0, .ref 5)], [.int (nI r2), .ref 7])) rfl ?_
  refine xG.seg 2 (f' := (12, [(0, .ref 5)], [.int (nI (C1.1 6)), .int (nI r2), .ref 7])) (x1 := C1) (fun _ => rfl) ?_
  obtain ⟨c3, h⟩ := h
  refine xG.iast (x1 := (cA C1 0 r2 ((nI (C1.1 6))))) rfl (by decide) (fun _ => rfl) (by decide) c3 (fun _ => rfl) ?_
  refine xG.eqf (f' := (13, [(0, .ref 5)], [])) rfl ?_
  refine xG.seg 6 (f' := (23, [(0, .ref 5)], [.int (nI (C1.1 6) - nI 1), .ref (1048576 + 42), .ref 5])) (x1 := (cA C1 0 r2 ((nI (C1.1 6))))) (fun _ => rfl) ?_
  obtain ⟨c4, h⟩ := h
  refine xG.conv (xe_cut c4) ?_
  refine xG.call (d := d) (vs := [.ref 5, .ref (1048576 + 42), .int (nI (C1.1 6 - 1))]) (g := (23, [(0, .ref 5)], [])) (fun _ => rfl) rfl (p_C_open L xs d 42 (C1.1 6 - 1) (cA C1 0 r2 ((nI (C1.1 6)))) _ h) ?_
  clear h
  rintro _ C5 ⟨r6, rfl, h⟩
  refine ⟨_, rfl, ?_⟩
  refine xG.eqf (f' := (26, [(0, .ref 5)], [.int (nI r6)])) rfl ?_
  obtain ⟨c7, h⟩ := h
  exact xG.zret rfl rfl c7 (⟨_, rfl, h⟩)

def w_C_endCondition (C : xC) (Q : Nat → xC → Prop) : Prop := w_C_storeHeld C (fun C1 => w_C_closeLast C1 (fun r3 C2 => (r3 < 60 ∧ Q 1 (cA C2 0 r3 ((nI (C2.1 6)))))))
set_option maxRecDepth 8000 in
set_option maxHeartbeats 4000000 in
theorem p_C_endCondition (L : Nat) (xs : Nat → Int32) (d : Nat) (C : xC) (Q : Nat → xC → Prop) (h : w_C_endCondition C Q) : xG xec (xgt L xs) (d + 1) xi_C_endCondition (0, [(0, .ref 5)], []) C (xPN Q) := by
  unfold w_C_endCondition at h
  refine xG.seg 1 (f' := (1, [(0, .ref 5)], [.ref 5])) (x1 := C) (fun _ => rfl) ?_
  refine xG.call (d := d) (vs := [.ref 5]) (g := (1, [(0, .ref 5)], [])) (fun _ => rfl) rfl (p_C_storeHeld L xs d C _ h) ?_
  clear h
  rintro _ C1 ⟨rfl, h⟩
  refine ⟨_, rfl, ?_⟩
  refine xG.eqf (f' := (4, [(0, .ref 5)], [])) rfl ?_
  refine xG.seg 3 (f' := (9, [(0, .ref 5)], [.ref 5, .ref 7])) (x1 := C1) (fun _ => rfl) ?_
  refine xG.call (d := d) (vs := [.ref 5]) (g := (9, [(0, .ref 5)], [.ref 7])) (fun _ => rfl) rfl (p_C_closeLast L xs d C1 _ h) ?_
  clear h
  rintro _ C2 ⟨r3, rfl, h⟩
  refine ⟨_, rfl, ?_⟩
  refine xG.eqf (f' := (12, [(0, .ref 5)], [.int (nI r3), .ref 7])) rfl ?_
  refine xG.seg 2 (f' := (16, [(0, .ref 5)], [.int (nI (C2.1 6)), .int (nI r3), .ref 7])) (x1 := C2) (fun _ => rfl) ?_
  obtain ⟨c4, h⟩ := h
  refine xG.iast (x1 := (cA C2 0 r3 ((nI (C2.1 6))))) rfl (by decide) (fun _ => rfl) (by decide) c4 (fun _ => rfl) ?_
  refine xG.eqf (f' := (17, [(0, .ref 5)], [])) rfl ?_
  refine xG.seg 1 (f' := (18, [(0, .ref 5)], [.int (nI 1)])) (x1 := (cA C2 0 r3 ((nI (C2.1 6))))) (fun _ => rfl) ?_
  exact xG.fin (fun _ => rfl) (⟨_, rfl, h⟩)

def w_C_goBack (x1 : Nat) (C : xC) (Q : Nat → xC → Prop) : Prop := w_C_closeLast C (fun r2 C1 => w_C_add x1 (nI r2) C1 (fun r4 C3 => (r4 ≤ 1 ∧ Q r4 C3)))
set_option maxRecDepth 8000 in
set_option maxHeartbeats 4000000 in
theorem p_C_goBack (L : Nat) (xs : Nat → Int32) (d : Nat) (x1 : Nat) (C : xC) (Q : Nat → xC → Prop) (h : w_C_goBack x1 C Q) : xG xec (xgt L xs) (d + 6) xi_C_goBack (0, [(0, .ref 5), (1, .ref (1048576 + x1))], []) C (xPN Q) := by
  unfold w_C_goBack at h
  refine xG.seg 3 (f' := (3, [(0, .ref 5), (1, .ref (1048576 + x1))], [.ref 5, .ref (1048576 + x1), .ref 5])) (x1 := C) (fun _ => rfl) ?_
  refine xG.call (d := d + 5) (vs := [.ref 5]) (g := (3, [(0, .ref 5), (1, .ref (1048576 + x1))], [.ref (1048576 + x1), .ref 5])) (fun _ => rfl) rfl (p_C_closeLast L xs (d + 5) C _ h) ?_
  clear h
  rintro _ C1 ⟨r2, rfl, h⟩
  refine ⟨_, rfl, ?_⟩
  refine xG.eqf (f' := (6, [(0, .ref 5), (1, .ref (1048576 + x1))], [.int (nI r2), .ref (1048576 + x1), .ref 5])) rfl ?_
  refine xG.call (d := d + 5) (vs := [.ref 5, .ref (1048576 + x1), .int (nI r2)]) (g := (6, [(0, .ref 5), (1, .ref (1048576 + x1))], [])) (fun _ => rfl) rfl (p_C_add L xs d x1 (nI r2) C1 _ h) ?_
  clear h
  rintro _ C3 ⟨r4, rfl, h⟩
  refine ⟨_, rfl, ?_⟩
  refine xG.eqf (f' := (9, [(0, .ref 5), (1, .ref (1048576 + x1))], [.int (nI r4)])) rfl ?_
  obtain ⟨c5, h⟩ := h
  exact xG.zret rfl rfl c5 (⟨_, rfl, h⟩)

def w_C_endWhile (C : xC) (Q : Nat → xC → Prop) : Prop := w_C_closeLast C (fun r2 C1 => w_C_goBack 44 C1 (fun r4 C3 => (r2 < 60 ∧ (r4 ≤ 1 ∧ Q r4 (cA C3 0 r2 ((nI (C3.1 6))))))))
set_option maxRecDepth 8000 in
set_option maxHeartbeats 4000000 in
theorem p_C_endWhile (L : Nat) (xs : Nat → Int32) (d : Nat) (C : xC) (Q : Nat → xC → Prop) (h : w_C_endWhile C Q) : xG xec (xgt L xs) (d + 7) xi_C_endWhile (0, [(0, .ref 5)], []) C (xPN Q) := by
  unfold w_C_endWhile at h
  refine xG.seg 1 (f' := (1, [(0, .ref 5)], [.ref 5])) (x1 := C) (fun _ => rfl) ?_
  refine xG.call (d := d + 6) (vs := [.ref 5]) (g := (1, [(0, .ref 5)], [])) (fun _ => rfl) rfl (p_C_closeLast L xs (d + 6) C _ h) ?_
  clear h
  rintro _ C1 ⟨r2, rfl, h⟩
  refine ⟨_, rfl, ?_⟩
  refine xG.eqf (f' := (4, [(0, .ref 5)], [.int (nI r2)])) rfl ?_
  refine xG.seg 3 (f' := (9, [(1, .int (nI r2)), (0, .ref 5)], [.ref (1048576 + 44), .ref 5])) (x1 := C1) (fun _ => rfl) ?_
  refine xG.call (d := d + 6) (vs := [.ref 5, .ref (1048576 + 44)]) (g := (9, [(1, .int (nI r2)), (0, .ref 5)], [])) (fun _ => rfl) rfl (p_C_goBack L xs d 44 C1 _ h) ?_
  clear h
  rintro _ C3 ⟨r4, rfl, h⟩
  refine ⟨_, rfl, ?_⟩
  refine xG.eqf (f' := (12, [(1, .int (nI r2)), (0, .ref 5)], [.int (nI r4)])) rfl ?_
  refine xG.seg 6 (f' := (22, [(2, .int (nI r4)), (1, .int (nI r2)), (0, .ref 5)], [.int (nI (C3.1 6)), .int (nI r2), .ref 7])) (x1 := C3) (fun _ => rfl) ?_
  obtain ⟨c5, h⟩ := h
  refine xG.iast (x1 := (cA C3 0 r2 ((nI (C3.1 6))))) rfl (by decide) (fun _ => rfl) (by decide) c5 (fun _ => rfl) ?_
  refine xG.eqf (f' := (23, [(2, .int (nI r4)), (1, .int (nI r2)), (0, .ref 5)], [])) rfl ?_
  refine xG.seg 1 (f' := (24, [(2, .int (nI r4)), (1, .int (nI r2)), (0, .ref 5)], [.int (nI r4)])) (x1 := (cA C3 0 r2 ((nI (C3.1 6))))) (fun _ => rfl) ?_
  obtain ⟨c6, h⟩ := h
  exact xG.zret rfl rfl c6 (⟨_, rfl, h⟩)

def w_D_add (x1 : Nat) (C : xC) (Q : xC → Prop) : Prop := (C.1 4 < 2147483648 ∧ ((40 ≤ C.1 4 → Q C) ∧ (¬ (40 ≤ C.1 4) → (C.1 4 < 40 ∧ (xDk C x1 ∧ Q (cN (cR C 0 (C.1 4) (some x1)) 4 (C.1 4 + 1)))))))
set_option maxRecDepth 8000 in
set_option maxHeartbeats 4000000 in
theorem p_D_add (L : Nat) (xs : Nat → Int32) (d : Nat) (x1 : Nat) (C : xC) (Q : xC → Prop) (h : w_D_add x1 C Q) : xG xec (xgt L xs) (d) xi_D_add (0, [(0, .ref 3), (1, .ref x1)], []) C (xPV Q) := by
  unfold w_D_add at h
  refine xG.seg 3 (f' := (6, [(0, .ref 3), (1, .ref x1)], [.int (nI 40), .int (nI (C.1 4))])) (x1 := C) (fun _ => rfl) ?_
  obtain ⟨c1, h⟩ := h
  refine xG.icmp (t := 29) (A := 40 ≤ C.1 4) rfl rfl (xe_c (xt_N c1) (show ((nI 40) : Int32).toInt = 40 from by decide) (by dsimp only; omega)) (fun k2 => ?_) (fun k2 => ?_)
  · replace h := h.1 k2
    exact xG.fin (fun _ => rfl) (⟨rfl, h⟩)
  · replace h := h.2 k2
    refine xG.seg 5 (f' := (18, [(0, .ref 3), (1, .ref x1)], [.ref x1, .int (nI (C.1 4)), .ref 4])) (x1 := C) (fun _ => rfl) ?_
    obtain ⟨c3, h⟩ := h
    obtain ⟨c4, h⟩ := h
    refine xG.aastD (fs := _) (x1 := (cR C 0 (C.1 4) (some x1))) rfl (by decide) (fun _ => rfl) (by decide) c3 rfl c4.1 (fun y => xDk.at c4 y) (fun _ => rfl) ?_
    refine xG.eqf (f' := (19, [(0, .ref 3), (1, .ref x1)], [])) rfl ?_
    refine xG.seg 5 (f' := (26, [(0, .ref 3), (1, .ref x1)], [.int ((nI (C.1 4)) + (nI 1)), .ref 3])) (x1 := (cR C 0 (C.1 4) (some x1))) (fun _ => rfl) ?_
    refine xG.conv (xe_add (C.1 4) 1) ?_
    refine xG.eqf (f' := (26, [(0, .ref 3), (1, .ref x1)], [.int (nI (C.1 4 + 1)), .ref 3])) rfl ?_
    refine xG.seg 1 (f' := (29, [(0, .ref 3), (1, .ref x1)], [])) (x1 := (cN (cR C 0 (C.1 4) (some x1)) 4 (C.1 4 + 1))) (fun _ => rfl) ?_
    exact xG.fin (fun _ => rfl) (⟨rfl, h⟩)

def w_C_finish (C : xC) (Q : Nat → xC → Prop) : Prop := w_C_storeHeld C (fun C1 => (C1.1 6 ≤ 60 ∧ C1.2.2.2.2.2.2.1.length + 43 < 1048576 ∧ (∀ j, j < C1.1 6 → ∃ w, w < 55 ∧ C1.2.2.2.2.1 1 j = some (1048576 + w)) ∧ w_D_add (C1.2.2.2.2.2.2.1.length + 38) (cY C1 (xT5 C1 C1.2.2.2.1 (C1.1 6) (C1.1 6)) (C1.2.2.2.2.2.2.2 + 6 + C1.1 6 + C1.1 6 + C1.1 6 + C1.1 6)) (fun C2 => Q 1 (cN C2 5 0))))
set_option maxRecDepth 8000 in
set_option maxHeartbeats 4000000 in
theorem p_C_finish (L : Nat) (xs : Nat → Int32) (d : Nat) (C : xC) (Q : Nat → xC → Prop) (h : w_C_finish C Q) : xG xec (xgt L xs) (d + 6) xi_C_finish (0, [(0, .ref 5)], []) C (xPN Q) := by
  unfold w_C_finish at h
  refine xG.seg 1 (f' := (1, [(0, .ref 5)], [.ref 5])) (x1 := C) (fun _ => rfl) ?_
  refine xG.call (d := d + 5) (vs := [.ref 5]) (g := (1, [(0, .ref 5)], [])) (fun _ => rfl) rfl (p_C_storeHeld L xs (d + 5) C _ h) ?_
  clear h
  rintro _ C1 ⟨rfl, h⟩
  refine ⟨_, rfl, ?_⟩
  obtain ⟨hs, hq, hw, h⟩ := h
  refine xG.seg 2 (f' := (8, [(0, .ref 5)], [.ref 3])) (x1 := C1) (fun _ => rfl) ?_
  refine xG.new (a := C1.2.2.2.2.2.2.1.length + 38) (x1 := cY C1 [.inr (3, [.long 0, .int 0, .null, .null, .null, .null])] (C1.2.2.2.2.2.2.2 + 6)) rfl rfl (fun _ => rfl) (by omega) (fun _ => rfl) ?_
  refine xG.seg 13 (f' := (36, [(0, .ref 5)], [.ref 9, .ref 8, .ref 7, .ref 6, .int (nI (C1.1 6)), .long C1.2.2.2.1, .ref (C1.2.2.2.2.2.2.1.length + 38), .ref (C1.2.2.2.2.2.2.1.length + 38), .ref 3])) (x1 := cY C1 [.inr (3, [.long 0, .int 0, .null, .null, .null, .null])] (C1.2.2.2.2.2.2.2 + 6)) (fun _ => rfl) ?_
  refine xG.call (d := d + 5) (vs := [.ref (C1.2.2.2.2.2.2.1.length + 38), .long C1.2.2.2.1, .int (nI (C1.1 6)), .ref 6, .ref 7, .ref 8, .ref 9]) (g := (36, [(0, .ref 5)], [.ref (C1.2.2.2.2.2.2.1.length + 38), .ref 3])) (fun _ => rfl) rfl (p_N_init L xs d C1 C1.2.2.2.1 (C1.1 6) (C1.2.2.2.2.2.2.2 + 6) hs hq hw (fun C2 => w_D_add (C1.2.2.2.2.2.2.1.length + 38) C2 (fun C2 => Q 1 (cN C2 5 0))) h) ?_
  clear h
  rintro _ C2 ⟨rfl, h⟩
  refine ⟨_, rfl, ?_⟩
  refine xG.eqf (f' := (39, [(0, .ref 5)], [.ref (C1.2.2.2.2.2.2.1.length + 38), .ref 3])) rfl ?_
  refine xG.call (d := d + 5) (vs := [.ref 3, .ref (C1.2.2.2.2.2.2.1.length + 38)]) (g := (39, [(0, .ref 5)], [])) (fun _ => rfl) rfl (p_D_add L xs (d + 5) (C1.2.2.2.2.2.2.1.length + 38) C2 _ h) ?_
  clear h
  rintro _ C3 ⟨rfl, h⟩
  refine ⟨_, rfl, ?_⟩
  refine xG.seg 4 (f' := (48, [(0, .ref 5)], [.int (nI 1)])) (x1 := cN C3 5 0) (fun _ => rfl) ?_
  exact xG.fin (fun _ => rfl) ⟨_, rfl, h⟩

def w_C_act (x1 : Nat) (C : xC) (Q : Nat → xC → Prop) : Prop := (x1 < 55 ∧ (x1 < 55 ∧ (xwV x1 < 2147483648 ∧ ((xwV x1 = 3 → w_C_add x1 (nI 0) C (fun r6 C5 => (r6 < 2147483648 ∧ ((r6 = 0 → Q 0 C5) ∧ (¬ (r6 = 0) → (1 ≤ C5.1 6 ∧ w_C_open x1 (C5.1 6 - 1) C5 (fun r11 C10 => (r11 < 2147483648 ∧ ((r11 = 0 → Q 0 C10) ∧ (¬ (r11 = 0) → Q 1 C10)))))))))) ∧ (¬ xwV x1 = 3 → ((xwV x1 = 4 → w_C_lastOpen C (fun r16 C15 => ((∀ a, r16 = some a → 1048576 ≤ a ∧ a < 1048637) ∧ ((r16 = some (1048576 + 38) → w_C_add x1 (nI 0) C15 (fun r20 C19 => (r20 < 2147483648 ∧ ((r20 = 0 → Q 0 C19) ∧ (¬ (r20 = 0) → w_C_turnIfToElse C19 (fun r24 C23 => (r24 < 2147483648 ∧ ((r24 = 0 → Q 0 C23) ∧ (¬ (r24 = 0) → Q 1 C23))))))))) ∧ (¬ (r16 = some (1048576 + 38)) → Q 0 C15))))) ∧ (¬ xwV x1 = 4 → ((xwV x1 = 5 → w_C_lastOpen C (fun r29 C28 => ((∀ a, r29 = some a → 1048576 ≤ a ∧ a < 1048637) ∧ ((r29 = some (1048576 + 38) → w_C_endCondition C28 (fun r33 C32 => (r33 < 2147483648 ∧ ((r33 = 0 → Q 0 C32) ∧ (¬ (r33 = 0) → Q 1 C32))))) ∧ (¬ (r29 = some (1048576 + 38)) → w_C_lastOpen C28 (fun r37 C36 => ((∀ a, r37 = some a → 1048576 ≤ a ∧ a < 1048637) ∧ ((r37 = some (1048576 + 42) → w_C_endCondition C36 (fun r41 C40 => (r41 < 2147483648 ∧ ((r41 = 0 → Q 0 C40) ∧ (¬ (r41 = 0) → Q 1 C40))))) ∧ (¬ (r37 = some (1048576 + 42)) → Q 0 C36))))))))) ∧ (¬ xwV x1 = 5 → ((xwV x1 = 6 → w_C_storeHeld C (fun C45 => w_C_open x1 (C45.1 6) C45 (fun r47 C46 => (r47 ≤ 1 ∧ Q r47 C46)))) ∧ (¬ xwV x1 = 6 → ((xwV x1 = 7 → w_C_lastOpen C (fun r51 C50 => ((∀ a, r51 = some a → 1048576 ≤ a ∧ a < 1048637) ∧ ((r51 = some (1048576 + 51) → w_C_goBack x1 C50 (fun r55 C54 => (r55 < 2147483648 ∧ ((r55 = 0 → Q 0 C54) ∧ (¬ (r55 = 0) → Q 1 C54))))) ∧ (¬ (r51 = some (1048576 + 51)) → Q 0 C50))))) ∧ (¬ xwV x1 = 7 → ((xwV x1 = 8 → w_C_lastOpen C (fun r60 C59 => ((∀ a, r60 = some a → 1048576 ≤ a ∧ a < 1048637) ∧ ((r60 = some (1048576 + 51) → w_C_goBack x1 C59 (fun r64 C63 => (r64 < 2147483648 ∧ ((r64 = 0 → Q 0 C63) ∧ (¬ (r64 = 0) → Q 1 C63))))) ∧ (¬ (r60 = some (1048576 + 51)) → Q 0 C59))))) ∧ (¬ xwV x1 = 8 → ((xwV x1 = 9 → w_C_lastOpen C (fun r69 C68 => ((∀ a, r69 = some a → 1048576 ≤ a ∧ a < 1048637) ∧ ((r69 = some (1048576 + 51) → w_C_add x1 (nI 0) C68 (fun r73 C72 => (r73 < 2147483648 ∧ ((r73 = 0 → Q 0 C72) ∧ (¬ (r73 = 0) → (1 ≤ C72.1 6 ∧ w_C_open x1 (C72.1 6 - 1) C72 (fun r78 C77 => (r78 < 2147483648 ∧ ((r78 = 0 → Q 0 C77) ∧ (¬ (r78 = 0) → Q 1 C77)))))))))) ∧ (¬ (r69 = some (1048576 + 51)) → Q 0 C68))))) ∧ (¬ xwV x1 = 9 → ((xwV x1 = 10 → w_C_lastOpen C (fun r83 C82 => ((∀ a, r83 = some a → 1048576 ≤ a ∧ a < 1048637) ∧ ((r83 = some (1048576 + 40) → w_C_endWhile C82 (fun r87 C86 => (r87 < 2147483648 ∧ ((r87 = 0 → Q 0 C86) ∧ (¬ (r87 = 0) → Q 1 C86))))) ∧ (¬ (r83 = some (1048576 + 40)) → Q 0 C82))))) ∧ (¬ xwV x1 = 10 → ((xwV x1 = 11 → w_C_add x1 (nI 0) C (fun r92 C91 => (r92 < 2147483648 ∧ ((r92 = 0 → Q 0 C91) ∧ (¬ (r92 = 0) → w_C_open x1 (C91.1 6) C91 (fun r96 C95 => (r96 < 2147483648 ∧ ((r96 = 0 → Q 0 C95) ∧ (¬ (r96 = 0) → Q 1 C95))))))))) ∧ (¬ xwV x1 = 11 → ((xwV x1 = 12 → w_C_lastOpen C (fun r101 C100 => ((∀ a, r101 = some a → 1048576 ≤ a ∧ a < 1048637) ∧ ((r101 = some (1048576 + 41) → w_C_goBack x1 C100 (fun r105 C104 => (r105 < 2147483648 ∧ ((r105 = 0 → Q 0 C104) ∧ (¬ (r105 = 0) → Q 1 C104))))) ∧ (¬ (r101 = some (1048576 + 41)) → Q 0 C100))))) ∧ (¬ xwV x1 = 12 → ((xwV x1 = 13 → w_C_add 49 (nI (C.1 4)) C (fun r110 C109 => (r110 ≤ 1 ∧ Q r110 C109))) ∧ (¬ xwV x1 = 13 → ((xwV x1 = 14 → (C.1 8 < 2147483648 ∧ ((C.1 8 = 0 → w_C_add x1 (nI 0) C (fun r116 C115 => (r116 < 2147483648 ∧ ((r116 = 0 → Q 0 C115) ∧ (¬ (r116 = 0) → w_C_finish C115 (fun r120 C119 => (r120 < 2147483648 ∧ ((r120 = 0 → Q 0 C119) ∧ (¬ (r120 = 0) → Q 1 C119))))))))) ∧ (¬ (C.1 8 = 0) → Q 0 C)))) ∧ (¬ xwV x1 = 14 → w_C_add x1 (nI 0) C (fun r124 C123 => (r124 ≤ 1 ∧ Q r124 C123)))))))))))))))))))))))))))))
set_option maxRecDepth 8000 in
set_option maxHeartbeats 4000000 in
theorem p_C_act (L : Nat) (xs : Nat → Int32) (d : Nat) (x1 : Nat) (C : xC) (Q : Nat → xC → Prop) (h : w_C_act x1 C Q) : xG xec (xgt L xs) (d + 8) xi_C_act (0, [(0, .ref 5), (1, .ref (1048576 + x1))], []) C (xPN Q) := by
  unfold w_C_act at h
  refine xG.seg 2 (f' := (4, [(0, .ref 5), (1, .ref (1048576 + x1))], [.ref (1048576 + x1), .ref 1048638])) (x1 := C) (fun _ => rfl) ?_
  obtain ⟨c1, h⟩ := h
  refine xG.prim (fun _ => rfl) (fun _ => rfl) (show mx_prim xi_C_act (4, [(0, .ref 5), (1, .ref (1048576 + x1))], [.ref (1048576 + x1), .ref 1048638]) = some _ from mx_pr_e (I := xi_C_act) (ix := 404) (k := 1) (g := xp_g 2) (pc := 4) (lv := [(0, .ref 5), (1, .ref (1048576 + x1))]) (st := [.ref (1048576 + x1), .ref 1048638]) rfl (Nat.le_of_ble_eq_true rfl) (Nat.le_of_ble_eq_true rfl) (xpg_2 c1)) (by omega) ?_
  refine xG.eqf (f' := (7, [(0, .ref 5), (1, .ref (1048576 + x1))], [.int (nI x1), .ref 1048638])) rfl ?_
  obtain ⟨c2, h⟩ := h
  refine xG.cald rfl (Or.inl ⟨rfl, rfl⟩) (by decide) rfl (by decide) c2 ?_
  refine xG.eqf (f' := (8, [(0, .ref 5), (1, .ref (1048576 + x1))], [.int (xw_sw.getD x1 0)])) rfl ?_
  refine xG.conv (xwV_e c2) ?_
  obtain ⟨c3, h⟩ := h
  by_cases k4 : xwV x1 = 3
  · replace h := h.1 k4
    refine xG.tsw (t := 72) rfl c3 (by rw [k4]; rfl) ?_
    refine xG.seg 3 (f' := (75, [(0, .ref 5), (1, .ref (1048576 + x1))], [.int (nI 0), .ref (1048576 + x1), .ref 5])) (x1 := C) (fun _ => rfl) ?_
    refine xG.call (d := d + 7) (vs := [.ref 5, .ref (1048576 + x1), .int (nI 0)]) (g := (75, [(0, .ref 5), (1, .ref (1048576 + x1))], [])) (fun _ => rfl) rfl (p_C_add L xs (d + 2) x1 (nI 0) C _ h) ?_
    clear h
    rintro _ C5 ⟨r6, rfl, h⟩
    refine ⟨_, rfl, ?_⟩
    refine xG.eqf (f' := (78, [(0, .ref 5), (1, .ref (1048576 + x1))], [.int (nI r6)])) rfl ?_
    obtain ⟨c7, h⟩ := h
    refine xG.ifc (t := 99) (A := r6 = 0) rfl rfl (xe_c (xt_N c7) (show (0 : Int32).toInt = 0 from by decide) (by dsimp only; omega)) (fun k8 => ?_) (fun k8 => ?_)
    · replace h := h.1 k8
      refine xG.seg 1 (f' := (100, [(0, .ref 5), (1, .ref (1048576 + x1))], [.int (nI 0)])) (x1 := C5) (fun _ => rfl) ?_
      exact xG.fin (fun _ => rfl) (⟨_, rfl, h⟩)
    · replace h := h.2 k8
      refine xG.seg 6 (f' := (89, [(0, .ref 5), (1, .ref (1048576 + x1))], [.int (nI (C5.1 6) - nI 1), .ref (1048576 + x1), .ref 5])) (x1 := C5) (fun _ => rfl) ?_
      obtain ⟨c9, h⟩ := h
      refine xG.conv (xe_cut c9) ?_
      refine xG.call (d := d + 7) (vs := [.ref 5, .ref (1048576 + x1), .int (nI (C5.1 6 - 1))]) (g := (89, [(0, .ref 5), (1, .ref (1048576 + x1))], [])) (fun _ => rfl) rfl (p_C_open L xs (d + 7) x1 (C5.1 6 - 1) C5 _ h) ?_
      clear h
      rintro _ C10 ⟨r11, rfl, h⟩
      refine ⟨_, rfl, ?_⟩
      refine xG.eqf (f' := (92, [(0, .ref 5), (1, .ref (1048576 + x1))], [.int (nI r11)])) rfl ?_
      obtain ⟨c12, h⟩ := h
      refine xG.ifc (t := 99) (A := r11 = 0) rfl rfl (xe_c (xt_N c12) (show (0 : Int32).toInt = 0 from by decide) (by dsimp only; omega)) (fun k13 => ?_) (fun k13 => ?_)
      · replace h := h.1 k13
        refine xG.seg 1 (f' := (100, [(0, .ref 5), (1, .ref (1048576 + x1))], [.int (nI 0)])) (x1 := C10) (fun _ => rfl) ?_
        exact xG.fin (fun _ => rfl) (⟨_, rfl, h⟩)
      · replace h := h.2 k13
        refine xG.seg 2 (f' := (100, [(0, .ref 5), (1, .ref (1048576 + x1))], [.int (nI 1)])) (x1 := C10) (fun _ => rfl) ?_
        exact xG.fin (fun _ => rfl) (⟨_, rfl, h⟩)
  replace h := h.2 k4
  by_cases k14 : xwV x1 = 4
  · replace h := h.1 k14
    refine xG.tsw (t := 101) rfl c3 (by rw [k14]; rfl) ?_
    refine xG.seg 1 (f' := (102, [(0, .ref 5), (1, .ref (1048576 + x1))], [.ref 5])) (x1 := C) (fun _ => rfl) ?_
    refine xG.call (d := d + 7) (vs := [.ref 5]) (g := (102, [(0, .ref 5), (1, .ref (1048576 + x1))], [])) (fun _ => rfl) rfl (p_C_lastOpen L xs (d + 7) C _ h) ?_
    clear h
    rintro _ C15 ⟨r16, rfl, h⟩
    refine ⟨_, rfl, ?_⟩
    refine xG.eqf (f' := (105, [(0, .ref 5), (1, .ref (1048576 + x1))], [va_rf r16])) rfl ?_
    refine xG.seg 1 (f' := (108, [(0, .ref 5), (1, .ref (1048576 + x1))], [.ref (1048576 + 38), va_rf r16])) (x1 := C15) (fun _ => rfl) ?_
    obtain ⟨c17, h⟩ := h
    refine xG.acmp (t := 131) (A := ¬ (r16 = some (1048576 + 38))) rfl rfl (xcst_O c17) (xcst_W (e := 38) (by decide)) (xe_an Iff.rfl) (fun k18 => ?_) (fun k18 => ?_)
    · replace h := h.2 k18
      refine xG.seg 1 (f' := (132, [(0, .ref 5), (1, .ref (1048576 + x1))], [.int (nI 0)])) (x1 := C15) (fun _ => rfl) ?_
      exact xG.fin (fun _ => rfl) (⟨_, rfl, h⟩)
    · replace h := h.1 (Classical.not_not.mp k18)
      refine xG.seg 3 (f' := (114, [(0, .ref 5), (1, .ref (1048576 + x1))], [.int (nI 0), .ref (1048576 + x1), .ref 5])) (x1 := C15) (fun _ => rfl) ?_
      refine xG.call (d := d + 7) (vs := [.ref 5, .ref (1048576 + x1), .int (nI 0)]) (g := (114, [(0, .ref 5), (1, .ref (1048576 + x1))], [])) (fun _ => rfl) rfl (p_C_add L xs (d + 2) x1 (nI 0) C15 _ h) ?_
      clear h
      rintro _ C19 ⟨r20, rfl, h⟩
      refine ⟨_, rfl, ?_⟩
      refine xG.eqf (f' := (117, [(0, .ref 5), (1, .ref (1048576 + x1))], [.int (nI r20)])) rfl ?_
      obtain ⟨c21, h⟩ := h
      refine xG.ifc (t := 131) (A := r20 = 0) rfl rfl (xe_c (xt_N c21) (show (0 : Int32).toInt = 0 from by decide) (by dsimp only; omega)) (fun k22 => ?_) (fun k22 => ?_)
      · replace h := h.1 k22
        refine xG.seg 1 (f' := (132, [(0, .ref 5), (1, .ref (1048576 + x1))], [.int (nI 0)])) (x1 := C19) (fun _ => rfl) ?_
        exact xG.fin (fun _ => rfl) (⟨_, rfl, h⟩)
      · replace h := h.2 k22
        refine xG.seg 1 (f' := (121, [(0, .ref 5), (1, .ref (1048576 + x1))], [.ref 5])) (x1 := C19) (fun _ => rfl) ?_
        refine xG.call (d := d + 7) (vs := [.ref 5]) (g := (121, [(0, .ref 5), (1, .ref (1048576 + x1))], [])) (fun _ => rfl) rfl (p_C_turnIfToElse L xs (d + 6) C19 _ h) ?_
        clear h
        rintro _ C23 ⟨r24, rfl, h⟩
        refine ⟨_, rfl, ?_⟩
        refine xG.eqf (f' := (124, [(0, .ref 5), (1, .ref (1048576 + x1))], [.int (nI r24)])) rfl ?_
        obtain ⟨c25, h⟩ := h
        refine xG.ifc (t := 131) (A := r24 = 0) rfl rfl (xe_c (xt_N c25) (show (0 : Int32).toInt = 0 from by decide) (by dsimp only; omega)) (fun k26 => ?_) (fun k26 => ?_)
        · replace h := h.1 k26
          refine xG.seg 1 (f' := (132, [(0, .ref 5), (1, .ref (1048576 + x1))], [.int (nI 0)])) (x1 := C23) (fun _ => rfl) ?_
          exact xG.fin (fun _ => rfl) (⟨_, rfl, h⟩)
        · replace h := h.2 k26
          refine xG.seg 2 (f' := (132, [(0, .ref 5), (1, .ref (1048576 + x1))], [.int (nI 1)])) (x1 := C23) (fun _ => rfl) ?_
          exact xG.fin (fun _ => rfl) (⟨_, rfl, h⟩)
  replace h := h.2 k14
  by_cases k27 : xwV x1 = 5
  · replace h := h.1 k27
    refine xG.tsw (t := 133) rfl c3 (by rw [k27]; rfl) ?_
    refine xG.seg 1 (f' := (134, [(0, .ref 5), (1, .ref (1048576 + x1))], [.ref 5])) (x1 := C) (fun _ => rfl) ?_
    refine xG.call (d := d + 7) (vs := [.ref 5]) (g := (134, [(0, .ref 5), (1, .ref (1048576 + x1))], [])) (fun _ => rfl) rfl (p_C_lastOpen L xs (d + 7) C _ h) ?_
    clear h
    rintro _ C28 ⟨r29, rfl, h⟩
    refine ⟨_, rfl, ?_⟩
    refine xG.eqf (f' := (137, [(0, .ref 5), (1, .ref (1048576 + x1))], [va_rf r29])) rfl ?_
    refine xG.seg 1 (f' := (140, [(0, .ref 5), (1, .ref (1048576 + x1))], [.ref (1048576 + 38), va_rf r29])) (x1 := C28) (fun _ => rfl) ?_
    obtain ⟨c30, h⟩ := h
    refine xG.acmp (t := 153) (A := r29 = some (1048576 + 38)) rfl rfl (xcst_O c30) (xcst_W (e := 38) (by decide)) (xe_ae Iff.rfl) (fun k31 => ?_) (fun k31 => ?_)
    · replace h := h.1 k31
      refine xG.seg 1 (f' := (154, [(0, .ref 5), (1, .ref (1048576 + x1))], [.ref 5])) (x1 := C28) (fun _ => rfl) ?_
      refine xG.call (d := d + 7) (vs := [.ref 5]) (g := (154, [(0, .ref 5), (1, .ref (1048576 + x1))], [])) (fun _ => rfl) rfl (p_C_endCondition L xs (d + 6) C28 _ h) ?_
      clear h
      rintro _ C32 ⟨r33, rfl, h⟩
      refine ⟨_, rfl, ?_⟩
      refine xG.eqf (f' := (157, [(0, .ref 5), (1, .ref (1048576 + x1))], [.int (nI r33)])) rfl ?_
      obtain ⟨c34, h⟩ := h
      refine xG.ifc (t := 164) (A := r33 = 0) rfl rfl (xe_c (xt_N c34) (show (0 : Int32).toInt = 0 from by decide) (by dsimp only; omega)) (fun k35 => ?_) (fun k35 => ?_)
      · replace h := h.1 k35
        refine xG.seg 1 (f' := (165, [(0, .ref 5), (1, .ref (1048576 + x1))], [.int (nI 0)])) (x1 := C32) (fun _ => rfl) ?_
        exact xG.fin (fun _ => rfl) (⟨_, rfl, h⟩)
      · replace h := h.2 k35
        refine xG.seg 2 (f' := (165, [(0, .ref 5), (1, .ref (1048576 + x1))], [.int (nI 1)])) (x1 := C32) (fun _ => rfl) ?_
        exact xG.fin (fun _ => rfl) (⟨_, rfl, h⟩)
    · replace h := h.2 k31
      refine xG.seg 1 (f' := (144, [(0, .ref 5), (1, .ref (1048576 + x1))], [.ref 5])) (x1 := C28) (fun _ => rfl) ?_
      refine xG.call (d := d + 7) (vs := [.ref 5]) (g := (144, [(0, .ref 5), (1, .ref (1048576 + x1))], [])) (fun _ => rfl) rfl (p_C_lastOpen L xs (d + 7) C28 _ h) ?_
      clear h
      rintro _ C36 ⟨r37, rfl, h⟩
      refine ⟨_, rfl, ?_⟩
      refine xG.eqf (f' := (147, [(0, .ref 5), (1, .ref (1048576 + x1))], [va_rf r37])) rfl ?_
      refine xG.seg 1 (f' := (150, [(0, .ref 5), (1, .ref (1048576 + x1))], [.ref (1048576 + 42), va_rf r37])) (x1 := C36) (fun _ => rfl) ?_
      obtain ⟨c38, h⟩ := h
      refine xG.acmp (t := 164) (A := ¬ (r37 = some (1048576 + 42))) rfl rfl (xcst_O c38) (xcst_W (e := 42) (by decide)) (xe_an Iff.rfl) (fun k39 => ?_) (fun k39 => ?_)
      · replace h := h.2 k39
        refine xG.seg 1 (f' := (165, [(0, .ref 5), (1, .ref (1048576 + x1))], [.int (nI 0)])) (x1 := C36) (fun _ => rfl) ?_
        exact xG.fin (fun _ => rfl) (⟨_, rfl, h⟩)
      · replace h := h.1 (Classical.not_not.mp k39)
        refine xG.seg 1 (f' := (154, [(0, .ref 5), (1, .ref (1048576 + x1))], [.ref 5])) (x1 := C36) (fun _ => rfl) ?_
        refine xG.call (d := d + 7) (vs := [.ref 5]) (g := (154, [(0, .ref 5), (1, .ref (1048576 + x1))], [])) (fun _ => rfl) rfl (p_C_endCondition L xs (d + 6) C36 _ h) ?_
        clear h
        rintro _ C40 ⟨r41, rfl, h⟩
        refine ⟨_, rfl, ?_⟩
        refine xG.eqf (f' := (157, [(0, .ref 5), (1, .ref (1048576 + x1))], [.int (nI r41)])) rfl ?_
        obtain ⟨c42, h⟩ := h
        refine xG.ifc (t := 164) (A := r41 = 0) rfl rfl (xe_c (xt_N c42) (show (0 : Int32).toInt = 0 from by decide) (by dsimp only; omega)) (fun k43 => ?_) (fun k43 => ?_)
        · replace h := h.1 k43
          refine xG.seg 1 (f' := (165, [(0, .ref 5), (1, .ref (1048576 + x1))], [.int (nI 0)])) (x1 := C40) (fun _ => rfl) ?_
          exact xG.fin (fun _ => rfl) (⟨_, rfl, h⟩)
        · replace h := h.2 k43
          refine xG.seg 2 (f' := (165, [(0, .ref 5), (1, .ref (1048576 + x1))], [.int (nI 1)])) (x1 := C40) (fun _ => rfl) ?_
          exact xG.fin (fun _ => rfl) (⟨_, rfl, h⟩)
  replace h := h.2 k27
  by_cases k44 : xwV x1 = 6
  · replace h := h.1 k44
    refine xG.tsw (t := 166) rfl c3 (by rw [k44]; rfl) ?_
    refine xG.seg 1 (f' := (167, [(0, .ref 5), (1, .ref (1048576 + x1))], [.ref 5])) (x1 := C) (fun _ => rfl) ?_
    refine xG.call (d := d + 7) (vs := [.ref 5]) (g := (167, [(0, .ref 5), (1, .ref (1048576 + x1))], [])) (fun _ => rfl) rfl (p_C_storeHeld L xs (d + 7) C _ h) ?_
    clear h
    rintro _ C45 ⟨rfl, h⟩
    refine ⟨_, rfl, ?_⟩
    refine xG.eqf (f' := (170, [(0, .ref 5), (1, .ref (1048576 + x1))], [])) rfl ?_
    refine xG.seg 4 (f' := (176, [(0, .ref 5), (1, .ref (1048576 + x1))], [.int (nI (C45.1 6)), .ref (1048576 + x1), .ref 5])) (x1 := C45) (fun _ => rfl) ?_
    refine xG.call (d := d + 7) (vs := [.ref 5, .ref (1048576 + x1), .int (nI (C45.1 6))]) (g := (176, [(0, .ref 5), (1, .ref (1048576 + x1))], [])) (fun _ => rfl) rfl (p_C_open L xs (d + 7) x1 (C45.1 6) C45 _ h) ?_
    clear h
    rintro _ C46 ⟨r47, rfl, h⟩
    refine ⟨_, rfl, ?_⟩
    refine xG.eqf (f' := (179, [(0, .ref 5), (1, .ref (1048576 + x1))], [.int (nI r47)])) rfl ?_
    obtain ⟨c48, h⟩ := h
    exact xG.zret rfl rfl c48 (⟨_, rfl, h⟩)
  replace h := h.2 k44
  by_cases k49 : xwV x1 = 7
  · replace h := h.1 k49
    refine xG.tsw (t := 180) rfl c3 (by rw [k49]; rfl) ?_
    refine xG.seg 1 (f' := (181, [(0, .ref 5), (1, .ref (1048576 + x1))], [.ref 5])) (x1 := C) (fun _ => rfl) ?_
    refine xG.call (d := d + 7) (vs := [.ref 5]) (g := (181, [(0, .ref 5), (1, .ref (1048576 + x1))], [])) (fun _ => rfl) rfl (p_C_lastOpen L xs (d + 7) C _ h) ?_
    clear h
    rintro _ C50 ⟨r51, rfl, h⟩
    refine ⟨_, rfl, ?_⟩
    refine xG.eqf (f' := (184, [(0, .ref 5), (1, .ref (1048576 + x1))], [va_rf r51])) rfl ?_
    refine xG.seg 1 (f' := (187, [(0, .ref 5), (1, .ref (1048576 + x1))], [.ref (1048576 + 51), va_rf r51])) (x1 := C50) (fun _ => rfl) ?_
    obtain ⟨c52, h⟩ := h
    refine xG.acmp (t := 202) (A := ¬ (r51 = some (1048576 + 51))) rfl rfl (xcst_O c52) (xcst_W (e := 51) (by decide)) (xe_an Iff.rfl) (fun k53 => ?_) (fun k53 => ?_)
    · replace h := h.2 k53
      refine xG.seg 1 (f' := (203, [(0, .ref 5), (1, .ref (1048576 + x1))], [.int (nI 0)])) (x1 := C50) (fun _ => rfl) ?_
      exact xG.fin (fun _ => rfl) (⟨_, rfl, h⟩)
    · replace h := h.1 (Classical.not_not.mp k53)
      refine xG.seg 2 (f' := (192, [(0, .ref 5), (1, .ref (1048576 + x1))], [.ref (1048576 + x1), .ref 5])) (x1 := C50) (fun _ => rfl) ?_
      refine xG.call (d := d + 7) (vs := [.ref 5, .ref (1048576 + x1)]) (g := (192, [(0, .ref 5), (1, .ref (1048576 + x1))], [])) (fun _ => rfl) rfl (p_C_goBack L xs (d + 1) x1 C50 _ h) ?_
      clear h
      rintro _ C54 ⟨r55, rfl, h⟩
      refine ⟨_, rfl, ?_⟩
      refine xG.eqf (f' := (195, [(0, .ref 5), (1, .ref (1048576 + x1))], [.int (nI r55)])) rfl ?_
      obtain ⟨c56, h⟩ := h
      refine xG.ifc (t := 202) (A := r55 = 0) rfl rfl (xe_c (xt_N c56) (show (0 : Int32).toInt = 0 from by decide) (by dsimp only; omega)) (fun k57 => ?_) (fun k57 => ?_)
      · replace h := h.1 k57
        refine xG.seg 1 (f' := (203, [(0, .ref 5), (1, .ref (1048576 + x1))], [.int (nI 0)])) (x1 := C54) (fun _ => rfl) ?_
        exact xG.fin (fun _ => rfl) (⟨_, rfl, h⟩)
      · replace h := h.2 k57
        refine xG.seg 2 (f' := (203, [(0, .ref 5), (1, .ref (1048576 + x1))], [.int (nI 1)])) (x1 := C54) (fun _ => rfl) ?_
        exact xG.fin (fun _ => rfl) (⟨_, rfl, h⟩)
  replace h := h.2 k49
  by_cases k58 : xwV x1 = 8
  · replace h := h.1 k58
    refine xG.tsw (t := 180) rfl c3 (by rw [k58]; rfl) ?_
    refine xG.seg 1 (f' := (181, [(0, .ref 5), (1, .ref (1048576 + x1))], [.ref 5])) (x1 := C) (fun _ => rfl) ?_
    refine xG.call (d := d + 7) (vs := [.ref 5]) (g := (181, [(0, .ref 5), (1, .ref (1048576 + x1))], [])) (fun _ => rfl) rfl (p_C_lastOpen L xs (d + 7) C _ h) ?_
    clear h
    rintro _ C59 ⟨r60, rfl, h⟩
    refine ⟨_, rfl, ?_⟩
    refine xG.eqf (f' := (184, [(0, .ref 5), (1, .ref (1048576 + x1))], [va_rf r60])) rfl ?_
    refine xG.seg 1 (f' := (187, [(0, .ref 5), (1, .ref (1048576 + x1))], [.ref (1048576 + 51), va_rf r60])) (x1 := C59) (fun _ => rfl) ?_
    obtain ⟨c61, h⟩ := h
    refine xG.acmp (t := 202) (A := ¬ (r60 = some (1048576 + 51))) rfl rfl (xcst_O c61) (xcst_W (e := 51) (by decide)) (xe_an Iff.rfl) (fun k62 => ?_) (fun k62 => ?_)
    · replace h := h.2 k62
      refine xG.seg 1 (f' := (203, [(0, .ref 5), (1, .ref (1048576 + x1))], [.int (nI 0)])) (x1 := C59) (fun _ => rfl) ?_
      exact xG.fin (fun _ => rfl) (⟨_, rfl, h⟩)
    · replace h := h.1 (Classical.not_not.mp k62)
      refine xG.seg 2 (f' := (192, [(0, .ref 5), (1, .ref (1048576 + x1))], [.ref (1048576 + x1), .ref 5])) (x1 := C59) (fun _ => rfl) ?_
      refine xG.call (d := d + 7) (vs := [.ref 5, .ref (1048576 + x1)]) (g := (192, [(0, .ref 5), (1, .ref (1048576 + x1))], [])) (fun _ => rfl) rfl (p_C_goBack L xs (d + 1) x1 C59 _ h) ?_
      clear h
      rintro _ C63 ⟨r64, rfl, h⟩
      refine ⟨_, rfl, ?_⟩
      refine xG.eqf (f' := (195, [(0, .ref 5), (1, .ref (1048576 + x1))], [.int (nI r64)])) rfl ?_
      obtain ⟨c65, h⟩ := h
      refine xG.ifc (t := 202) (A := r64 = 0) rfl rfl (xe_c (xt_N c65) (show (0 : Int32).toInt = 0 from by decide) (by dsimp only; omega)) (fun k66 => ?_) (fun k66 => ?_)
      · replace h := h.1 k66
        refine xG.seg 1 (f' := (203, [(0, .ref 5), (1, .ref (1048576 + x1))], [.int (nI 0)])) (x1 := C63) (fun _ => rfl) ?_
        exact xG.fin (fun _ => rfl) (⟨_, rfl, h⟩)
      · replace h := h.2 k66
        refine xG.seg 2 (f' := (203, [(0, .ref 5), (1, .ref (1048576 + x1))], [.int (nI 1)])) (x1 := C63) (fun _ => rfl) ?_
        exact xG.fin (fun _ => rfl) (⟨_, rfl, h⟩)
  replace h := h.2 k58
  by_cases k67 : xwV x1 = 9
  · replace h := h.1 k67
    refine xG.tsw (t := 204) rfl c3 (by rw [k67]; rfl) ?_
    refine xG.seg 1 (f' := (205, [(0, .ref 5), (1, .ref (1048576 + x1))], [.ref 5])) (x1 := C) (fun _ => rfl) ?_
    refine xG.call (d := d + 7) (vs := [.ref 5]) (g := (205, [(0, .ref 5), (1, .ref (1048576 + x1))], [])) (fun _ => rfl) rfl (p_C_lastOpen L xs (d + 7) C _ h) ?_
    clear h
    rintro _ C68 ⟨r69, rfl, h⟩
    refine ⟨_, rfl, ?_⟩
    refine xG.eqf (f' := (208, [(0, .ref 5), (1, .ref (1048576 + x1))], [va_rf r69])) rfl ?_
    refine xG.seg 1 (f' := (211, [(0, .ref 5), (1, .ref (1048576 + x1))], [.ref (1048576 + 51), va_rf r69])) (x1 := C68) (fun _ => rfl) ?_
    obtain ⟨c70, h⟩ := h
    refine xG.acmp (t := 241) (A := ¬ (r69 = some (1048576 + 51))) rfl rfl (xcst_O c70) (xcst_W (e := 51) (by decide)) (xe_an Iff.rfl) (fun k71 => ?_) (fun k71 => ?_)
    · replace h := h.2 k71
      refine xG.seg 1 (f' := (242, [(0, .ref 5), (1, .ref (1048576 + x1))], [.int (nI 0)])) (x1 := C68) (fun _ => rfl) ?_
      exact xG.fin (fun _ => rfl) (⟨_, rfl, h⟩)
    · replace h := h.1 (Classical.not_not.mp k71)
      refine xG.seg 3 (f' := (217, [(0, .ref 5), (1, .ref (1048576 + x1))], [.int (nI 0), .ref (1048576 + x1), .ref 5])) (x1 := C68) (fun _ => rfl) ?_
      refine xG.call (d := d + 7) (vs := [.ref 5, .ref (1048576 + x1), .int (nI 0)]) (g := (217, [(0, .ref 5), (1, .ref (1048576 + x1))], [])) (fun _ => rfl) rfl (p_C_add L xs (d + 2) x1 (nI 0) C68 _ h) ?_
      clear h
      rintro _ C72 ⟨r73, rfl, h⟩
      refine ⟨_, rfl, ?_⟩
      refine xG.eqf (f' := (220, [(0, .ref 5), (1, .ref (1048576 + x1))], [.int (nI r73)])) rfl ?_
      obtain ⟨c74, h⟩ := h
      refine xG.ifc (t := 241) (A := r73 = 0) rfl rfl (xe_c (xt_N c74) (show (0 : Int32).toInt = 0 from by decide) (by dsimp only; omega)) (fun k75 => ?_) (fun k75 => ?_)
      · replace h := h.1 k75
        refine xG.seg 1 (f' := (242, [(0, .ref 5), (1, .ref (1048576 + x1))], [.int (nI 0)])) (x1 := C72) (fun _ => rfl) ?_
        exact xG.fin (fun _ => rfl) (⟨_, rfl, h⟩)
      · replace h := h.2 k75
        refine xG.seg 6 (f' := (231, [(0, .ref 5), (1, .ref (1048576 + x1))], [.int (nI (C72.1 6) - nI 1), .ref (1048576 + x1), .ref 5])) (x1 := C72) (fun _ => rfl) ?_
        obtain ⟨c76, h⟩ := h
        refine xG.conv (xe_cut c76) ?_
        refine xG.call (d := d + 7) (vs := [.ref 5, .ref (1048576 + x1), .int (nI (C72.1 6 - 1))]) (g := (231, [(0, .ref 5), (1, .ref (1048576 + x1))], [])) (fun _ => rfl) rfl (p_C_open L xs (d + 7) x1 (C72.1 6 - 1) C72 _ h) ?_
        clear h
        rintro _ C77 ⟨r78, rfl, h⟩
        refine ⟨_, rfl, ?_⟩
        refine xG.eqf (f' := (234, [(0, .ref 5), (1, .ref (1048576 + x1))], [.int (nI r78)])) rfl ?_
        obtain ⟨c79, h⟩ := h
        refine xG.ifc (t := 241) (A := r78 = 0) rfl rfl (xe_c (xt_N c79) (show (0 : Int32).toInt = 0 from by decide) (by dsimp only; omega)) (fun k80 => ?_) (fun k80 => ?_)
        · replace h := h.1 k80
          refine xG.seg 1 (f' := (242, [(0, .ref 5), (1, .ref (1048576 + x1))], [.int (nI 0)])) (x1 := C77) (fun _ => rfl) ?_
          exact xG.fin (fun _ => rfl) (⟨_, rfl, h⟩)
        · replace h := h.2 k80
          refine xG.seg 2 (f' := (242, [(0, .ref 5), (1, .ref (1048576 + x1))], [.int (nI 1)])) (x1 := C77) (fun _ => rfl) ?_
          exact xG.fin (fun _ => rfl) (⟨_, rfl, h⟩)
  replace h := h.2 k67
  by_cases k81 : xwV x1 = 10
  · replace h := h.1 k81
    refine xG.tsw (t := 243) rfl c3 (by rw [k81]; rfl) ?_
    refine xG.seg 1 (f' := (244, [(0, .ref 5), (1, .ref (1048576 + x1))], [.ref 5])) (x1 := C) (fun _ => rfl) ?_
    refine xG.call (d := d + 7) (vs := [.ref 5]) (g := (244, [(0, .ref 5), (1, .ref (1048576 + x1))], [])) (fun _ => rfl) rfl (p_C_lastOpen L xs (d + 7) C _ h) ?_
    clear h
    rintro _ C82 ⟨r83, rfl, h⟩
    refine ⟨_, rfl, ?_⟩
    refine xG.eqf (f' := (247, [(0, .ref 5), (1, .ref (1048576 + x1))], [va_rf r83])) rfl ?_
    refine xG.seg 1 (f' := (250, [(0, .ref 5), (1, .ref (1048576 + x1))], [.ref (1048576 + 40), va_rf r83])) (x1 := C82) (fun _ => rfl) ?_
    obtain ⟨c84, h⟩ := h
    refine xG.acmp (t := 264) (A := ¬ (r83 = some (1048576 + 40))) rfl rfl (xcst_O c84) (xcst_W (e := 40) (by decide)) (xe_an Iff.rfl) (fun k85 => ?_) (fun k85 => ?_)
    · replace h := h.2 k85
      refine xG.seg 1 (f' := (265, [(0, .ref 5), (1, .ref (1048576 + x1))], [.int (nI 0)])) (x1 := C82) (fun _ => rfl) ?_
      exact xG.fin (fun _ => rfl) (⟨_, rfl, h⟩)
    · replace h := h.1 (Classical.not_not.mp k85)
      refine xG.seg 1 (f' := (254, [(0, .ref 5), (1, .ref (1048576 + x1))], [.ref 5])) (x1 := C82) (fun _ => rfl) ?_
      refine xG.call (d := d + 7) (vs := [.ref 5]) (g := (254, [(0, .ref 5), (1, .ref (1048576 + x1))], [])) (fun _ => rfl) rfl (p_C_endWhile L xs d C82 _ h) ?_
      clear h
      rintro _ C86 ⟨r87, rfl, h⟩
      refine ⟨_, rfl, ?_⟩
      refine xG.eqf (f' := (257, [(0, .ref 5), (1, .ref (1048576 + x1))], [.int (nI r87)])) rfl ?_
      obtain ⟨c88, h⟩ := h
      refine xG.ifc (t := 264) (A := r87 = 0) rfl rfl (xe_c (xt_N c88) (show (0 : Int32).toInt = 0 from by decide) (by dsimp only; omega)) (fun k89 => ?_) (fun k89 => ?_)
      · replace h := h.1 k89
        refine xG.seg 1 (f' := (265, [(0, .ref 5), (1, .ref (1048576 + x1))], [.int (nI 0)])) (x1 := C86) (fun _ => rfl) ?_
        exact xG.fin (fun _ => rfl) (⟨_, rfl, h⟩)
      · replace h := h.2 k89
        refine xG.seg 2 (f' := (265, [(0, .ref 5), (1, .ref (1048576 + x1))], [.int (nI 1)])) (x1 := C86) (fun _ => rfl) ?_
        exact xG.fin (fun _ => rfl) (⟨_, rfl, h⟩)
  replace h := h.2 k81
  by_cases k90 : xwV x1 = 11
  · replace h := h.1 k90
    refine xG.tsw (t := 266) rfl c3 (by rw [k90]; rfl) ?_
    refine xG.seg 3 (f' := (269, [(0, .ref 5), (1, .ref (1048576 + x1))], [.int (nI 0), .ref (1048576 + x1), .ref 5])) (x1 := C) (fun _ => rfl) ?_
    refine xG.call (d := d + 7) (vs := [.ref 5, .ref (1048576 + x1), .int (nI 0)]) (g := (269, [(0, .ref 5), (1, .ref (1048576 + x1))], [])) (fun _ => rfl) rfl (p_C_add L xs (d + 2) x1 (nI 0) C _ h) ?_
    clear h
    rintro _ C91 ⟨r92, rfl, h⟩
    refine ⟨_, rfl, ?_⟩
    refine xG.eqf (f' := (272, [(0, .ref 5), (1, .ref (1048576 + x1))], [.int (nI r92)])) rfl ?_
    obtain ⟨c93, h⟩ := h
    refine xG.ifc (t := 291) (A := r92 = 0) rfl rfl (xe_c (xt_N c93) (show (0 : Int32).toInt = 0 from by decide) (by dsimp only; omega)) (fun k94 => ?_) (fun k94 => ?_)
    · replace h := h.1 k94
      refine xG.seg 1 (f' := (292, [(0, .ref 5), (1, .ref (1048576 + x1))], [.int (nI 0)])) (x1 := C91) (fun _ => rfl) ?_
      exact xG.fin (fun _ => rfl) (⟨_, rfl, h⟩)
    · replace h := h.2 k94
      refine xG.seg 4 (f' := (281, [(0, .ref 5), (1, .ref (1048576 + x1))], [.int (nI (C91.1 6)), .ref (1048576 + x1), .ref 5])) (x1 := C91) (fun _ => rfl) ?_
      refine xG.call (d := d + 7) (vs := [.ref 5, .ref (1048576 + x1), .int (nI (C91.1 6))]) (g := (281, [(0, .ref 5), (1, .ref (1048576 + x1))], [])) (fun _ => rfl) rfl (p_C_open L xs (d + 7) x1 (C91.1 6) C91 _ h) ?_
      clear h
      rintro _ C95 ⟨r96, rfl, h⟩
      refine ⟨_, rfl, ?_⟩
      refine xG.eqf (f' := (284, [(0, .ref 5), (1, .ref (1048576 + x1))], [.int (nI r96)])) rfl ?_
      obtain ⟨c97, h⟩ := h
      refine xG.ifc (t := 291) (A := r96 = 0) rfl rfl (xe_c (xt_N c97) (show (0 : Int32).toInt = 0 from by decide) (by dsimp only; omega)) (fun k98 => ?_) (fun k98 => ?_)
      · replace h := h.1 k98
        refine xG.seg 1 (f' := (292, [(0, .ref 5), (1, .ref (1048576 + x1))], [.int (nI 0)])) (x1 := C95) (fun _ => rfl) ?_
        exact xG.fin (fun _ => rfl) (⟨_, rfl, h⟩)
      · replace h := h.2 k98
        refine xG.seg 2 (f' := (292, [(0, .ref 5), (1, .ref (1048576 + x1))], [.int (nI 1)])) (x1 := C95) (fun _ => rfl) ?_
        exact xG.fin (fun _ => rfl) (⟨_, rfl, h⟩)
  replace h := h.2 k90
  by_cases k99 : xwV x1 = 12
  · replace h := h.1 k99
    refine xG.tsw (t := 293) rfl c3 (by rw [k99]; rfl) ?_
    refine xG.seg 1 (f' := (294, [(0, .ref 5), (1, .ref (1048576 + x1))], [.ref 5])) (x1 := C) (fun _ => rfl) ?_
    refine xG.call (d := d + 7) (vs := [.ref 5]) (g := (294, [(0, .ref 5), (1, .ref (1048576 + x1))], [])) (fun _ => rfl) rfl (p_C_lastOpen L xs (d + 7) C _ h) ?_
    clear h
    rintro _ C100 ⟨r101, rfl, h⟩
    refine ⟨_, rfl, ?_⟩
    refine xG.eqf (f' := (297, [(0, .ref 5), (1, .ref (1048576 + x1))], [va_rf r101])) rfl ?_
    refine xG.seg 1 (f' := (300, [(0, .ref 5), (1, .ref (1048576 + x1))], [.ref (1048576 + 41), va_rf r101])) (x1 := C100) (fun _ => rfl) ?_
    obtain ⟨c102, h⟩ := h
    refine xG.acmp (t := 315) (A := ¬ (r101 = some (1048576 + 41))) rfl rfl (xcst_O c102) (xcst_W (e := 41) (by decide)) (xe_an Iff.rfl) (fun k103 => ?_) (fun k103 => ?_)
    · replace h := h.2 k103
      refine xG.seg 1 (f' := (316, [(0, .ref 5), (1, .ref (1048576 + x1))], [.int (nI 0)])) (x1 := C100) (fun _ => rfl) ?_
      exact xG.fin (fun _ => rfl) (⟨_, rfl, h⟩)
    · replace h := h.1 (Classical.not_not.mp k103)
      refine xG.seg 2 (f' := (305, [(0, .ref 5), (1, .ref (1048576 + x1))], [.ref (1048576 + x1), .ref 5])) (x1 := C100) (fun _ => rfl) ?_
      refine xG.call (d := d + 7) (vs := [.ref 5, .ref (1048576 + x1)]) (g := (305, [(0, .ref 5), (1, .ref (1048576 + x1))], [])) (fun _ => rfl) rfl (p_C_goBack L xs (d + 1) x1 C100 _ h) ?_
      clear h
      rintro _ C104 ⟨r105, rfl, h⟩
      refine ⟨_, rfl, ?_⟩
      refine xG.eqf (f' := (308, [(0, .ref 5), (1, .ref (1048576 + x1))], [.int (nI r105)])) rfl ?_
      obtain ⟨c106, h⟩ := h
      refine xG.ifc (t := 315) (A := r105 = 0) rfl rfl (xe_c (xt_N c106) (show (0 : Int32).toInt = 0 from by decide) (by dsimp only; omega)) (fun k107 => ?_) (fun k107 => ?_)
      · replace h := h.1 k107
        refine xG.seg 1 (f' := (316, [(0, .ref 5), (1, .ref (1048576 + x1))], [.int (nI 0)])) (x1 := C104) (fun _ => rfl) ?_
        exact xG.fin (fun _ => rfl) (⟨_, rfl, h⟩)
      · replace h := h.2 k107
        refine xG.seg 2 (f' := (316, [(0, .ref 5), (1, .ref (1048576 + x1))], [.int (nI 1)])) (x1 := C104) (fun _ => rfl) ?_
        exact xG.fin (fun _ => rfl) (⟨_, rfl, h⟩)
  replace h := h.2 k99
  by_cases k108 : xwV x1 = 13
  · replace h := h.1 k108
    refine xG.tsw (t := 317) rfl c3 (by rw [k108]; rfl) ?_
    refine xG.seg 5 (f' := (328, [(0, .ref 5), (1, .ref (1048576 + x1))], [.int (nI (C.1 4)), .ref (1048576 + 49), .ref 5])) (x1 := C) (fun _ => rfl) ?_
    refine xG.call (d := d + 7) (vs := [.ref 5, .ref (1048576 + 49), .int (nI (C.1 4))]) (g := (328, [(0, .ref 5), (1, .ref (1048576 + x1))], [])) (fun _ => rfl) rfl (p_C_add L xs (d + 2) 49 (nI (C.1 4)) C _ h) ?_
    clear h
    rintro _ C109 ⟨r110, rfl, h⟩
    refine ⟨_, rfl, ?_⟩
    refine xG.eqf (f' := (331, [(0, .ref 5), (1, .ref (1048576 + x1))], [.int (nI r110)])) rfl ?_
    obtain ⟨c111, h⟩ := h
    exact xG.zret rfl rfl c111 (⟨_, rfl, h⟩)
  replace h := h.2 k108
  by_cases k112 : xwV x1 = 14
  · replace h := h.1 k112
    refine xG.tsw (t := 332) rfl c3 (by rw [k112]; rfl) ?_
    refine xG.seg 2 (f' := (336, [(0, .ref 5), (1, .ref (1048576 + x1))], [.int (nI (C.1 8))])) (x1 := C) (fun _ => rfl) ?_
    obtain ⟨c113, h⟩ := h
    refine xG.ifc (t := 359) (A := ¬ (C.1 8 = 0)) rfl rfl (xe_c (xt_N c113) (show (0 : Int32).toInt = 0 from by decide) (by dsimp only; omega)) (fun k114 => ?_) (fun k114 => ?_)
    · replace h := h.2 k114
      refine xG.seg 1 (f' := (360, [(0, .ref 5), (1, .ref (1048576 + x1))], [.int (nI 0)])) (x1 := C) (fun _ => rfl) ?_
      exact xG.fin (fun _ => rfl) (⟨_, rfl, h⟩)
    · replace h := h.1 (Classical.not_not.mp k114)
      refine xG.seg 3 (f' := (342, [(0, .ref 5), (1, .ref (1048576 + x1))], [.int (nI 0), .ref (1048576 + x1), .ref 5])) (x1 := C) (fun _ => rfl) ?_
      refine xG.call (d := d + 7) (vs := [.ref 5, .ref (1048576 + x1), .int (nI 0)]) (g := (342, [(0, .ref 5), (1, .ref (1048576 + x1))], [])) (fun _ => rfl) rfl (p_C_add L xs (d + 2) x1 (nI 0) C _ h) ?_
      clear h
      rintro _ C115 ⟨r116, rfl, h⟩
      refine ⟨_, rfl, ?_⟩
      refine xG.eqf (f' := (345, [(0, .ref 5), (1, .ref (1048576 + x1))], [.int (nI r116)])) rfl ?_
      obtain ⟨c117, h⟩ := h
      refine xG.ifc (t := 359) (A := r116 = 0) rfl rfl (xe_c (xt_N c117) (show (0 : Int32).toInt = 0 from by decide) (by dsimp only; omega)) (fun k118 => ?_) (fun k118 => ?_)
      · replace h := h.1 k118
        refine xG.seg 1 (f' := (360, [(0, .ref 5), (1, .ref (1048576 + x1))], [.int (nI 0)])) (x1 := C115) (fun _ => rfl) ?_
        exact xG.fin (fun _ => rfl) (⟨_, rfl, h⟩)
      · replace h := h.2 k118
        refine xG.seg 1 (f' := (349, [(0, .ref 5), (1, .ref (1048576 + x1))], [.ref 5])) (x1 := C115) (fun _ => rfl) ?_
        refine xG.call (d := d + 7) (vs := [.ref 5]) (g := (349, [(0, .ref 5), (1, .ref (1048576 + x1))], [])) (fun _ => rfl) rfl (p_C_finish L xs (d + 1) C115 _ h) ?_
        clear h
        rintro _ C119 ⟨r120, rfl, h⟩
        refine ⟨_, rfl, ?_⟩
        refine xG.eqf (f' := (352, [(0, .ref 5), (1, .ref (1048576 + x1))], [.int (nI r120)])) rfl ?_
        obtain ⟨c121, h⟩ := h
        refine xG.ifc (t := 359) (A := r120 = 0) rfl rfl (xe_c (xt_N c121) (show (0 : Int32).toInt = 0 from by decide) (by dsimp only; omega)) (fun k122 => ?_) (fun k122 => ?_)
        · replace h := h.1 k122
          refine xG.seg 1 (f' := (360, [(0, .ref 5), (1, .ref (1048576 + x1))], [.int (nI 0)])) (x1 := C119) (fun _ => rfl) ?_
          exact xG.fin (fun _ => rfl) (⟨_, rfl, h⟩)
        · replace h := h.2 k122
          refine xG.seg 2 (f' := (360, [(0, .ref 5), (1, .ref (1048576 + x1))], [.int (nI 1)])) (x1 := C119) (fun _ => rfl) ?_
          exact xG.fin (fun _ => rfl) (⟨_, rfl, h⟩)
  replace h := h.2 k112
  refine xG.tsw (t := 361) rfl c3 (xtsw_d [3, 4, 5, 6, 7, 8, 9, 10, 11, 12, 13, 14] rfl (by decide) rfl (by decide) (by simp only [List.mem_cons, List.not_mem_nil, or_false]; omega)) ?_
  refine xG.seg 3 (f' := (364, [(0, .ref 5), (1, .ref (1048576 + x1))], [.int (nI 0), .ref (1048576 + x1), .ref 5])) (x1 := C) (fun _ => rfl) ?_
  refine xG.call (d := d + 7) (vs := [.ref 5, .ref (1048576 + x1), .int (nI 0)]) (g := (364, [(0, .ref 5), (1, .ref (1048576 + x1))], [])) (fun _ => rfl) rfl (p_C_add L xs (d + 2) x1 (nI 0) C _ h) ?_
  clear h
  rintro _ C123 ⟨r124, rfl, h⟩
  refine ⟨_, rfl, ?_⟩
  refine xG.eqf (f' := (367, [(0, .ref 5), (1, .ref (1048576 + x1))], [.int (nI r124)])) rfl ?_
  obtain ⟨c125, h⟩ := h
  exact xG.zret rfl rfl c125 (⟨_, rfl, h⟩)

def w_T_isName (C : xC) (Q : Nat → xC → Prop) : Prop := (C.1 3 < 2147483648 ∧ (C.1 2 < 2147483648 ∧ ((7 + (C.1 2) < C.1 3 → Q 0 C) ∧ (¬ (7 + (C.1 2) < C.1 3) → Q 1 C))))
set_option maxRecDepth 8000 in
set_option maxHeartbeats 4000000 in
theorem p_T_isName (L : Nat) (xs : Nat → Int32) (d : Nat) (C : xC) (Q : Nat → xC → Prop) (h : w_T_isName C Q) : xG xec (xgt L xs) (d) xi_T_isName (0, [(0, .ref 1)], []) C (xPN Q) := by
  unfold w_T_isName at h
  refine xG.seg 6 (f' := (11, [(0, .ref 1)], [.int (nI 7), .int (nI (C.1 3) - nI (C.1 2))])) (x1 := C) (fun _ => rfl) ?_
  obtain ⟨c1, h⟩ := h
  obtain ⟨c2, h⟩ := h
  refine xG.icmp (t := 18) (A := 7 + (C.1 2) < C.1 3) rfl rfl (xe_c (xt_Z c1 c2) (show ((nI 7) : Int32).toInt = 7 from by decide) (by dsimp only; omega)) (fun k3 => ?_) (fun k3 => ?_)
  · replace h := h.1 k3
    refine xG.seg 1 (f' := (19, [(0, .ref 1)], [.int (nI 0)])) (x1 := C) (fun _ => rfl) ?_
    exact xG.fin (fun _ => rfl) (⟨_, rfl, h⟩)
  · replace h := h.2 k3
    refine xG.seg 2 (f' := (19, [(0, .ref 1)], [.int (nI 1)])) (x1 := C) (fun _ => rfl) ?_
    exact xG.fin (fun _ => rfl) (⟨_, rfl, h⟩)

def w_D_isFull (C : xC) (Q : Nat → xC → Prop) : Prop := (C.1 4 < 2147483648 ∧ ((C.1 4 = 40 → Q 1 C) ∧ (¬ (C.1 4 = 40) → Q 0 C)))
set_option maxRecDepth 8000 in
set_option maxHeartbeats 4000000 in
theorem p_D_isFull (L : Nat) (xs : Nat → Int32) (d : Nat) (C : xC) (Q : Nat → xC → Prop) (h : w_D_isFull C Q) : xG xec (xgt L xs) (d) xi_D_isFull (0, [(0, .ref 3)], []) C (xPN Q) := by
  unfold w_D_isFull at h
  refine xG.seg 3 (f' := (6, [(0, .ref 3)], [.int (nI 40), .int (nI (C.1 4))])) (x1 := C) (fun _ => rfl) ?_
  obtain ⟨c1, h⟩ := h
  refine xG.icmp (t := 13) (A := ¬ (C.1 4 = 40)) rfl rfl (xe_c (xt_N c1) (show ((nI 40) : Int32).toInt = 40 from by decide) (by dsimp only; omega)) (fun k2 => ?_) (fun k2 => ?_)
  · replace h := h.2 k2
    refine xG.seg 1 (f' := (14, [(0, .ref 3)], [.int (nI 0)])) (x1 := C) (fun _ => rfl) ?_
    exact xG.fin (fun _ => rfl) (⟨_, rfl, h⟩)
  · replace h := h.1 (Classical.not_not.mp k2)
    refine xG.seg 2 (f' := (14, [(0, .ref 3)], [.int (nI 1)])) (x1 := C) (fun _ => rfl) ?_
    exact xG.fin (fun _ => rfl) (⟨_, rfl, h⟩)

def w_C_begin (x1 : Int64) (C : xC) (Q : xC → Prop) : Prop := Q (cN (cN (cN (cL (cN C 5 1) x1) 6 0) 7 0) 8 0)
set_option maxRecDepth 8000 in
set_option maxHeartbeats 4000000 in
theorem p_C_begin (L : Nat) (xs : Nat → Int32) (d : Nat) (x1 : Int64) (C : xC) (Q : xC → Prop) (h : w_C_begin x1 C Q) : xG xec (xgt L xs) (d) xi_C_begin (0, [(0, .ref 5), (1, .long x1)], []) C (xPV Q) := by
  unfold w_C_begin at h
  refine xG.seg 15 (f' := (25, [(0, .ref 5), (1, .long x1)], [])) (x1 := (cN (cN (cN (cL (cN C 5 1) x1) 6 0) 7 0) 8 0)) (fun _ => rfl) ?_
  exact xG.fin (fun _ => rfl) (⟨rfl, h⟩)

def w_C_defineNumber (x1 : Int64) (x2 : Int32) (C : xC) (Q : Nat → xC → Prop) : Prop := w_C_begin x1 C (fun C1 => w_C_add 37 x2 C1 (fun r3 C2 => (r3 < 2147483648 ∧ ((r3 = 0 → Q 0 C2) ∧ (¬ (r3 = 0) → w_C_finish C2 (fun r7 C6 => (r7 < 2147483648 ∧ ((r7 = 0 → Q 0 C6) ∧ (¬ (r7 = 0) → Q 1 C6)))))))))
set_option maxRecDepth 8000 in
set_option maxHeartbeats 4000000 in
theorem p_C_defineNumber (L : Nat) (xs : Nat → Int32) (d : Nat) (x1 : Int64) (x2 : Int32) (C : xC) (Q : Nat → xC → Prop) (h : w_C_defineNumber x1 x2 C Q) : xG xec (xgt L xs) (d + 7) xi_C_defineNumber (0, [(0, .ref 5), (1, .long x1), (3, .int x2)], []) C (xPN Q) := by
  unfold w_C_defineNumber at h
  refine xG.seg 2 (f' := (2, [(0, .ref 5), (1, .long x1), (3, .int x2)], [.long x1, .ref 5])) (x1 := C) (fun _ => rfl) ?_
  refine xG.call (d := d + 6) (vs := [.ref 5, .long x1]) (g := (2, [(0, .ref 5), (1, .long x1), (3, .int x2)], [])) (fun _ => rfl) rfl (p_C_begin L xs (d + 6) x1 C _ h) ?_
  clear h
  rintro _ C1 ⟨rfl, h⟩
  refine ⟨_, rfl, ?_⟩
  refine xG.eqf (f' := (5, [(0, .ref 5), (1, .long x1), (3, .int x2)], [])) rfl ?_
  refine xG.seg 3 (f' := (10, [(0, .ref 5), (1, .long x1), (3, .int x2)], [.int x2, .ref (1048576 + 37), .ref 5])) (x1 := C1) (fun _ => rfl) ?_
  refine xG.call (d := d + 6) (vs := [.ref 5, .ref (1048576 + 37), .int x2]) (g := (10, [(0, .ref 5), (1, .long x1), (3, .int x2)], [])) (fun _ => rfl) rfl (p_C_add L xs (d + 1) 37 x2 C1 _ h) ?_
  clear h
  rintro _ C2 ⟨r3, rfl, h⟩
  refine ⟨_, rfl, ?_⟩
  refine xG.eqf (f' := (13, [(0, .ref 5), (1, .long x1), (3, .int x2)], [.int (nI r3)])) rfl ?_
  obtain ⟨c4, h⟩ := h
  refine xG.ifc (t := 27) (A := r3 = 0) rfl rfl (xe_c (xt_N c4) (show (0 : Int32).toInt = 0 from by decide) (by dsimp only; omega)) (fun k5 => ?_) (fun k5 => ?_)
  · replace h := h.1 k5
    refine xG.seg 1 (f' := (28, [(0, .ref 5), (1, .long x1), (3, .int x2)], [.int (nI 0)])) (x1 := C2) (fun _ => rfl) ?_
    exact xG.fin (fun _ => rfl) (⟨_, rfl, h⟩)
  · replace h := h.2 k5
    refine xG.seg 1 (f' := (17, [(0, .ref 5), (1, .long x1), (3, .int x2)], [.ref 5])) (x1 := C2) (fun _ => rfl) ?_
    refine xG.call (d := d + 6) (vs := [.ref 5]) (g := (17, [(0, .ref 5), (1, .long x1), (3, .int x2)], [])) (fun _ => rfl) rfl (p_C_finish L xs d C2 _ h) ?_
    clear h
    rintro _ C6 ⟨r7, rfl, h⟩
    refine ⟨_, rfl, ?_⟩
    refine xG.eqf (f' := (20, [(0, .ref 5), (1, .long x1), (3, .int x2)], [.int (nI r7)])) rfl ?_
    obtain ⟨c8, h⟩ := h
    refine xG.ifc (t := 27) (A := r7 = 0) rfl rfl (xe_c (xt_N c8) (show (0 : Int32).toInt = 0 from by decide) (by dsimp only; omega)) (fun k9 => ?_) (fun k9 => ?_)
    · replace h := h.1 k9
      refine xG.seg 1 (f' := (28, [(0, .ref 5), (1, .long x1), (3, .int x2)], [.int (nI 0)])) (x1 := C6) (fun _ => rfl) ?_
      exact xG.fin (fun _ => rfl) (⟨_, rfl, h⟩)
    · replace h := h.2 k9
      refine xG.seg 2 (f' := (28, [(0, .ref 5), (1, .long x1), (3, .int x2)], [.int (nI 1)])) (x1 := C6) (fun _ => rfl) ?_
      exact xG.fin (fun _ => rfl) (⟨_, rfl, h⟩)

def w_F_defineVariable (x1 : Int64) (C : xC) (Q : Nat → xC → Prop) : Prop := (C.1 12 < 2147483648 ∧ ((C.1 12 = 64 → Q 57 C) ∧ (¬ (C.1 12 = 64) → w_C_defineNumber x1 (nI (C.1 12)) C (fun r4 C3 => w_F_fitting r4 (cN C3 12 (C3.1 12 + 1)) (fun r6 C5 => Q r6 C5)))))
set_option maxRecDepth 8000 in
set_option maxHeartbeats 4000000 in
theorem p_F_defineVariable (L : Nat) (xs : Nat → Int32) (d : Nat) (x1 : Int64) (C : xC) (Q : Nat → xC → Prop) (h : w_F_defineVariable x1 C Q) : xG xec (xgt L xs) (d + 8) xi_F_defineVariable (0, [(0, .ref 0), (1, .long x1)], []) C (xPW Q) := by
  unfold w_F_defineVariable at h
  refine xG.seg 4 (f' := (9, [(0, .ref 0), (1, .long x1)], [.int (nI 64), .int (nI (C.1 12))])) (x1 := C) (fun _ => rfl) ?_
  obtain ⟨c1, h⟩ := h
  refine xG.icmp (t := 16) (A := ¬ (C.1 12 = 64)) rfl rfl (xe_c (xt_N c1) (show ((nI 64) : Int32).toInt = 64 from by decide) (by dsimp only; omega)) (fun k2 => ?_) (fun k2 => ?_)
  · replace h := h.2 k2
    refine xG.seg 6 (f' := (28, [(0, .ref 0), (1, .long x1)], [.int (nI (C.1 12)), .long x1, .ref 5])) (x1 := C) (fun _ => rfl) ?_
    refine xG.call (d := d + 7) (vs := [.ref 5, .long x1, .int (nI (C.1 12))]) (g := (28, [(0, .ref 0), (1, .long x1)], [])) (fun _ => rfl) rfl (p_C_defineNumber L xs d x1 (nI (C.1 12)) C _ h) ?_
    clear h
    rintro _ C3 ⟨r4, rfl, h⟩
    refine ⟨_, rfl, ?_⟩
    refine xG.eqf (f' := (31, [(0, .ref 0), (1, .long x1)], [.int (nI r4)])) rfl ?_
    refine xG.seg 7 (f' := (42, [(3, .int (nI r4)), (0, .ref 0), (1, .long x1)], [.int ((nI (C3.1 12)) + (nI 1)), .ref 12])) (x1 := C3) (fun _ => rfl) ?_
    refine xG.conv (xe_add (C3.1 12) 1) ?_
    refine xG.eqf (f' := (42, [(3, .int (nI r4)), (0, .ref 0), (1, .long x1)], [.int (nI (C3.1 12 + 1)), .ref 12])) rfl ?_
    refine xG.seg 2 (f' := (46, [(3, .int (nI r4)), (0, .ref 0), (1, .long x1)], [.int (nI r4)])) (x1 := (cN C3 12 (C3.1 12 + 1))) (fun _ => rfl) ?_
    refine xG.call (d := d + 7) (vs := [.int (nI r4)]) (g := (46, [(3, .int (nI r4)), (0, .ref 0), (1, .long x1)], [])) (fun _ => rfl) rfl (p_F_fitting L xs (d + 7) r4 (cN C3 12 (C3.1 12 + 1)) _ h) ?_
    clear h
    rintro _ C5 ⟨r6, rfl, h⟩
    refine ⟨_, rfl, ?_⟩
    refine xG.eqf (f' := (49, [(3, .int (nI r4)), (0, .ref 0), (1, .long x1)], [.ref (1048576 + r6)])) rfl ?_
    exact xG.fin (fun _ => rfl) (⟨_, rfl, h⟩)
  · replace h := h.1 (Classical.not_not.mp k2)
    refine xG.seg 1 (f' := (15, [(0, .ref 0), (1, .long x1)], [.ref (1048576 + 57)])) (x1 := C) (fun _ => rfl) ?_
    exact xG.fin (fun _ => rfl) (⟨_, rfl, h⟩)

def w_F_defineConstant (x1 : Int64) (C : xC) (Q : Nat → xC → Prop) : Prop := (C.1 9 < 2147483648 ∧ ((C.1 9 = 0 → Q 58 C) ∧ (¬ (C.1 9 = 0) → w_S_pop_0 C (fun r4 C3 => w_C_defineNumber x1 r4 C3 (fun r6 C5 => w_F_fitting r6 C5 (fun r8 C7 => Q r8 C7))))))
set_option maxRecDepth 8000 in
set_option maxHeartbeats 4000000 in
theorem p_F_defineConstant (L : Nat) (xs : Nat → Int32) (d : Nat) (x1 : Int64) (C : xC) (Q : Nat → xC → Prop) (h : w_F_defineConstant x1 C Q) : xG xec (xgt L xs) (d + 8) xi_F_defineConstant (0, [(0, .ref 0), (1, .long x1)], []) C (xPW Q) := by
  unfold w_F_defineConstant at h
  refine xG.seg 4 (f' := (10, [(0, .ref 0), (1, .long x1)], [.int (nI (C.1 9))])) (x1 := C) (fun _ => rfl) ?_
  obtain ⟨c1, h⟩ := h
  refine xG.ifc (t := 17) (A := ¬ (C.1 9 = 0)) rfl rfl (xe_c (xt_N c1) (show (0 : Int32).toInt = 0 from by decide) (by dsimp only; omega)) (fun k2 => ?_) (fun k2 => ?_)
  · replace h := h.2 k2
    refine xG.seg 6 (f' := (29, [(0, .ref 0), (1, .long x1)], [.ref 13, .long x1, .ref 5])) (x1 := C) (fun _ => rfl) ?_
    refine xG.call (d := d + 7) (vs := [.ref 13]) (g := (29, [(0, .ref 0), (1, .long x1)], [.long x1, .ref 5])) (fun _ => rfl) rfl (p_S_pop_0 L xs (d + 7) C _ h) ?_
    clear h
    rintro _ C3 ⟨r4, rfl, h⟩
    refine ⟨_, rfl, ?_⟩
    refine xG.eqf (f' := (32, [(0, .ref 0), (1, .long x1)], [.int r4, .long x1, .ref 5])) rfl ?_
    refine xG.call (d := d + 7) (vs := [.ref 5, .long x1, .int r4]) (g := (32, [(0, .ref 0), (1, .long x1)], [])) (fun _ => rfl) rfl (p_C_defineNumber L xs d x1 r4 C3 _ h) ?_
    clear h
    rintro _ C5 ⟨r6, rfl, h⟩
    refine ⟨_, rfl, ?_⟩
    refine xG.eqf (f' := (35, [(0, .ref 0), (1, .long x1)], [.int (nI r6)])) rfl ?_
    refine xG.call (d := d + 7) (vs := [.int (nI r6)]) (g := (35, [(0, .ref 0), (1, .long x1)], [])) (fun _ => rfl) rfl (p_F_fitting L xs (d + 7) r6 C5 _ h) ?_
    clear h
    rintro _ C7 ⟨r8, rfl, h⟩
    refine ⟨_, rfl, ?_⟩
    refine xG.eqf (f' := (38, [(0, .ref 0), (1, .long x1)], [.ref (1048576 + r8)])) rfl ?_
    exact xG.fin (fun _ => rfl) (⟨_, rfl, h⟩)
  · replace h := h.1 (Classical.not_not.mp k2)
    refine xG.seg 1 (f' := (16, [(0, .ref 0), (1, .long x1)], [.ref (1048576 + 58)])) (x1 := C) (fun _ => rfl) ?_
    exact xG.fin (fun _ => rfl) (⟨_, rfl, h⟩)

def w_F_define (x1 : Nat) (C : xC) (Q : Nat → xC → Prop) : Prop := w_T_nextWord C (fun r2 C1 => (r2 < 2147483648 ∧ ((r2 = 0 → Q 57 C1) ∧ (¬ (r2 = 0) → w_T_isName C1 (fun r6 C5 => (r6 < 2147483648 ∧ ((r6 = 0 → Q 57 C5) ∧ (¬ (r6 = 0) → w_D_isFull C5 (fun r10 C9 => (r10 < 2147483648 ∧ ((r10 = 0 → (x1 < 55 ∧ (x1 < 55 ∧ (xwV x1 < 2147483648 ∧ ((xwV x1 = 1 → w_T_key C9 (fun r18 C17 => w_F_defineVariable r18 C17 (fun r20 C19 => Q r20 C19))) ∧ (¬ xwV x1 = 1 → ((xwV x1 = 2 → w_T_key C9 (fun r23 C22 => w_F_defineConstant r23 C22 (fun r25 C24 => Q r25 C24))) ∧ (¬ xwV x1 = 2 → w_T_key C9 (fun r27 C26 => w_C_begin r27 C26 (fun C28 => Q 55 C28)))))))))) ∧ (¬ (r10 = 0) → Q 57 C9))))))))))))
set_option maxRecDepth 8000 in
set_option maxHeartbeats 4000000 in
theorem p_F_define (L : Nat) (xs : Nat → Int32) (d : Nat) (x1 : Nat) (C : xC) (Q : Nat → xC → Prop) (h : w_F_define x1 C Q) : xG xec (xgt L xs) (d + 9) xi_F_define (0, [(0, .ref 0), (1, .ref (1048576 + x1))], []) C (xPW Q) := by
  unfold w_F_define at h
  refine xG.seg 2 (f' := (4, [(0, .ref 0), (1, .ref (1048576 + x1))], [.ref 1])) (x1 := C) (fun _ => rfl) ?_
  refine xG.call (d := d + 8) (vs := [.ref 1]) (g := (4, [(0, .ref 0), (1, .ref (1048576 + x1))], [])) (fun _ => rfl) rfl (p_T_nextWord L xs (d + 8) C _ h) ?_
  clear h
  rintro _ C1 ⟨r2, rfl, h⟩
  refine ⟨_, rfl, ?_⟩
  refine xG.eqf (f' := (7, [(0, .ref 0), (1, .ref (1048576 + x1))], [.int (nI r2)])) rfl ?_
  obtain ⟨c3, h⟩ := h
  refine xG.ifc (t := 30) (A := r2 = 0) rfl rfl (xe_c (xt_N c3) (show (0 : Int32).toInt = 0 from by decide) (by dsimp only; omega)) (fun k4 => ?_) (fun k4 => ?_)
  · replace h := h.1 k4
    refine xG.seg 1 (f' := (33, [(0, .ref 0), (1, .ref (1048576 + x1))], [.ref (1048576 + 57)])) (x1 := C1) (fun _ => rfl) ?_
    exact xG.fin (fun _ => rfl) (⟨_, rfl, h⟩)
  · replace h := h.2 k4
    refine xG.seg 2 (f' := (14, [(0, .ref 0), (1, .ref (1048576 + x1))], [.ref 1])) (x1 := C1) (fun _ => rfl) ?_
    refine xG.call (d := d + 8) (vs := [.ref 1]) (g := (14, [(0, .ref 0), (1, .ref (1048576 + x1))], [])) (fun _ => rfl) rfl (p_T_isName L xs (d + 8) C1 _ h) ?_
    clear h
    rintro _ C5 ⟨r6, rfl, h⟩
    refine ⟨_, rfl, ?_⟩
    refine xG.eqf (f' := (17, [(0, .ref 0), (1, .ref (1048576 + x1))], [.int (nI r6)])) rfl ?_
    obtain ⟨c7, h⟩ := h
    refine xG.ifc (t := 30) (A := r6 = 0) rfl rfl (xe_c (xt_N c7) (show (0 : Int32).toInt = 0 from by decide) (by dsimp only; omega)) (fun k8 => ?_) (fun k8 => ?_)
    · replace h := h.1 k8
      refine xG.seg 1 (f' := (33, [(0, .ref 0), (1, .ref (1048576 + x1))], [.ref (1048576 + 57)])) (x1 := C5) (fun _ => rfl) ?_
      exact xG.fin (fun _ => rfl) (⟨_, rfl, h⟩)
    · replace h := h.2 k8
      refine xG.seg 2 (f' := (24, [(0, .ref 0), (1, .ref (1048576 + x1))], [.ref 3])) (x1 := C5) (fun _ => rfl) ?_
      refine xG.call (d := d + 8) (vs := [.ref 3]) (g := (24, [(0, .ref 0), (1, .ref (1048576 + x1))], [])) (fun _ => rfl) rfl (p_D_isFull L xs (d + 8) C5 _ h) ?_
      clear h
      rintro _ C9 ⟨r10, rfl, h⟩
      refine ⟨_, rfl, ?_⟩
      refine xG.eqf (f' := (27, [(0, .ref 0), (1, .ref (1048576 + x1))], [.int (nI r10)])) rfl ?_
      obtain ⟨c11, h⟩ := h
      refine xG.ifc (t := 34) (A := r10 = 0) rfl rfl (xe_c (xt_N c11) (show (0 : Int32).toInt = 0 from by decide) (by dsimp only; omega)) (fun k12 => ?_) (fun k12 => ?_)
      · replace h := h.1 k12
        refine xG.seg 2 (f' := (38, [(0, .ref 0), (1, .ref (1048576 + x1))], [.ref (1048576 + x1), .ref 1048638])) (x1 := C9) (fun _ => rfl) ?_
        obtain ⟨c13, h⟩ := h
        refine xG.prim (fun _ => rfl) (fun _ => rfl) (show mx_prim xi_F_define (38, [(0, .ref 0), (1, .ref (1048576 + x1))], [.ref (1048576 + x1), .ref 1048638]) = some _ from mx_pr_e (I := xi_F_define) (ix := 964) (k := 1) (g := xp_g 2) (pc := 38) (lv := [(0, .ref 0), (1, .ref (1048576 + x1))]) (st := [.ref (1048576 + x1), .ref 1048638]) rfl (Nat.le_of_ble_eq_true rfl) (Nat.le_of_ble_eq_true rfl) (xpg_2 c13)) (by omega) ?_
        refine xG.eqf (f' := (41, [(0, .ref 0), (1, .ref (1048576 + x1))], [.int (nI x1), .ref 1048638])) rfl ?_
        obtain ⟨c14, h⟩ := h
        refine xG.cald rfl (Or.inl ⟨rfl, rfl⟩) (by decide) rfl (by decide) c14 ?_
        refine xG.eqf (f' := (42, [(0, .ref 0), (1, .ref (1048576 + x1))], [.int (xw_sw.getD x1 0)])) rfl ?_
        refine xG.conv (xwV_e c14) ?_
        obtain ⟨c15, h⟩ := h
        by_cases k16 : xwV x1 = 1
        · replace h := h.1 k16
          refine xG.lsw (t := 68) rfl c15 rfl (by rw [k16]; rfl) ?_
          refine xG.seg 3 (f' := (73, [(0, .ref 0), (1, .ref (1048576 + x1))], [.ref 1, .ref 0])) (x1 := C9) (fun _ => rfl) ?_
          refine xG.call (d := d + 8) (vs := [.ref 1]) (g := (73, [(0, .ref 0), (1, .ref (1048576 + x1))], [.ref 0])) (fun _ => rfl) rfl (p_T_key L xs (d + 8) C9 _ h) ?_
          clear h
          rintro _ C17 ⟨r18, rfl, h⟩
          refine ⟨_, rfl, ?_⟩
          refine xG.eqf (f' := (76, [(0, .ref 0), (1, .ref (1048576 + x1))], [.long r18, .ref 0])) rfl ?_
          refine xG.call (d := d + 8) (vs := [.ref 0, .long r18]) (g := (76, [(0, .ref 0), (1, .ref (1048576 + x1))], [])) (fun _ => rfl) rfl (p_F_defineVariable L xs d r18 C17 _ h) ?_
          clear h
          rintro _ C19 ⟨r20, rfl, h⟩
          refine ⟨_, rfl, ?_⟩
          refine xG.eqf (f' := (79, [(0, .ref 0), (1, .ref (1048576 + x1))], [.ref (1048576 + r20)])) rfl ?_
          exact xG.fin (fun _ => rfl) (⟨_, rfl, h⟩)
        replace h := h.2 k16
        by_cases k21 : xwV x1 = 2
        · replace h := h.1 k21
          refine xG.lsw (t := 80) rfl c15 rfl (by rw [k21]; rfl) ?_
          refine xG.seg 3 (f' := (85, [(0, .ref 0), (1, .ref (1048576 + x1))], [.ref 1, .ref 0])) (x1 := C9) (fun _ => rfl) ?_
          refine xG.call (d := d + 8) (vs := [.ref 1]) (g := (85, [(0, .ref 0), (1, .ref (1048576 + x1))], [.ref 0])) (fun _ => rfl) rfl (p_T_key L xs (d + 8) C9 _ h) ?_
          clear h
          rintro _ C22 ⟨r23, rfl, h⟩
          refine ⟨_, rfl, ?_⟩
          refine xG.eqf (f' := (88, [(0, .ref 0), (1, .ref (1048576 + x1))], [.long r23, .ref 0])) rfl ?_
          refine xG.call (d := d + 8) (vs := [.ref 0, .long r23]) (g := (88, [(0, .ref 0), (1, .ref (1048576 + x1))], [])) (fun _ => rfl) rfl (p_F_defineConstant L xs d r23 C22 _ h) ?_
          clear h
          rintro _ C24 ⟨r25, rfl, h⟩
          refine ⟨_, rfl, ?_⟩
          refine xG.eqf (f' := (91, [(0, .ref 0), (1, .ref (1048576 + x1))], [.ref (1048576 + r25)])) rfl ?_
          exact xG.fin (fun _ => rfl) (⟨_, rfl, h⟩)
        replace h := h.2 k21
        refine xG.lsw (t := 92) rfl c15 rfl (by rw [xlsw_d (by intro q hq; simp only [List.mem_cons, List.not_mem_nil, or_false] at hq; rcases hq with hq | hq <;> subst hq <;> dsimp only <;> omega)]; rfl) ?_
        refine xG.seg 4 (f' := (100, [(0, .ref 0), (1, .ref (1048576 + x1))], [.ref 1, .ref 5])) (x1 := C9) (fun _ => rfl) ?_
        refine xG.call (d := d + 8) (vs := [.ref 1]) (g := (100, [(0, .ref 0), (1, .ref (1048576 + x1))], [.ref 5])) (fun _ => rfl) rfl (p_T_key L xs (d + 8) C9 _ h) ?_
        clear h
        rintro _ C26 ⟨r27, rfl, h⟩
        refine ⟨_, rfl, ?_⟩
        refine xG.eqf (f' := (103, [(0, .ref 0), (1, .ref (1048576 + x1))], [.long r27, .ref 5])) rfl ?_
        refine xG.call (d := d + 8) (vs := [.ref 5, .long r27]) (g := (103, [(0, .ref 0), (1, .ref (1048576 + x1))], [])) (fun _ => rfl) rfl (p_C_begin L xs (d + 8) r27 C26 _ h) ?_
        clear h
        rintro _ C28 ⟨rfl, h⟩
        refine ⟨_, rfl, ?_⟩
        refine xG.eqf (f' := (106, [(0, .ref 0), (1, .ref (1048576 + x1))], [])) rfl ?_
        refine xG.seg 1 (f' := (109, [(0, .ref 0), (1, .ref (1048576 + x1))], [.ref (1048576 + 55)])) (x1 := C28) (fun _ => rfl) ?_
        exact xG.fin (fun _ => rfl) (⟨_, rfl, h⟩)
      · replace h := h.2 k12
        refine xG.seg 1 (f' := (33, [(0, .ref 0), (1, .ref (1048576 + x1))], [.ref (1048576 + 57)])) (x1 := C9) (fun _ => rfl) ?_
        exact xG.fin (fun _ => rfl) (⟨_, rfl, h⟩)

def w_F_interpretWord (C : xC) (Q : Nat → xC → Prop) : Prop := w_T_key C (fun r2 C1 => w_D_find r2 C1 (fun r4 C3 => (r4 < 2147483648 ∧ ((r4 + 1 = 1 → w_W_withKey r2 C3 (fun r8 C7 => ((r8 = none → w_T_isNumber C7 (fun r11 C10 => (r11 < 2147483648 ∧ ((r11 = 0 → Q 56 C10) ∧ (¬ (r11 = 0) → w_T_number C10 (fun r15 C14 => w_F_compileOrDo 37 r15 C14 (fun r17 C16 => Q r17 C16))))))) ∧ (¬ r8 = none → ∃ a18 : Nat, r8 = some (1048576 + a18) ∧ (a18 < 55 ∧ (xwK a18 < 2147483648 ∧ ((xwK a18 = 6 → (C7.1 5 < 2147483648 ∧ ((C7.1 5 = 0 → w_F_fitting 0 C7 (fun r25 C24 => Q r25 C24)) ∧ (¬ (C7.1 5 = 0) → w_C_act a18 C7 (fun r27 C26 => (r27 < 2147483648 ∧ ((r27 = 0 → w_F_fitting 0 C26 (fun r31 C30 => Q r31 C30)) ∧ (¬ (r27 = 0) → w_F_fitting 1 C26 (fun r33 C32 => Q r33 C32))))))))) ∧ (¬ xwK a18 = 6 → ((xwK a18 = 7 → (C7.1 5 < 2147483648 ∧ ((C7.1 5 = 0 → w_F_fitting 0 C7 (fun r38 C37 => Q r38 C37)) ∧ (¬ (C7.1 5 = 0) → w_C_act a18 C7 (fun r40 C39 => (r40 < 2147483648 ∧ ((r40 = 0 → w_F_fitting 0 C39 (fun r44 C43 => Q r44 C43)) ∧ (¬ (r40 = 0) → w_F_fitting 1 C39 (fun r46 C45 => Q r46 C45))))))))) ∧ (¬ xwK a18 = 7 → ((xwK a18 = 8 → (C7.1 5 < 2147483648 ∧ ((C7.1 5 = 0 → w_F_fitting 0 C7 (fun r51 C50 => Q r51 C50)) ∧ (¬ (C7.1 5 = 0) → w_C_act a18 C7 (fun r53 C52 => (r53 < 2147483648 ∧ ((r53 = 0 → w_F_fitting 0 C52 (fun r57 C56 => Q r57 C56)) ∧ (¬ (r53 = 0) → w_F_fitting 1 C52 (fun r59 C58 => Q r59 C58))))))))) ∧ (¬ xwK a18 = 8 → ((xwK a18 = 9 → (C7.1 5 < 2147483648 ∧ ((C7.1 5 = 0 → w_F_define a18 C7 (fun r64 C63 => Q r64 C63)) ∧ (¬ (C7.1 5 = 0) → Q 57 C7)))) ∧ (¬ xwK a18 = 9 → w_F_compileOrDo a18 (nI 0) C7 (fun r66 C65 => Q r66 C65))))))))))))))) ∧ (¬ (r4 + 1 = 1) → w_F_compileOrDo 49 (nI r4 - nI 1) C3 (fun r68 C67 => Q r68 C67))))))
set_option maxRecDepth 8000 in
set_option maxHeartbeats 4000000 in
theorem p_F_interpretWord (L : Nat) (xs : Nat → Int32) (d : Nat) (C : xC) (Q : Nat → xC → Prop) (h : w_F_interpretWord C Q) : xG xec (xgt L xs) (d + 10) xi_F_interpretWord (0, [(0, .ref 0)], []) C (xPW Q) := by
  unfold w_F_interpretWord at h
  refine xG.seg 2 (f' := (4, [(0, .ref 0)], [.ref 1])) (x1 := C) (fun _ => rfl) ?_
  refine xG.call (d := d + 9) (vs := [.ref 1]) (g := (4, [(0, .ref 0)], [])) (fun _ => rfl) rfl (p_T_key L xs (d + 9) C _ h) ?_
  clear h
  rintro _ C1 ⟨r2, rfl, h⟩
  refine ⟨_, rfl, ?_⟩
  refine xG.eqf (f' := (7, [(0, .ref 0)], [.long r2])) rfl ?_
  refine xG.seg 4 (f' := (13, [(1, .long r2), (0, .ref 0)], [.long r2, .ref 3])) (x1 := C1) (fun _ => rfl) ?_
  refine xG.call (d := d + 9) (vs := [.ref 3, .long r2]) (g := (13, [(1, .long r2), (0, .ref 0)], [])) (fun _ => rfl) rfl (p_D_find L xs (d + 9) r2 C1 _ h) ?_
  clear h
  rintro _ C3 ⟨r4, rfl, h⟩
  refine ⟨_, rfl, ?_⟩
  refine xG.eqf (f' := (16, [(1, .long r2), (0, .ref 0)], [.int (nI r4 - nI 1)])) rfl ?_
  refine xG.seg 3 (f' := (19, [(3, .int (nI r4 - nI 1)), (1, .long r2), (0, .ref 0)], [.int (-1), .int (nI r4 - nI 1)])) (x1 := C3) (fun _ => rfl) ?_
  obtain ⟨c5, h⟩ := h
  refine xG.icmp (t := 31) (A := r4 + 1 = 1) rfl rfl (xe_c (xt_Z c5 (by decide)) (show ((-1) : Int32).toInt = -1 from by decide) (by dsimp only; omega)) (fun k6 => ?_) (fun k6 => ?_)
  · replace h := h.1 k6
    refine xG.seg 1 (f' := (32, [(3, .int (nI r4 - nI 1)), (1, .long r2), (0, .ref 0)], [.long r2])) (x1 := C3) (fun _ => rfl) ?_
    refine xG.call (d := d + 9) (vs := [.long r2]) (g := (32, [(3, .int (nI r4 - nI 1)), (1, .long r2), (0, .ref 0)], [])) (fun _ => rfl) rfl (p_W_withKey L xs (d + 9) r2 C3 _ h) ?_
    clear h
    rintro _ C7 ⟨r8, rfl, h⟩
    refine ⟨_, rfl, ?_⟩
    refine xG.eqf (f' := (35, [(3, .int (nI r4 - nI 1)), (1, .long r2), (0, .ref 0)], [va_rf r8])) rfl ?_
    by_cases k9 : r8 = none
    · replace h := h.1 k9
      refine xG.eqf (f' := (35, [(3, .int (nI r4 - nI 1)), (1, .long r2), (0, .ref 0)], [.null])) (by rw [k9]; rfl) ?_
      refine xG.seg 5 (f' := (46, [(4, .null), (3, .int (nI r4 - nI 1)), (1, .long r2), (0, .ref 0)], [.ref 1])) (x1 := C7) (fun _ => rfl) ?_
      refine xG.call (d := d + 9) (vs := [.ref 1]) (g := (46, [(4, .null), (3, .int (nI r4 - nI 1)), (1, .long r2), (0, .ref 0)], [])) (fun _ => rfl) rfl (p_T_isNumber L xs (d + 8) C7 _ h) ?_
      clear h
      rintro _ C10 ⟨r11, rfl, h⟩
      refine ⟨_, rfl, ?_⟩
      refine xG.eqf (f' := (49, [(4, .null), (3, .int (nI r4 - nI 1)), (1, .long r2), (0, .ref 0)], [.int (nI r11)])) rfl ?_
      obtain ⟨c12, h⟩ := h
      refine xG.ifc (t := 69) (A := r11 = 0) rfl rfl (xe_c (xt_N c12) (show (0 : Int32).toInt = 0 from by decide) (by dsimp only; omega)) (fun k13 => ?_) (fun k13 => ?_)
      · replace h := h.1 k13
        refine xG.seg 1 (f' := (72, [(4, .null), (3, .int (nI r4 - nI 1)), (1, .long r2), (0, .ref 0)], [.ref (1048576 + 56)])) (x1 := C10) (fun _ => rfl) ?_
        exact xG.fin (fun _ => rfl) (⟨_, rfl, h⟩)
      · replace h := h.2 k13
        refine xG.seg 4 (f' := (60, [(4, .null), (3, .int (nI r4 - nI 1)), (1, .long r2), (0, .ref 0)], [.ref 1, .ref (1048576 + 37), .ref 0])) (x1 := C10) (fun _ => rfl) ?_
        refine xG.call (d := d + 9) (vs := [.ref 1]) (g := (60, [(4, .null), (3, .int (nI r4 - nI 1)), (1, .long r2), (0, .ref 0)], [.ref (1048576 + 37), .ref 0])) (fun _ => rfl) rfl (p_T_number L xs (d + 8) C10 _ h) ?_
        clear h
        rintro _ C14 ⟨r15, rfl, h⟩
        refine ⟨_, rfl, ?_⟩
        refine xG.eqf (f' := (63, [(4, .null), (3, .int (nI r4 - nI 1)), (1, .long r2), (0, .ref 0)], [.int r15, .ref (1048576 + 37), .ref 0])) rfl ?_
        refine xG.call (d := d + 9) (vs := [.ref 0, .ref (1048576 + 37), .int r15]) (g := (63, [(4, .null), (3, .int (nI r4 - nI 1)), (1, .long r2), (0, .ref 0)], [])) (fun _ => rfl) rfl (p_F_compileOrDo L xs d 37 r15 C14 _ h) ?_
        clear h
        rintro _ C16 ⟨r17, rfl, h⟩
        refine ⟨_, rfl, ?_⟩
        refine xG.eqf (f' := (66, [(4, .null), (3, .int (nI r4 - nI 1)), (1, .long r2), (0, .ref 0)], [.ref (1048576 + r17)])) rfl ?_
        refine xG.seg 1 (f' := (72, [(4, .null), (3, .int (nI r4 - nI 1)), (1, .long r2), (0, .ref 0)], [.ref (1048576 + r17)])) (x1 := C16) (fun _ => rfl) ?_
        exact xG.fin (fun _ => rfl) (⟨_, rfl, h⟩)
    · replace h := h.2 k9
      obtain ⟨a18, k9a, h⟩ := h
      refine xG.eqf (f' := (35, [(3, .int (nI r4 - nI 1)), (1, .long r2), (0, .ref 0)], [.ref (1048576 + a18)])) (by rw [k9a]; rfl) ?_
      refine xG.seg 4 (f' := (75, [(4, .ref (1048576 + a18)), (3, .int (nI r4 - nI 1)), (1, .long r2), (0, .ref 0)], [.ref (1048576 + a18)])) (x1 := C7) (fun _ => rfl) ?_
      obtain ⟨c19, h⟩ := h
      refine xG.getc rfl (by omega) (xgc_1 (l := xg_F) (ix := 207) rfl c19) ?_
      refine xG.eqf (f' := (78, [(4, .ref (1048576 + a18)), (3, .int (nI r4 - nI 1)), (1, .long r2), (0, .ref 0)], [.int (nI (xwK a18))])) rfl ?_
      obtain ⟨c20, h⟩ := h
      by_cases k21 : xwK a18 = 6
      · replace h := h.1 k21
        refine xG.tsw (t := 131) rfl c20 (by rw [k21]; rfl) ?_
        refine xG.seg 3 (f' := (138, [(4, .ref (1048576 + a18)), (3, .int (nI r4 - nI 1)), (1, .long r2), (0, .ref 0)], [.int (nI (C7.1 5))])) (x1 := C7) (fun _ => rfl) ?_
        obtain ⟨c22, h⟩ := h
        refine xG.ifc (t := 157) (A := C7.1 5 = 0) rfl rfl (xe_c (xt_N c22) (show (0 : Int32).toInt = 0 from by decide) (by dsimp only; omega)) (fun k23 => ?_) (fun k23 => ?_)
        · replace h := h.1 k23
          refine xG.seg 1 (f' := (158, [(4, .ref (1048576 + a18)), (3, .int (nI r4 - nI 1)), (1, .long r2), (0, .ref 0)], [.int (nI 0)])) (x1 := C7) (fun _ => rfl) ?_
          refine xG.call (d := d + 9) (vs := [.int (nI 0)]) (g := (158, [(4, .ref (1048576 + a18)), (3, .int (nI r4 - nI 1)), (1, .long r2), (0, .ref 0)], [])) (fun _ => rfl) rfl (p_F_fitting L xs (d + 9) 0 C7 _ h) ?_
          clear h
          rintro _ C24 ⟨r25, rfl, h⟩
          refine ⟨_, rfl, ?_⟩
          refine xG.eqf (f' := (161, [(4, .ref (1048576 + a18)), (3, .int (nI r4 - nI 1)), (1, .long r2), (0, .ref 0)], [.ref (1048576 + r25)])) rfl ?_
          exact xG.fin (fun _ => rfl) (⟨_, rfl, h⟩)
        · replace h := h.2 k23
          refine xG.seg 3 (f' := (147, [(4, .ref (1048576 + a18)), (3, .int (nI r4 - nI 1)), (1, .long r2), (0, .ref 0)], [.ref (1048576 + a18), .ref 5])) (x1 := C7) (fun _ => rfl) ?_
          refine xG.call (d := d + 9) (vs := [.ref 5, .ref (1048576 + a18)]) (g := (147, [(4, .ref (1048576 + a18)), (3, .int (nI r4 - nI 1)), (1, .long r2), (0, .ref 0)], [])) (fun _ => rfl) rfl (p_C_act L xs (d + 1) a18 C7 _ h) ?_
          clear h
          rintro _ C26 ⟨r27, rfl, h⟩
          refine ⟨_, rfl, ?_⟩
          refine xG.eqf (f' := (150, [(4, .ref (1048576 + a18)), (3, .int (nI r4 - nI 1)), (1, .long r2), (0, .ref 0)], [.int (nI r27)])) rfl ?_
          obtain ⟨c28, h⟩ := h
          refine xG.ifc (t := 157) (A := r27 = 0) rfl rfl (xe_c (xt_N c28) (show (0 : Int32).toInt = 0 from by decide) (by dsimp only; omega)) (fun k29 => ?_) (fun k29 => ?_)
          · replace h := h.1 k29
            refine xG.seg 1 (f' := (158, [(4, .ref (1048576 + a18)), (3, .int (nI r4 - nI 1)), (1, .long r2), (0, .ref 0)], [.int (nI 0)])) (x1 := C26) (fun _ => rfl) ?_
            refine xG.call (d := d + 9) (vs := [.int (nI 0)]) (g := (158, [(4, .ref (1048576 + a18)), (3, .int (nI r4 - nI 1)), (1, .long r2), (0, .ref 0)], [])) (fun _ => rfl) rfl (p_F_fitting L xs (d + 9) 0 C26 _ h) ?_
            clear h
            rintro _ C30 ⟨r31, rfl, h⟩
            refine ⟨_, rfl, ?_⟩
            refine xG.eqf (f' := (161, [(4, .ref (1048576 + a18)), (3, .int (nI r4 - nI 1)), (1, .long r2), (0, .ref 0)], [.ref (1048576 + r31)])) rfl ?_
            exact xG.fin (fun _ => rfl) (⟨_, rfl, h⟩)
          · replace h := h.2 k29
            refine xG.seg 2 (f' := (158, [(4, .ref (1048576 + a18)), (3, .int (nI r4 - nI 1)), (1, .long r2), (0, .ref 0)], [.int (nI 1)])) (x1 := C26) (fun _ => rfl) ?_
            refine xG.call (d := d + 9) (vs := [.int (nI 1)]) (g := (158, [(4, .ref (1048576 + a18)), (3, .int (nI r4 - nI 1)), (1, .long r2), (0, .ref 0)], [])) (fun _ => rfl) rfl (p_F_fitting L xs (d + 9) 1 C26 _ h) ?_
            clear h
            rintro _ C32 ⟨r33, rfl, h⟩
            refine ⟨_, rfl, ?_⟩
            refine xG.eqf (f' := (161, [(4, .ref (1048576 + a18)), (3, .int (nI r4 - nI 1)), (1, .long r2), (0, .ref 0)], [.ref (1048576 + r33)])) rfl ?_
            exact xG.fin (fun _ => rfl) (⟨_, rfl, h⟩)
      replace h := h.2 k21
      by_cases k34 : xwK a18 = 7
      · replace h := h.1 k34
        refine xG.tsw (t := 131) rfl c20 (by rw [k34]; rfl) ?_
        refine xG.seg 3 (f' := (138, [(4, .ref (1048576 + a18)), (3, .int (nI r4 - nI 1)), (1, .long r2), (0, .ref 0)], [.int (nI (C7.1 5))])) (x1 := C7) (fun _ => rfl) ?_
        obtain ⟨c35, h⟩ := h
        refine xG.ifc (t := 157) (A := C7.1 5 = 0) rfl rfl (xe_c (xt_N c35) (show (0 : Int32).toInt = 0 from by decide) (by dsimp only; omega)) (fun k36 => ?_) (fun k36 => ?_)
        · replace h := h.1 k36
          refine xG.seg 1 (f' := (158, [(4, .ref (1048576 + a18)), (3, .int (nI r4 - nI 1)), (1, .long r2), (0, .ref 0)], [.int (nI 0)])) (x1 := C7) (fun _ => rfl) ?_
          refine xG.call (d := d + 9) (vs := [.int (nI 0)]) (g := (158, [(4, .ref (1048576 + a18)), (3, .int (nI r4 - nI 1)), (1, .long r2), (0, .ref 0)], [])) (fun _ => rfl) rfl (p_F_fitting L xs (d + 9) 0 C7 _ h) ?_
          clear h
          rintro _ C37 ⟨r38, rfl, h⟩
          refine ⟨_, rfl, ?_⟩
          refine xG.eqf (f' := (161, [(4, .ref (1048576 + a18)), (3, .int (nI r4 - nI 1)), (1, .long r2), (0, .ref 0)], [.ref (1048576 + r38)])) rfl ?_
          exact xG.fin (fun _ => rfl) (⟨_, rfl, h⟩)
        · replace h := h.2 k36
          refine xG.seg 3 (f' := (147, [(4, .ref (1048576 + a18)), (3, .int (nI r4 - nI 1)), (1, .long r2), (0, .ref 0)], [.ref (1048576 + a18), .ref 5])) (x1 := C7) (fun _ => rfl) ?_
          refine xG.call (d := d + 9) (vs := [.ref 5, .ref (1048576 + a18)]) (g := (147, [(4, .ref (1048576 + a18)), (3, .int (nI r4 - nI 1)), (1, .long r2), (0, .ref 0)], [])) (fun _ => rfl) rfl (p_C_act L xs (d + 1) a18 C7 _ h) ?_
          clear h
          rintro _ C39 ⟨r40, rfl, h⟩
          refine ⟨_, rfl, ?_⟩
          refine xG.eqf (f' := (150, [(4, .ref (1048576 + a18)), (3, .int (nI r4 - nI 1)), (1, .long r2), (0, .ref 0)], [.int (nI r40)])) rfl ?_
          obtain ⟨c41, h⟩ := h
          refine xG.ifc (t := 157) (A := r40 = 0) rfl rfl (xe_c (xt_N c41) (show (0 : Int32).toInt = 0 from by decide) (by dsimp only; omega)) (fun k42 => ?_) (fun k42 => ?_)
          · replace h := h.1 k42
            refine xG.seg 1 (f' := (158, [(4, .ref (1048576 + a18)), (3, .int (nI r4 - nI 1)), (1, .long r2), (0, .ref 0)], [.int (nI 0)])) (x1 := C39) (fun _ => rfl) ?_
            refine xG.call (d := d + 9) (vs := [.int (nI 0)]) (g := (158, [(4, .ref (1048576 + a18)), (3, .int (nI r4 - nI 1)), (1, .long r2), (0, .ref 0)], [])) (fun _ => rfl) rfl (p_F_fitting L xs (d + 9) 0 C39 _ h) ?_
            clear h
            rintro _ C43 ⟨r44, rfl, h⟩
            refine ⟨_, rfl, ?_⟩
            refine xG.eqf (f' := (161, [(4, .ref (1048576 + a18)), (3, .int (nI r4 - nI 1)), (1, .long r2), (0, .ref 0)], [.ref (1048576 + r44)])) rfl ?_
            exact xG.fin (fun _ => rfl) (⟨_, rfl, h⟩)
          · replace h := h.2 k42
            refine xG.seg 2 (f' := (158, [(4, .ref (1048576 + a18)), (3, .int (nI r4 - nI 1)), (1, .long r2), (0, .ref 0)], [.int (nI 1)])) (x1 := C39) (fun _ => rfl) ?_
            refine xG.call (d := d + 9) (vs := [.int (nI 1)]) (g := (158, [(4, .ref (1048576 + a18)), (3, .int (nI r4 - nI 1)), (1, .long r2), (0, .ref 0)], [])) (fun _ => rfl) rfl (p_F_fitting L xs (d + 9) 1 C39 _ h) ?_
            clear h
            rintro _ C45 ⟨r46, rfl, h⟩
            refine ⟨_, rfl, ?_⟩
            refine xG.eqf (f' := (161, [(4, .ref (1048576 + a18)), (3, .int (nI r4 - nI 1)), (1, .long r2), (0, .ref 0)], [.ref (1048576 + r46)])) rfl ?_
            exact xG.fin (fun _ => rfl) (⟨_, rfl, h⟩)
      replace h := h.2 k34
      by_cases k47 : xwK a18 = 8
      · replace h := h.1 k47
        refine xG.tsw (t := 131) rfl c20 (by rw [k47]; rfl) ?_
        refine xG.seg 3 (f' := (138, [(4, .ref (1048576 + a18)), (3, .int (nI r4 - nI 1)), (1, .long r2), (0, .ref 0)], [.int (nI (C7.1 5))])) (x1 := C7) (fun _ => rfl) ?_
        obtain ⟨c48, h⟩ := h
        refine xG.ifc (t := 157) (A := C7.1 5 = 0) rfl rfl (xe_c (xt_N c48) (show (0 : Int32).toInt = 0 from by decide) (by dsimp only; omega)) (fun k49 => ?_) (fun k49 => ?_)
        · replace h := h.1 k49
          refine xG.seg 1 (f' := (158, [(4, .ref (1048576 + a18)), (3, .int (nI r4 - nI 1)), (1, .long r2), (0, .ref 0)], [.int (nI 0)])) (x1 := C7) (fun _ => rfl) ?_
          refine xG.call (d := d + 9) (vs := [.int (nI 0)]) (g := (158, [(4, .ref (1048576 + a18)), (3, .int (nI r4 - nI 1)), (1, .long r2), (0, .ref 0)], [])) (fun _ => rfl) rfl (p_F_fitting L xs (d + 9) 0 C7 _ h) ?_
          clear h
          rintro _ C50 ⟨r51, rfl, h⟩
          refine ⟨_, rfl, ?_⟩
          refine xG.eqf (f' := (161, [(4, .ref (1048576 + a18)), (3, .int (nI r4 - nI 1)), (1, .long r2), (0, .ref 0)], [.ref (1048576 + r51)])) rfl ?_
          exact xG.fin (fun _ => rfl) (⟨_, rfl, h⟩)
        · replace h := h.2 k49
          refine xG.seg 3 (f' := (147, [(4, .ref (1048576 + a18)), (3, .int (nI r4 - nI 1)), (1, .long r2), (0, .ref 0)], [.ref (1048576 + a18), .ref 5])) (x1 := C7) (fun _ => rfl) ?_
          refine xG.call (d := d + 9) (vs := [.ref 5, .ref (1048576 + a18)]) (g := (147, [(4, .ref (1048576 + a18)), (3, .int (nI r4 - nI 1)), (1, .long r2), (0, .ref 0)], [])) (fun _ => rfl) rfl (p_C_act L xs (d + 1) a18 C7 _ h) ?_
          clear h
          rintro _ C52 ⟨r53, rfl, h⟩
          refine ⟨_, rfl, ?_⟩
          refine xG.eqf (f' := (150, [(4, .ref (1048576 + a18)), (3, .int (nI r4 - nI 1)), (1, .long r2), (0, .ref 0)], [.int (nI r53)])) rfl ?_
          obtain ⟨c54, h⟩ := h
          refine xG.ifc (t := 157) (A := r53 = 0) rfl rfl (xe_c (xt_N c54) (show (0 : Int32).toInt = 0 from by decide) (by dsimp only; omega)) (fun k55 => ?_) (fun k55 => ?_)
          · replace h := h.1 k55
            refine xG.seg 1 (f' := (158, [(4, .ref (1048576 + a18)), (3, .int (nI r4 - nI 1)), (1, .long r2), (0, .ref 0)], [.int (nI 0)])) (x1 := C52) (fun _ => rfl) ?_
            refine xG.call (d := d + 9) (vs := [.int (nI 0)]) (g := (158, [(4, .ref (1048576 + a18)), (3, .int (nI r4 - nI 1)), (1, .long r2), (0, .ref 0)], [])) (fun _ => rfl) rfl (p_F_fitting L xs (d + 9) 0 C52 _ h) ?_
            clear h
            rintro _ C56 ⟨r57, rfl, h⟩
            refine ⟨_, rfl, ?_⟩
            refine xG.eqf (f' := (161, [(4, .ref (1048576 + a18)), (3, .int (nI r4 - nI 1)), (1, .long r2), (0, .ref 0)], [.ref (1048576 + r57)])) rfl ?_
            exact xG.fin (fun _ => rfl) (⟨_, rfl, h⟩)
          · replace h := h.2 k55
            refine xG.seg 2 (f' := (158, [(4, .ref (1048576 + a18)), (3, .int (nI r4 - nI 1)), (1, .long r2), (0, .ref 0)], [.int (nI 1)])) (x1 := C52) (fun _ => rfl) ?_
            refine xG.call (d := d + 9) (vs := [.int (nI 1)]) (g := (158, [(4, .ref (1048576 + a18)), (3, .int (nI r4 - nI 1)), (1, .long r2), (0, .ref 0)], [])) (fun _ => rfl) rfl (p_F_fitting L xs (d + 9) 1 C52 _ h) ?_
            clear h
            rintro _ C58 ⟨r59, rfl, h⟩
            refine ⟨_, rfl, ?_⟩
            refine xG.eqf (f' := (161, [(4, .ref (1048576 + a18)), (3, .int (nI r4 - nI 1)), (1, .long r2), (0, .ref 0)], [.ref (1048576 + r59)])) rfl ?_
            exact xG.fin (fun _ => rfl) (⟨_, rfl, h⟩)
      replace h := h.2 k47
      by_cases k60 : xwK a18 = 9
      · replace h := h.1 k60
        refine xG.tsw (t := 108) rfl c20 (by rw [k60]; rfl) ?_
        refine xG.seg 3 (f' := (115, [(4, .ref (1048576 + a18)), (3, .int (nI r4 - nI 1)), (1, .long r2), (0, .ref 0)], [.int (nI (C7.1 5))])) (x1 := C7) (fun _ => rfl) ?_
        obtain ⟨c61, h⟩ := h
        refine xG.ifc (t := 124) (A := C7.1 5 = 0) rfl rfl (xe_c (xt_N c61) (show (0 : Int32).toInt = 0 from by decide) (by dsimp only; omega)) (fun k62 => ?_) (fun k62 => ?_)
        · replace h := h.1 k62
          refine xG.seg 2 (f' := (127, [(4, .ref (1048576 + a18)), (3, .int (nI r4 - nI 1)), (1, .long r2), (0, .ref 0)], [.ref (1048576 + a18), .ref 0])) (x1 := C7) (fun _ => rfl) ?_
          refine xG.call (d := d + 9) (vs := [.ref 0, .ref (1048576 + a18)]) (g := (127, [(4, .ref (1048576 + a18)), (3, .int (nI r4 - nI 1)), (1, .long r2), (0, .ref 0)], [])) (fun _ => rfl) rfl (p_F_define L xs d a18 C7 _ h) ?_
          clear h
          rintro _ C63 ⟨r64, rfl, h⟩
          refine ⟨_, rfl, ?_⟩
          refine xG.eqf (f' := (130, [(4, .ref (1048576 + a18)), (3, .int (nI r4 - nI 1)), (1, .long r2), (0, .ref 0)], [.ref (1048576 + r64)])) rfl ?_
          exact xG.fin (fun _ => rfl) (⟨_, rfl, h⟩)
        · replace h := h.2 k62
          refine xG.seg 2 (f' := (130, [(4, .ref (1048576 + a18)), (3, .int (nI r4 - nI 1)), (1, .long r2), (0, .ref 0)], [.ref (1048576 + 57)])) (x1 := C7) (fun _ => rfl) ?_
          exact xG.fin (fun _ => rfl) (⟨_, rfl, h⟩)
      replace h := h.2 k60
      refine xG.tsw (t := 162) rfl c20 (xtsw_d [6, 7, 8, 9] rfl (by decide) rfl (by decide) (by simp only [List.mem_cons, List.not_mem_nil, or_false]; omega)) ?_
      refine xG.seg 3 (f' := (166, [(4, .ref (1048576 + a18)), (3, .int (nI r4 - nI 1)), (1, .long r2), (0, .ref 0)], [.int (nI 0), .ref (1048576 + a18), .ref 0])) (x1 := C7) (fun _ => rfl) ?_
      refine xG.call (d := d + 9) (vs := [.ref 0, .ref (1048576 + a18), .int (nI 0)]) (g := (166, [(4, .ref (1048576 + a18)), (3, .int (nI r4 - nI 1)), (1, .long r2), (0, .ref 0)], [])) (fun _ => rfl) rfl (p_F_compileOrDo L xs d a18 (nI 0) C7 _ h) ?_
      clear h
      rintro _ C65 ⟨r66, rfl, h⟩
      refine ⟨_, rfl, ?_⟩
      refine xG.eqf (f' := (169, [(4, .ref (1048576 + a18)), (3, .int (nI r4 - nI 1)), (1, .long r2), (0, .ref 0)], [.ref (1048576 + r66)])) rfl ?_
      exact xG.fin (fun _ => rfl) (⟨_, rfl, h⟩)
  · replace h := h.2 k6
    refine xG.seg 3 (f' := (27, [(3, .int (nI r4 - nI 1)), (1, .long r2), (0, .ref 0)], [.int (nI r4 - nI 1), .ref (1048576 + 49), .ref 0])) (x1 := C3) (fun _ => rfl) ?_
    refine xG.call (d := d + 9) (vs := [.ref 0, .ref (1048576 + 49), .int (nI r4 - nI 1)]) (g := (27, [(3, .int (nI r4 - nI 1)), (1, .long r2), (0, .ref 0)], [])) (fun _ => rfl) rfl (p_F_compileOrDo L xs d 49 (nI r4 - nI 1) C3 _ h) ?_
    clear h
    rintro _ C67 ⟨r68, rfl, h⟩
    refine ⟨_, rfl, ?_⟩
    refine xG.eqf (f' := (30, [(3, .int (nI r4 - nI 1)), (1, .long r2), (0, .ref 0)], [.ref (1048576 + r68)])) rfl ?_
    exact xG.fin (fun _ => rfl) (⟨_, rfl, h⟩)

def w_F_interpret_48 (K : Nat → Nat → xC → Prop) (l1 : Nat) (C : xC) (Q : Nat → xC → Prop) (E : Nat → xC → Prop) : Prop := w_T_clear C (fun C3001 => (l1 < 61 ∧ ((l1 = 55 → Q (C.1 1) C3001) ∧ (¬ (l1 = 55) → w_M_emptyStacks C3001 (fun C3004 => w_C_drop C3004 (fun C3005 => w_F_raise l1 C3005 (fun C3006 => Q (C.1 1) C3006) E))))))
set_option maxRecDepth 8000 in
set_option maxHeartbeats 4000000 in
theorem p_F_interpret_48 (L : Nat) (xs : Nat → Int32) (d : Nat) (Q : Nat → xC → Prop) (E : Nat → xC → Prop) (K : Nat → Nat → xC → Prop) (hK : ∀ (l1 : Nat) (l2 : Nat) (C : xC), K l1 l2 C → xG xec (xgt L xs) (d + 11) xi_F_interpret (13, [(0, .ref 0), (1, .ref (1048576 + l1)), (2, .int (nI l2))], []) C (xEN Q E)) (l1 : Nat) (C : xC) (h : w_F_interpret_48 K l1 C Q E) : xG xec (xgt L xs) (d + 11) xi_F_interpret (48, [(0, .ref 0), (1, .ref (1048576 + l1))], []) C (xEN Q E) := by
  unfold w_F_interpret_48 at h
  refine xG.seg 6 (f' := (60, [(2, .int (nI (C.1 1))), (0, .ref 0), (1, .ref (1048576 + l1))], [.ref 1])) (x1 := C) (fun _ => rfl) ?_
  refine xG.call (d := d + 10) (vs := [.ref 1]) (g := (60, [(2, .int (nI (C.1 1))), (0, .ref 0), (1, .ref (1048576 + l1))], [])) (fun _ => rfl) rfl (p_T_clear L xs (d + 10) C _ h) ?_
  clear h
  rintro _ C3001 ⟨rfl, h⟩
  refine ⟨_, rfl, ?_⟩
  refine xG.eqf (f' := (63, [(2, .int (nI (C.1 1))), (0, .ref 0), (1, .ref (1048576 + l1))], [])) rfl ?_
  refine xG.seg 2 (f' := (67, [(2, .int (nI (C.1 1))), (0, .ref 0), (1, .ref (1048576 + l1))], [.ref (1048576 + 55), .ref (1048576 + l1)])) (x1 := C3001) (fun _ => rfl) ?_
  obtain ⟨c3002, h⟩ := h
  refine xG.acmp (t := 88) (A := l1 = 55) rfl rfl (xcst_W (e := l1) c3002) (xcst_W (e := 55) (by decide)) (xe_ae xaW) (fun k3003 => ?_) (fun k3003 => ?_)
  · replace h := h.1 k3003
    refine xG.seg 1 (f' := (89, [(2, .int (nI (C.1 1))), (0, .ref 0), (1, .ref (1048576 + l1))], [.int (nI (C.1 1))])) (x1 := C3001) (fun _ => rfl) ?_
    exact xG.fin (fun _ => rfl) (Or.inl ⟨_, rfl, h⟩)
  · replace h := h.2 k3003
    refine xG.seg 2 (f' := (74, [(2, .int (nI (C.1 1))), (0, .ref 0), (1, .ref (1048576 + l1))], [.ref 12])) (x1 := C3001) (fun _ => rfl) ?_
    refine xG.call (d := d + 10) (vs := [.ref 12]) (g := (74, [(2, .int (nI (C.1 1))), (0, .ref 0), (1, .ref (1048576 + l1))], [])) (fun _ => rfl) rfl (p_M_emptyStacks L xs (d + 10) C3001 _ h) ?_
    clear h
    rintro _ C3004 ⟨rfl, h⟩
    refine ⟨_, rfl, ?_⟩
    refine xG.eqf (f' := (77, [(2, .int (nI (C.1 1))), (0, .ref 0), (1, .ref (1048576 + l1))], [])) rfl ?_
    refine xG.seg 2 (f' := (81, [(2, .int (nI (C.1 1))), (0, .ref 0), (1, .ref (1048576 + l1))], [.ref 5])) (x1 := C3004) (fun _ => rfl) ?_
    refine xG.call (d := d + 10) (vs := [.ref 5]) (g := (81, [(2, .int (nI (C.1 1))), (0, .ref 0), (1, .ref (1048576 + l1))], [])) (fun _ => rfl) rfl (p_C_drop L xs (d + 10) C3004 _ h) ?_
    clear h
    rintro _ C3005 ⟨rfl, h⟩
    refine ⟨_, rfl, ?_⟩
    refine xG.eqf (f' := (84, [(2, .int (nI (C.1 1))), (0, .ref 0), (1, .ref (1048576 + l1))], [])) rfl ?_
    refine xG.seg 1 (f' := (85, [(2, .int (nI (C.1 1))), (0, .ref 0), (1, .ref (1048576 + l1))], [.ref (1048576 + l1)])) (x1 := C3005) (fun _ => rfl) ?_
    refine xG.callT (d := d + 10) (vs := [.ref (1048576 + l1)]) (g := (85, [(2, .int (nI (C.1 1))), (0, .ref 0), (1, .ref (1048576 + l1))], [])) (fun _ => rfl) rfl rfl (p_F_raise L xs (d + 4) l1 C3005 _ E h) ?_
    clear h
    rintro o C3006 hq
    rcases hq with ⟨rfl, h⟩ | ⟨ci, rfl, hq1, h⟩
    · refine Or.inl ⟨_, rfl, ?_⟩
      refine xG.eqf (f' := (88, [(2, .int (nI (C.1 1))), (0, .ref 0), (1, .ref (1048576 + l1))], [])) rfl ?_
      refine xG.seg 1 (f' := (89, [(2, .int (nI (C.1 1))), (0, .ref 0), (1, .ref (1048576 + l1))], [.int (nI (C.1 1))])) (x1 := C3006) (fun _ => rfl) ?_
      exact xG.fin (fun _ => rfl) (Or.inl ⟨_, rfl, h⟩)
    · exact Or.inr ⟨_, rfl, Or.inr ⟨ci, rfl, hq1, h⟩⟩

def wi_F_interpret_13 (K : Nat → Nat → xC → Prop) (l1 : Nat) (l2 : Nat) (C : xC) (Q : Nat → xC → Prop) (E : Nat → xC → Prop) : Prop := (l2 < 2147483648 ∧ ((160 ≤ l2 → w_F_interpret_48 K l1 C Q E) ∧ (¬ (160 ≤ l2) → (l1 < 61 ∧ ((l1 = 55 → w_T_nextWord C (fun r2006 C2005 => (r2006 < 2147483648 ∧ ((r2006 = 0 → w_F_interpret_48 K l1 C2005 Q E) ∧ (¬ (r2006 = 0) → w_F_interpretWord C2005 (fun r2010 C2009 => K r2010 (l2 + 1) C2009)))))) ∧ (¬ (l1 = 55) → w_F_interpret_48 K l1 C Q E))))))
set_option maxRecDepth 8000 in
set_option maxHeartbeats 4000000 in
theorem pi_F_interpret_13 (L : Nat) (xs : Nat → Int32) (d : Nat) (Q : Nat → xC → Prop) (E : Nat → xC → Prop) (K : Nat → Nat → xC → Prop) (hK : ∀ (l1 : Nat) (l2 : Nat) (C : xC), K l1 l2 C → xG xec (xgt L xs) (d + 11) xi_F_interpret (13, [(0, .ref 0), (1, .ref (1048576 + l1)), (2, .int (nI l2))], []) C (xEN Q E)) (l1 : Nat) (l2 : Nat) (C : xC) (h : wi_F_interpret_13 K l1 l2 C Q E) : xG xec (xgt L xs) (d + 11) xi_F_interpret (13, [(0, .ref 0), (1, .ref (1048576 + l1)), (2, .int (nI l2))], []) C (xEN Q E) := by
  unfold wi_F_interpret_13 at h
  refine xG.seg 2 (f' := (17, [(0, .ref 0), (1, .ref (1048576 + l1)), (2, .int (nI l2))], [.int (nI 160), .int (nI l2)])) (x1 := C) (fun _ => rfl) ?_
  obtain ⟨c2001, h⟩ := h
  refine xG.icmp (t := 48) (A := 160 ≤ l2) rfl rfl (xe_c (xt_N c2001) (show ((nI 160) : Int32).toInt = 160 from by decide) (by dsimp only; omega)) (fun k2002 => ?_) (fun k2002 => ?_)
  · replace h := h.1 k2002
    refine xG.lv (lv := [(0, .ref 0), (1, .ref (1048576 + l1))]) (lv' := [(0, .ref 0), (1, .ref (1048576 + l1)), (2, .int (nI l2))]) rfl rfl rfl ?_
    exact p_F_interpret_48 L xs d Q E K hK l1 C h
  · replace h := h.2 k2002
    refine xG.seg 2 (f' := (24, [(0, .ref 0), (1, .ref (1048576 + l1)), (2, .int (nI l2))], [.ref (1048576 + 55), .ref (1048576 + l1)])) (x1 := C) (fun _ => rfl) ?_
    obtain ⟨c2003, h⟩ := h
    refine xG.acmp (t := 48) (A := ¬ (l1 = 55)) rfl rfl (xcst_W (e := l1) c2003) (xcst_W (e := 55) (by decide)) (xe_an (not_congr xaW)) (fun k2004 => ?_) (fun k2004 => ?_)
    · replace h := h.2 k2004
      refine xG.lv (lv := [(0, .ref 0), (1, .ref (1048576 + l1))]) (lv' := [(0, .ref 0), (1, .ref (1048576 + l1)), (2, .int (nI l2))]) rfl rfl rfl ?_
      exact p_F_interpret_48 L xs d Q E K hK l1 C h
    · replace h := h.1 (Classical.not_not.mp k2004)
      refine xG.seg 2 (f' := (31, [(0, .ref 0), (1, .ref (1048576 + l1)), (2, .int (nI l2))], [.ref 1])) (x1 := C) (fun _ => rfl) ?_
      refine xG.call (d := d + 10) (vs := [.ref 1]) (g := (31, [(0, .ref 0), (1, .ref (1048576 + l1)), (2, .int (nI l2))], [])) (fun _ => rfl) rfl (p_T_nextWord L xs (d + 10) C _ h) ?_
      clear h
      rintro _ C2005 ⟨r2006, rfl, h⟩
      refine ⟨_, rfl, ?_⟩
      refine xG.eqf (f' := (34, [(0, .ref 0), (1, .ref (1048576 + l1)), (2, .int (nI l2))], [.int (nI r2006)])) rfl ?_
      obtain ⟨c2007, h⟩ := h
      refine xG.ifc (t := 48) (A := r2006 = 0) rfl rfl (xe_c (xt_N c2007) (show (0 : Int32).toInt = 0 from by decide) (by dsimp only; omega)) (fun k2008 => ?_) (fun k2008 => ?_)
      · replace h := h.1 k2008
        refine xG.lv (lv := [(0, .ref 0), (1, .ref (1048576 + l1))]) (lv' := [(0, .ref 0), (1, .ref (1048576 + l1)), (2, .int (nI l2))]) rfl rfl rfl ?_
        exact p_F_interpret_48 L xs d Q E K hK l1 C2005 h
      · replace h := h.2 k2008
        refine xG.seg 1 (f' := (38, [(0, .ref 0), (1, .ref (1048576 + l1)), (2, .int (nI l2))], [.ref 0])) (x1 := C2005) (fun _ => rfl) ?_
        refine xG.call (d := d + 10) (vs := [.ref 0]) (g := (38, [(0, .ref 0), (1, .ref (1048576 + l1)), (2, .int (nI l2))], [])) (fun _ => rfl) rfl (p_F_interpretWord L xs d C2005 _ h) ?_
        clear h
        rintro _ C2009 ⟨r2010, rfl, h⟩
        refine ⟨_, rfl, ?_⟩
        refine xG.eqf (f' := (41, [(0, .ref 0), (1, .ref (1048576 + l1)), (2, .int (nI l2))], [.ref (1048576 + r2010)])) rfl ?_
        refine xG.seg 1 (f' := (42, [(1, .ref (1048576 + r2010)), (0, .ref 0), (2, .int (nI l2))], [])) (x1 := C2009) (fun _ => rfl) ?_
        refine xG.iinc (v := (nI l2)) (w := (nI (l2 + 1))) rfl rfl (by decide) (xe_add l2 1) ?_
        refine xG.eqf (f' := (45, [(2, .int (nI (l2 + 1))), (1, .ref (1048576 + r2010)), (0, .ref 0)], [])) rfl ?_
        refine xG.seg 1 (f' := (13, [(2, .int (nI (l2 + 1))), (1, .ref (1048576 + r2010)), (0, .ref 0)], [])) (x1 := C2009) (fun _ => rfl) ?_
        refine xG.lv (lv := [(0, .ref 0), (1, .ref (1048576 + r2010)), (2, .int (nI (l2 + 1)))]) (lv' := [(2, .int (nI (l2 + 1))), (1, .ref (1048576 + r2010)), (0, .ref 0)]) rfl rfl rfl ?_
        exact hK r2010 (l2 + 1) C2009 h

def w_F_interpret_13 : Nat → Nat → Nat → (xC) → (Nat → xC → Prop) → (Nat → xC → Prop) → Prop
  | 0, _, _, _, _, _ => False
  | n + 1, l1, l2, C, Q, E => wi_F_interpret_13 (fun l1 l2 C => w_F_interpret_13 n l1 l2 C Q E) l1 l2 C Q E
theorem p_F_interpret_13 (L : Nat) (xs : Nat → Int32) (d : Nat) (Q : Nat → xC → Prop) (E : Nat → xC → Prop) : ∀ (n : Nat) (l1 : Nat) (l2 : Nat) (C : xC), w_F_interpret_13 n l1 l2 C Q E → xG xec (xgt L xs) (d + 11) xi_F_interpret (13, [(0, .ref 0), (1, .ref (1048576 + l1)), (2, .int (nI l2))], []) C (xEN Q E)
  | 0, _, _, _, h => by cases h
  | n + 1, l1, l2, C, h => pi_F_interpret_13 L xs d Q E (fun l1 l2 C => w_F_interpret_13 n l1 l2 C Q E) (fun l1 l2 C h => p_F_interpret_13 L xs d Q E n l1 l2 C h) l1 l2 C h

def w_F_interpret (C : xC) (Q : Nat → xC → Prop) (E : Nat → xC → Prop) : Prop := w_M_beginText C (fun C1 => ∃ fu2 : Nat, w_F_interpret_13 fu2 55 0 C1 Q E)
set_option maxRecDepth 8000 in
set_option maxHeartbeats 4000000 in
theorem p_F_interpret (L : Nat) (xs : Nat → Int32) (d : Nat) (C : xC) (Q : Nat → xC → Prop) (E : Nat → xC → Prop) (h : w_F_interpret C Q E) : xG xec (xgt L xs) (d + 11) xi_F_interpret (0, [(0, .ref 0)], []) C (xEN Q E) := by
  unfold w_F_interpret at h
  refine xG.seg 2 (f' := (4, [(0, .ref 0)], [.ref 12])) (x1 := C) (fun _ => rfl) ?_
  refine xG.call (d := d + 10) (vs := [.ref 12]) (g := (4, [(0, .ref 0)], [])) (fun _ => rfl) rfl (p_M_beginText L xs (d + 10) C _ h) ?_
  clear h
  rintro _ C1 ⟨rfl, h⟩
  refine ⟨_, rfl, ?_⟩
  refine xG.eqf (f' := (7, [(0, .ref 0)], [])) rfl ?_
  refine xG.seg 4 (f' := (13, [(2, .int (nI 0)), (1, .ref (1048576 + 55)), (0, .ref 0)], [])) (x1 := C1) (fun _ => rfl) ?_
  refine xG.lv (lv := [(0, .ref 0), (1, .ref (1048576 + 55)), (2, .int (nI 0))]) (lv' := [(2, .int (nI 0)), (1, .ref (1048576 + 55)), (0, .ref 0)]) rfl rfl rfl ?_
  obtain ⟨fu2, h⟩ := h
  exact p_F_interpret_13 L xs d Q E fu2 55 0 C1 h

def w_S_fromTop_0 (x1 : Nat) (C : xC) (Q : Int32 → xC → Prop) : Prop := (1 + x1 ≤ C.1 9 ∧ (C.1 9 - (1 + x1) < 24 ∧ Q (C.2.2.1 1 (C.1 9 - (1 + x1))) C))
set_option maxRecDepth 8000 in
set_option maxHeartbeats 4000000 in
theorem p_S_fromTop_0 (L : Nat) (xs : Nat → Int32) (d : Nat) (x1 : Nat) (C : xC) (Q : Int32 → xC → Prop) (h : w_S_fromTop_0 x1 C Q) : xG xec (xgt L xs) (d) xi_S_fromTop (0, [(0, .ref 13), (1, .int (nI x1))], []) C (xPI Q) := by
  unfold w_S_fromTop_0 at h
  refine xG.seg 8 (f' := (12, [(0, .ref 13), (1, .int (nI x1))], [.int ((nI (C.1 9) - nI 1) - (nI x1)), .ref 14])) (x1 := C) (fun _ => rfl) ?_
  refine xG.conv (xe_zsn _ _ _) ?_
  refine xG.eqf (f' := (12, [(0, .ref 13), (1, .int (nI x1))], [.int (nI (C.1 9) - nI (1 + x1)), .ref 14])) rfl ?_
  obtain ⟨c1, h⟩ := h
  refine xG.conv (xe_cut c1) ?_
  obtain ⟨c2, h⟩ := h
  refine xG.iald rfl (Or.inl ⟨rfl, rfl⟩) (by decide) (fun _ => rfl) (by decide) c2 ?_
  refine xG.eqf (f' := (13, [(0, .ref 13), (1, .int (nI x1))], [.int (C.2.2.1 1 (C.1 9 - (1 + x1)))])) rfl ?_
  exact xG.fin (fun _ => rfl) (⟨(C.2.2.1 1 (C.1 9 - (1 + x1))), rfl, h⟩)

def w_F_top (x1 : Int32) (C : xC) (Q : Int32 → xC → Prop) (E : Nat → xC → Prop) : Prop := ((x1 < 0 → (C.2.2.2.2.2.2.1.length + 38 < 1048576 ∧ E 13 (cX C 13))) ∧ (∀ e1 : Nat, x1 = nI e1 → e1 < 2147483648 → (e1 < 2147483648 ∧ ((e1 < 0 → (C.2.2.2.2.2.2.1.length + 38 < 1048576 ∧ E 13 (cX C 13))) ∧ (¬ (e1 < 0) → (e1 < 2147483648 ∧ (C.1 9 < 2147483648 ∧ ((e1 < C.1 9 → w_S_fromTop_0 e1 C (fun r11 C10 => Q r11 C10)) ∧ (¬ (e1 < C.1 9) → (C.2.2.2.2.2.2.1.length + 38 < 1048576 ∧ E 13 (cX C 13)))))))))))
set_option maxRecDepth 8000 in
set_option maxHeartbeats 4000000 in
theorem p_F_top (L : Nat) (xs : Nat → Int32) (d : Nat) (x1 : Int32) (C : xC) (Q : Int32 → xC → Prop) (E : Nat → xC → Prop) (h : w_F_top x1 C Q E) : xG xec (xgt L xs) (d + 6) xi_F_top (0, [(0, .ref 0), (1, .int x1)], []) C (xEI Q E) := by
  unfold w_F_top at h
  refine xG.seg 1 (f' := (1, [(0, .ref 0), (1, .int x1)], [.int x1])) (x1 := C) (fun _ => rfl) ?_
  rcases xe_sgn x1 with k2 | ⟨e1, k2, k2r⟩
  · replace h := h.1 k2
    refine xG.ifc (t := 18) rfl rfl (xe_ng0 k2) (fun _ => ?_) (fun q => absurd (by decide) q)
    obtain ⟨c3, h⟩ := h
    exact xG.exc (x1 := (cX C 13)) (a := C.2.2.2.2.2.2.1.length + 38) (fun _ => rfl) (fun _ => xexc_e rfl rfl rfl rfl rfl rfl rfl c3 (Nat.le_of_ble_eq_true rfl) rfl) (fun _ => rfl) (fun _ => rfl) (by omega) (Or.inr (xEX_mk c3 h))
  · replace h := h.2 e1 k2 k2r
    subst k2
    obtain ⟨c4, h⟩ := h
    refine xG.ifc (t := 18) (A := e1 < 0) rfl rfl (xe_c (xt_N c4) (show (0 : Int32).toInt = 0 from by decide) (by dsimp only; omega)) (fun k5 => ?_) (fun k5 => ?_)
    · replace h := h.1 k5
      obtain ⟨c6, h⟩ := h
      exact xG.exc (x1 := (cX C 13)) (a := C.2.2.2.2.2.2.1.length + 38) (fun _ => rfl) (fun _ => xexc_e rfl rfl rfl rfl rfl rfl rfl c6 (Nat.le_of_ble_eq_true rfl) rfl) (fun _ => rfl) (fun _ => rfl) (by omega) (Or.inr (xEX_mk c6 h))
    · replace h := h.2 k5
      refine xG.seg 5 (f' := (15, [(0, .ref 0), (1, .int (nI e1))], [.int (nI (C.1 9)), .int (nI e1)])) (x1 := C) (fun _ => rfl) ?_
      obtain ⟨c7, h⟩ := h
      obtain ⟨c8, h⟩ := h
      refine xG.icmp (t := 26) (A := e1 < C.1 9) rfl rfl (xe_c (xt_N c7) (xt_N c8) (by dsimp only; omega)) (fun k9 => ?_) (fun k9 => ?_)
      · replace h := h.1 k9
        refine xG.seg 4 (f' := (34, [(0, .ref 0), (1, .int (nI e1))], [.int (nI e1), .ref 13])) (x1 := C) (fun _ => rfl) ?_
        refine xG.call (d := d + 5) (vs := [.ref 13, .int (nI e1)]) (g := (34, [(0, .ref 0), (1, .int (nI e1))], [])) (fun _ => rfl) rfl (p_S_fromTop_0 L xs (d + 5) e1 C _ h) ?_
        clear h
        rintro _ C10 ⟨r11, rfl, h⟩
        refine ⟨_, rfl, ?_⟩
        refine xG.eqf (f' := (37, [(0, .ref 0), (1, .int (nI e1))], [.int r11])) rfl ?_
        exact xG.fin (fun _ => rfl) (Or.inl ⟨r11, rfl, h⟩)
      · replace h := h.2 k9
        obtain ⟨c12, h⟩ := h
        exact xG.exc (x1 := (cX C 13)) (a := C.2.2.2.2.2.2.1.length + 38) (fun _ => rfl) (fun _ => xexc_e rfl rfl rfl rfl rfl rfl rfl c12 (Nat.le_of_ble_eq_true rfl) rfl) (fun _ => rfl) (fun _ => rfl) (by omega) (Or.inr (xEX_mk c12 h))

def w_F_cell (x1 : Int32) (C : xC) (Q : Int32 → xC → Prop) (E : Nat → xC → Prop) : Prop := w_M_isCell x1 C (fun r2 C1 => (r2 < 2147483648 ∧ ((r2 = 0 → (C1.2.2.2.2.2.2.1.length + 38 < 1048576 ∧ E 13 (cX C1 13))) ∧ (¬ (r2 = 0) → (∃ e5 : Nat, x1 = nI e5 ∧ (e5 < 64 ∧ Q (C1.2.2.1 3 e5) C1))))))
set_option maxRecDepth 8000 in
set_option maxHeartbeats 4000000 in
theorem p_F_cell (L : Nat) (xs : Nat → Int32) (d : Nat) (x1 : Int32) (C : xC) (Q : Int32 → xC → Prop) (E : Nat → xC → Prop) (h : w_F_cell x1 C Q E) : xG xec (xgt L xs) (d + 6) xi_F_cell (0, [(0, .ref 0), (1, .int x1)], []) C (xEI Q E) := by
  unfold w_F_cell at h
  refine xG.seg 1 (f' := (1, [(0, .ref 0), (1, .int x1)], [.int x1])) (x1 := C) (fun _ => rfl) ?_
  refine xG.call (d := d + 5) (vs := [.int x1]) (g := (1, [(0, .ref 0), (1, .int x1)], [])) (fun _ => rfl) rfl (p_M_isCell L xs (d + 5) x1 C _ h) ?_
  clear h
  rintro _ C1 ⟨r2, rfl, h⟩
  refine ⟨_, rfl, ?_⟩
  refine xG.eqf (f' := (4, [(0, .ref 0), (1, .int x1)], [.int (nI r2)])) rfl ?_
  obtain ⟨c3, h⟩ := h
  refine xG.ifc (t := 15) (A := ¬ (r2 = 0)) rfl rfl (xe_c (xt_N c3) (show (0 : Int32).toInt = 0 from by decide) (by dsimp only; omega)) (fun k4 => ?_) (fun k4 => ?_)
  · replace h := h.2 k4
    refine xG.seg 4 (f' := (23, [(0, .ref 0), (1, .int x1)], [.int x1, .ref 17])) (x1 := C1) (fun _ => rfl) ?_
    obtain ⟨e5, c6, h⟩ := h
    refine xG.conv (c6) ?_
    obtain ⟨c7, h⟩ := h
    refine xG.iald rfl (Or.inl ⟨rfl, rfl⟩) (by decide) (fun _ => rfl) (by decide) c7 ?_
    refine xG.eqf (f' := (24, [(0, .ref 0), (1, .int x1)], [.int (C1.2.2.1 3 e5)])) rfl ?_
    exact xG.fin (fun _ => rfl) (Or.inl ⟨(C1.2.2.1 3 e5), rfl, h⟩)
  · replace h := h.1 (Classical.not_not.mp k4)
    obtain ⟨c8, h⟩ := h
    exact xG.exc (x1 := (cX C1 13)) (a := C1.2.2.2.2.2.2.1.length + 38) (fun _ => rfl) (fun _ => xexc_e rfl rfl rfl rfl rfl rfl rfl c8 (Nat.le_of_ble_eq_true rfl) rfl) (fun _ => rfl) (fun _ => rfl) (by omega) (Or.inr (xEX_mk c8 h))

def w_F_saying (x1 : Int32) (C : xC) (Q : Int32 → xC → Prop) (E : Nat → xC → Prop) : Prop := ((x1 < 0 → (C.2.2.2.2.2.2.1.length + 38 < 1048576 ∧ E 13 (cX C 13))) ∧ (∀ e1 : Nat, x1 = nI e1 → e1 < 2147483648 → (e1 < 2147483648 ∧ ((e1 < 0 → (C.2.2.2.2.2.2.1.length + 38 < 1048576 ∧ E 13 (cX C 13))) ∧ (¬ (e1 < 0) → (e1 < 2147483648 ∧ ((40 ≤ e1 → (C.2.2.2.2.2.2.1.length + 38 < 1048576 ∧ E 13 (cX C 13))) ∧ (¬ (40 ≤ e1) → (e1 < 2147483648 ∧ (C.1 13 < 2147483648 ∧ ((e1 < C.1 13 → (¬ (nI 40) = 0 ∧ (∃ e14 : Nat, (nI (C.1 13) - nI (1 + e1)) - (nI (C.1 13) - nI (1 + e1)) / (nI 40) * (nI 40) = nI e14 ∧ (e14 < 40 ∧ Q (C.2.2.1 4 e14) C)))) ∧ (¬ (e1 < C.1 13) → (C.2.2.2.2.2.2.1.length + 38 < 1048576 ∧ E 13 (cX C 13))))))))))))))
set_option maxRecDepth 8000 in
set_option maxHeartbeats 4000000 in
theorem p_F_saying (L : Nat) (xs : Nat → Int32) (d : Nat) (x1 : Int32) (C : xC) (Q : Int32 → xC → Prop) (E : Nat → xC → Prop) (h : w_F_saying x1 C Q E) : xG xec (xgt L xs) (d + 6) xi_F_saying (0, [(0, .ref 0), (1, .int x1)], []) C (xEI Q E) := by
  unfold w_F_saying at h
  refine xG.seg 1 (f' := (1, [(0, .ref 0), (1, .int x1)], [.int x1])) (x1 := C) (fun _ => rfl) ?_
  rcases xe_sgn x1 with k2 | ⟨e1, k2, k2r⟩
  · replace h := h.1 k2
    refine xG.ifc (t := 21) rfl rfl (xe_ng0 k2) (fun _ => ?_) (fun q => absurd (by decide) q)
    obtain ⟨c3, h⟩ := h
    exact xG.exc (x1 := (cX C 13)) (a := C.2.2.2.2.2.2.1.length + 38) (fun _ => rfl) (fun _ => xexc_e rfl rfl rfl rfl rfl rfl rfl c3 (Nat.le_of_ble_eq_true rfl) rfl) (fun _ => rfl) (fun _ => rfl) (by omega) (Or.inr (xEX_mk c3 h))
  · replace h := h.2 e1 k2 k2r
    subst k2
    obtain ⟨c4, h⟩ := h
    refine xG.ifc (t := 21) (A := e1 < 0) rfl rfl (xe_c (xt_N c4) (show (0 : Int32).toInt = 0 from by decide) (by dsimp only; omega)) (fun k5 => ?_) (fun k5 => ?_)
    · replace h := h.1 k5
      obtain ⟨c6, h⟩ := h
      exact xG.exc (x1 := (cX C 13)) (a := C.2.2.2.2.2.2.1.length + 38) (fun _ => rfl) (fun _ => xexc_e rfl rfl rfl rfl rfl rfl rfl c6 (Nat.le_of_ble_eq_true rfl) rfl) (fun _ => rfl) (fun _ => rfl) (by omega) (Or.inr (xEX_mk c6 h))
    · replace h := h.2 k5
      refine xG.seg 2 (f' := (7, [(0, .ref 0), (1, .int (nI e1))], [.int (nI 40), .int (nI e1)])) (x1 := C) (fun _ => rfl) ?_
      obtain ⟨c7, h⟩ := h
      refine xG.icmp (t := 21) (A := 40 ≤ e1) rfl rfl (xe_c (xt_N c7) (show ((nI 40) : Int32).toInt = 40 from by decide) (by dsimp only; omega)) (fun k8 => ?_) (fun k8 => ?_)
      · replace h := h.1 k8
        obtain ⟨c9, h⟩ := h
        exact xG.exc (x1 := (cX C 13)) (a := C.2.2.2.2.2.2.1.length + 38) (fun _ => rfl) (fun _ => xexc_e rfl rfl rfl rfl rfl rfl rfl c9 (Nat.le_of_ble_eq_true rfl) rfl) (fun _ => rfl) (fun _ => rfl) (by omega) (Or.inr (xEX_mk c9 h))
      · replace h := h.2 k8
        refine xG.seg 4 (f' := (18, [(0, .ref 0), (1, .int (nI e1))], [.int (nI (C.1 13)), .int (nI e1)])) (x1 := C) (fun _ => rfl) ?_
        obtain ⟨c10, h⟩ := h
        obtain ⟨c11, h⟩ := h
        refine xG.icmp (t := 29) (A := e1 < C.1 13) rfl rfl (xe_c (xt_N c10) (xt_N c11) (by dsimp only; omega)) (fun k12 => ?_) (fun k12 => ?_)
        · replace h := h.1 k12
          refine xG.seg 10 (f' := (47, [(0, .ref 0), (1, .int (nI e1))], [.int ((nI (C.1 13) - nI 1) - (nI e1)), .ref 18])) (x1 := C) (fun _ => rfl) ?_
          refine xG.conv (xe_zsn _ _ _) ?_
          refine xG.eqf (f' := (47, [(0, .ref 0), (1, .int (nI e1))], [.int (nI (C.1 13) - nI (1 + e1)), .ref 18])) rfl ?_
          refine xG.seg 1 (f' := (49, [(0, .ref 0), (1, .int (nI e1))], [.int (nI 40), .int (nI (C.1 13) - nI (1 + e1)), .ref 18])) (x1 := C) (fun _ => rfl) ?_
          obtain ⟨c13, h⟩ := h
          refine xG.irem rfl c13 ?_
          refine xG.eqf (f' := (50, [(0, .ref 0), (1, .int (nI e1))], [.int ((nI (C.1 13) - nI (1 + e1)) - (nI (C.1 13) - nI (1 + e1)) / (nI 40) * (nI 40)), .ref 18])) rfl ?_
          obtain ⟨e14, c15, h⟩ := h
          refine xG.conv (c15) ?_
          obtain ⟨c16, h⟩ := h
          refine xG.iald rfl (Or.inl ⟨rfl, rfl⟩) (by decide) (fun _ => rfl) (by decide) c16 ?_
          refine xG.eqf (f' := (51, [(0, .ref 0), (1, .int (nI e1))], [.int (C.2.2.1 4 e14)])) rfl ?_
          exact xG.fin (fun _ => rfl) (Or.inl ⟨(C.2.2.1 4 e14), rfl, h⟩)
        · replace h := h.2 k12
          obtain ⟨c17, h⟩ := h
          exact xG.exc (x1 := (cX C 13)) (a := C.2.2.2.2.2.2.1.length + 38) (fun _ => rfl) (fun _ => xexc_e rfl rfl rfl rfl rfl rfl rfl c17 (Nat.le_of_ble_eq_true rfl) rfl) (fun _ => rfl) (fun _ => rfl) (by omega) (Or.inr (xEX_mk c17 h))

def wi_N_sum_A4_4 (K : Nat → xDf → Nat → Nat → xC → Prop) (l0 : Nat) (Dl0 : xDf) (l1 : Nat) (l2 : Nat) (C : xC) (Q : Nat → xC → Prop) : Prop := (xD C l0 Dl0 ∧ (l2 < 2147483648 ∧ (Dl0.2.1 < 2147483648 ∧ ((Dl0.2.1 ≤ l2 → Q l1 C) ∧ (¬ (Dl0.2.1 ≤ l2) → (l2 < Dl0.2.1 ∧ K l0 Dl0 (l1 + (Dl0.2.2.2.2.2 l2)) (l2 + 1) C))))))
set_option maxRecDepth 8000 in
set_option maxHeartbeats 4000000 in
theorem pi_N_sum_A4_4 (L : Nat) (xs : Nat → Int32) (d : Nat) (Q : Nat → xC → Prop) (K : Nat → xDf → Nat → Nat → xC → Prop) (hK : ∀ (l0 : Nat) (Dl0 : xDf) (l1 : Nat) (l2 : Nat) (C : xC), K l0 Dl0 l1 l2 C → xG xec (xgt L xs) (d) xi_N_sum (4, [(0, .ref (l0 + 4)), (1, .int (nI l1)), (2, .int (nI l2))], []) C (xPN Q)) (l0 : Nat) (Dl0 : xDf) (l1 : Nat) (l2 : Nat) (C : xC) (h : wi_N_sum_A4_4 K l0 Dl0 l1 l2 C Q) : xG xec (xgt L xs) (d) xi_N_sum (4, [(0, .ref (l0 + 4)), (1, .int (nI l1)), (2, .int (nI l2))], []) C (xPN Q) := by
  unfold wi_N_sum_A4_4 at h
  refine xG.seg 2 (f' := (6, [(0, .ref (l0 + 4)), (1, .int (nI l1)), (2, .int (nI l2))], [.ref (l0 + 4), .int (nI l2)])) (x1 := C) (fun _ => rfl) ?_
  obtain ⟨hD2001, h⟩ := h
  refine xG.alen rfl hD2001.lt4 (fun y => hD2001.at4 y) (by decide) ?_
  refine xG.eqf (f' := (7, [(0, .ref (l0 + 4)), (1, .int (nI l1)), (2, .int (nI l2))], [.int (nI Dl0.2.1), .int (nI l2)])) rfl ?_
  obtain ⟨c2002, h⟩ := h
  obtain ⟨c2003, h⟩ := h
  refine xG.icmp (t := 22) (A := Dl0.2.1 ≤ l2) rfl rfl (xe_c (xt_N c2002) (xt_N c2003) (by dsimp only; omega)) (fun k2004 => ?_) (fun k2004 => ?_)
  · replace h := h.1 k2004
    refine xG.seg 1 (f' := (23, [(0, .ref (l0 + 4)), (1, .int (nI l1)), (2, .int (nI l2))], [.int (nI l1)])) (x1 := C) (fun _ => rfl) ?_
    exact xG.fin (fun _ => rfl) (⟨_, rfl, h⟩)
  · replace h := h.2 k2004
    refine xG.seg 3 (f' := (13, [(0, .ref (l0 + 4)), (1, .int (nI l1)), (2, .int (nI l2))], [.int (nI l2), .ref (l0 + 4), .int (nI l1)])) (x1 := C) (fun _ => rfl) ?_
    obtain ⟨c2005, h⟩ := h
    refine xG.iald rfl (Or.inl ⟨rfl, rfl⟩) hD2001.lt4 (fun y => hD2001.at4 y) hD2001.le c2005 ?_
    refine xG.eqf (f' := (14, [(0, .ref (l0 + 4)), (1, .int (nI l1)), (2, .int (nI l2))], [.int (nI (Dl0.2.2.2.2.2 l2)), .int (nI l1)])) rfl ?_
    refine xG.seg 1 (f' := (15, [(0, .ref (l0 + 4)), (1, .int (nI l1)), (2, .int (nI l2))], [.int ((nI l1) + (nI (Dl0.2.2.2.2.2 l2)))])) (x1 := C) (fun _ => rfl) ?_
    refine xG.conv (xe_add l1 (Dl0.2.2.2.2.2 l2)) ?_
    refine xG.eqf (f' := (15, [(0, .ref (l0 + 4)), (1, .int (nI l1)), (2, .int (nI l2))], [.int (nI (l1 + (Dl0.2.2.2.2.2 l2)))])) rfl ?_
    refine xG.seg 1 (f' := (16, [(1, .int (nI (l1 + (Dl0.2.2.2.2.2 l2)))), (0, .ref (l0 + 4)), (2, .int (nI l2))], [])) (x1 := C) (fun _ => rfl) ?_
    refine xG.iinc (v := (nI l2)) (w := (nI (l2 + 1))) rfl rfl (by decide) (xe_add l2 1) ?_
    refine xG.eqf (f' := (19, [(2, .int (nI (l2 + 1))), (1, .int (nI (l1 + (Dl0.2.2.2.2.2 l2)))), (0, .ref (l0 + 4))], [])) rfl ?_
    refine xG.seg 1 (f' := (4, [(2, .int (nI (l2 + 1))), (1, .int (nI (l1 + (Dl0.2.2.2.2.2 l2)))), (0, .ref (l0 + 4))], [])) (x1 := C) (fun _ => rfl) ?_
    refine xG.lv (lv := [(0, .ref (l0 + 4)), (1, .int (nI (l1 + (Dl0.2.2.2.2.2 l2)))), (2, .int (nI (l2 + 1)))]) (lv' := [(2, .int (nI (l2 + 1))), (1, .int (nI (l1 + (Dl0.2.2.2.2.2 l2)))), (0, .ref (l0 + 4))]) rfl rfl rfl ?_
    exact hK l0 Dl0 (l1 + (Dl0.2.2.2.2.2 l2)) (l2 + 1) C h

def w_N_sum_A4_4 : Nat → Nat → xDf → Nat → Nat → (xC) → (Nat → xC → Prop) → Prop
  | 0, _, _, _, _, _, _ => False
  | n + 1, l0, Dl0, l1, l2, C, Q => wi_N_sum_A4_4 (fun l0 Dl0 l1 l2 C => w_N_sum_A4_4 n l0 Dl0 l1 l2 C Q) l0 Dl0 l1 l2 C Q
theorem p_N_sum_A4_4 (L : Nat) (xs : Nat → Int32) (d : Nat) (Q : Nat → xC → Prop) : ∀ (n : Nat) (l0 : Nat) (Dl0 : xDf) (l1 : Nat) (l2 : Nat) (C : xC), w_N_sum_A4_4 n l0 Dl0 l1 l2 C Q → xG xec (xgt L xs) (d) xi_N_sum (4, [(0, .ref (l0 + 4)), (1, .int (nI l1)), (2, .int (nI l2))], []) C (xPN Q)
  | 0, _, _, _, _, _, h => by cases h
  | n + 1, l0, Dl0, l1, l2, C, h => pi_N_sum_A4_4 L xs d Q (fun l0 Dl0 l1 l2 C => w_N_sum_A4_4 n l0 Dl0 l1 l2 C Q) (fun l0 Dl0 l1 l2 C h => p_N_sum_A4_4 L xs d Q n l0 Dl0 l1 l2 C h) l0 Dl0 l1 l2 C h

def w_N_sum_A4 (x1 : Nat) (Dx1 : xDf) (C : xC) (Q : Nat → xC → Prop) : Prop := ∃ fu1 : Nat, w_N_sum_A4_4 fu1 x1 Dx1 0 0 C Q
set_option maxRecDepth 8000 in
set_option maxHeartbeats 4000000 in
theorem p_N_sum_A4 (L : Nat) (xs : Nat → Int32) (d : Nat) (x1 : Nat) (Dx1 : xDf) (C : xC) (Q : Nat → xC → Prop) (h : w_N_sum_A4 x1 Dx1 C Q) : xG xec (xgt L xs) (d) xi_N_sum (0, [(0, .ref (x1 + 4))], []) C (xPN Q) := by
  unfold w_N_sum_A4 at h
  refine xG.seg 4 (f' := (4, [(2, .int (nI 0)), (1, .int (nI 0)), (0, .ref (x1 + 4))], [])) (x1 := C) (fun _ => rfl) ?_
  refine xG.lv (lv := [(0, .ref (x1 + 4)), (1, .int (nI 0)), (2, .int (nI 0))]) (lv' := [(2, .int (nI 0)), (1, .int (nI 0)), (0, .ref (x1 + 4))]) rfl rfl rfl ?_
  obtain ⟨fu1, h⟩ := h
  exact p_N_sum_A4_4 L xs d Q fu1 x1 Dx1 0 0 C h

def wi_N_sum_A3_4 (K : Nat → xDf → Nat → Nat → xC → Prop) (l0 : Nat) (Dl0 : xDf) (l1 : Nat) (l2 : Nat) (C : xC) (Q : Nat → xC → Prop) : Prop := (xD C l0 Dl0 ∧ (l2 < 2147483648 ∧ (Dl0.2.1 < 2147483648 ∧ ((Dl0.2.1 ≤ l2 → Q l1 C) ∧ (¬ (Dl0.2.1 ≤ l2) → (l2 < Dl0.2.1 ∧ K l0 Dl0 (l1 + (Dl0.2.2.2.2.1 l2)) (l2 + 1) C))))))
set_option maxRecDepth 8000 in
set_option maxHeartbeats 4000000 in
theorem pi_N_sum_A3_4 (L : Nat) (xs : Nat → Int32) (d : Nat) (Q : Nat → xC → Prop) (K : Nat → xDf → Nat → Nat → xC → Prop) (hK : ∀ (l0 : Nat) (Dl0 : xDf) (l1 : Nat) (l2 : Nat) (C : xC), K l0 Dl0 l1 l2 C → xG xec (xgt L xs) (d) xi_N_sum (4, [(0, .ref (l0 + 3)), (1, .int (nI l1)), (2, .int (nI l2))], []) C (xPN Q)) (l0 : Nat) (Dl0 : xDf) (l1 : Nat) (l2 : Nat) (C : xC) (h : wi_N_sum_A3_4 K l0 Dl0 l1 l2 C Q) : xG xec (xgt L xs) (d) xi_N_sum (4, [(0, .ref (l0 + 3)), (1, .int (nI l1)), (2, .int (nI l2))], []) C (xPN Q) := by
  unfold wi_N_sum_A3_4 at h
  refine xG.seg 2 (f' := (6, [(0, .ref (l0 + 3)), (1, .int (nI l1)), (2, .int (nI l2))], [.ref (l0 + 3), .int (nI l2)])) (x1 := C) (fun _ => rfl) ?_
  obtain ⟨hD2001, h⟩ := h
  refine xG.alen rfl hD2001.lt3 (fun y => hD2001.at3 y) (by decide) ?_
  refine xG.eqf (f' := (7, [(0, .ref (l0 + 3)), (1, .int (nI l1)), (2, .int (nI l2))], [.int (nI Dl0.2.1), .int (nI l2)])) rfl ?_
  obtain ⟨c2002, h⟩ := h
  obtain ⟨c2003, h⟩ := h
  refine xG.icmp (t := 22) (A := Dl0.2.1 ≤ l2) rfl rfl (xe_c (xt_N c2002) (xt_N c2003) (by dsimp only; omega)) (fun k2004 => ?_) (fun k2004 => ?_)
  · replace h := h.1 k2004
    refine xG.seg 1 (f' := (23, [(0, .ref (l0 + 3)), (1, .int (nI l1)), (2, .int (nI l2))], [.int (nI l1)])) (x1 := C) (fun _ => rfl) ?_
    exact xG.fin (fun _ => rfl) (⟨_, rfl, h⟩)
  · replace h := h.2 k2004
    refine xG.seg 3 (f' := (13, [(0, .ref (l0 + 3)), (1, .int (nI l1)), (2, .int (nI l2))], [.int (nI l2), .ref (l0 + 3), .int (nI l1)])) (x1 := C) (fun _ => rfl) ?_
    obtain ⟨c2005, h⟩ := h
    refine xG.iald rfl (Or.inl ⟨rfl, rfl⟩) hD2001.lt3 (fun y => hD2001.at3 y) hD2001.le c2005 ?_
    refine xG.eqf (f' := (14, [(0, .ref (l0 + 3)), (1, .int (nI l1)), (2, .int (nI l2))], [.int (nI (Dl0.2.2.2.2.1 l2)), .int (nI l1)])) rfl ?_
    refine xG.seg 1 (f' := (15, [(0, .ref (l0 + 3)), (1, .int (nI l1)), (2, .int (nI l2))], [.int ((nI l1) + (nI (Dl0.2.2.2.2.1 l2)))])) (x1 := C) (fun _ => rfl) ?_
    refine xG.conv (xe_add l1 (Dl0.2.2.2.2.1 l2)) ?_
    refine xG.eqf (f' := (15, [(0, .ref (l0 + 3)), (1, .int (nI l1)), (2, .int (nI l2))], [.int (nI (l1 + (Dl0.2.2.2.2.1 l2)))])) rfl ?_
    refine xG.seg 1 (f' := (16, [(1, .int (nI (l1 + (Dl0.2.2.2.2.1 l2)))), (0, .ref (l0 + 3)), (2, .int (nI l2))], [])) (x1 := C) (fun _ => rfl) ?_
    refine xG.iinc (v := (nI l2)) (w := (nI (l2 + 1))) rfl rfl (by decide) (xe_add l2 1) ?_
    refine xG.eqf (f' := (19, [(2, .int (nI (l2 + 1))), (1, .int (nI (l1 + (Dl0.2.2.2.2.1 l2)))), (0, .ref (l0 + 3))], [])) rfl ?_
    refine xG.seg 1 (f' := (4, [(2, .int (nI (l2 + 1))), (1, .int (nI (l1 + (Dl0.2.2.2.2.1 l2)))), (0, .ref (l0 + 3))], [])) (x1 := C) (fun _ => rfl) ?_
    refine xG.lv (lv := [(0, .ref (l0 + 3)), (1, .int (nI (l1 + (Dl0.2.2.2.2.1 l2)))), (2, .int (nI (l2 + 1)))]) (lv' := [(2, .int (nI (l2 + 1))), (1, .int (nI (l1 + (Dl0.2.2.2.2.1 l2)))), (0, .ref (l0 + 3))]) rfl rfl rfl ?_
    exact hK l0 Dl0 (l1 + (Dl0.2.2.2.2.1 l2)) (l2 + 1) C h

def w_N_sum_A3_4 : Nat → Nat → xDf → Nat → Nat → (xC) → (Nat → xC → Prop) → Prop
  | 0, _, _, _, _, _, _ => False
  | n + 1, l0, Dl0, l1, l2, C, Q => wi_N_sum_A3_4 (fun l0 Dl0 l1 l2 C => w_N_sum_A3_4 n l0 Dl0 l1 l2 C Q) l0 Dl0 l1 l2 C Q
theorem p_N_sum_A3_4 (L : Nat) (xs : Nat → Int32) (d : Nat) (Q : Nat → xC → Prop) : ∀ (n : Nat) (l0 : Nat) (Dl0 : xDf) (l1 : Nat) (l2 : Nat) (C : xC), w_N_sum_A3_4 n l0 Dl0 l1 l2 C Q → xG xec (xgt L xs) (d) xi_N_sum (4, [(0, .ref (l0 + 3)), (1, .int (nI l1)), (2, .int (nI l2))], []) C (xPN Q)
  | 0, _, _, _, _, _, h => by cases h
  | n + 1, l0, Dl0, l1, l2, C, h => pi_N_sum_A3_4 L xs d Q (fun l0 Dl0 l1 l2 C => w_N_sum_A3_4 n l0 Dl0 l1 l2 C Q) (fun l0 Dl0 l1 l2 C h => p_N_sum_A3_4 L xs d Q n l0 Dl0 l1 l2 C h) l0 Dl0 l1 l2 C h

def w_N_sum_A3 (x1 : Nat) (Dx1 : xDf) (C : xC) (Q : Nat → xC → Prop) : Prop := ∃ fu1 : Nat, w_N_sum_A3_4 fu1 x1 Dx1 0 0 C Q
set_option maxRecDepth 8000 in
set_option maxHeartbeats 4000000 in
theorem p_N_sum_A3 (L : Nat) (xs : Nat → Int32) (d : Nat) (x1 : Nat) (Dx1 : xDf) (C : xC) (Q : Nat → xC → Prop) (h : w_N_sum_A3 x1 Dx1 C Q) : xG xec (xgt L xs) (d) xi_N_sum (0, [(0, .ref (x1 + 3))], []) C (xPN Q) := by
  unfold w_N_sum_A3 at h
  refine xG.seg 4 (f' := (4, [(2, .int (nI 0)), (1, .int (nI 0)), (0, .ref (x1 + 3))], [])) (x1 := C) (fun _ => rfl) ?_
  refine xG.lv (lv := [(0, .ref (x1 + 3)), (1, .int (nI 0)), (2, .int (nI 0))]) (lv' := [(2, .int (nI 0)), (1, .int (nI 0)), (0, .ref (x1 + 3))]) rfl rfl rfl ?_
  obtain ⟨fu1, h⟩ := h
  exact p_N_sum_A3_4 L xs d Q fu1 x1 Dx1 0 0 C h

def w_F_definition (x1 : Int32) (x2 : Int32) (C : xC) (Q : Nat → xC → Prop) (E : Nat → xC → Prop) : Prop := w_D_at x1 C (fun r2 C1 => ((r2 = none → (C1.2.2.2.2.2.2.1.length + 38 < 1048576 ∧ E 13 (cX C1 13))) ∧ (¬ r2 = none → ∃ (a5 : Nat) (D6 : xDf), r2 = some a5 ∧ xD C1 a5 D6 ∧ ((x2 < 0 → (C1.2.2.2.2.2.2.1.length + 38 < 1048576 ∧ E 13 (cX C1 13))) ∧ (∀ e7 : Nat, x2 = nI e7 → e7 < 2147483648 → (e7 < 2147483648 ∧ ((e7 < 0 → (C1.2.2.2.2.2.2.1.length + 38 < 1048576 ∧ E 13 (cX C1 13))) ∧ (¬ (e7 < 0) → (e7 < 2147483648 ∧ ((e7 ≤ 2 → (e7 < 2147483648 ∧ ((e7 = 0 → Q D6.2.1 C1) ∧ (¬ (e7 = 0) → (e7 < 2147483648 ∧ ((e7 = 1 → w_N_sum_A3 a5 D6 C1 (fun r22 C21 => Q r22 C21)) ∧ (¬ (e7 = 1) → w_N_sum_A4 a5 D6 C1 (fun r20 C19 => Q r20 C19)))))))) ∧ (¬ (e7 ≤ 2) → (C1.2.2.2.2.2.2.1.length + 38 < 1048576 ∧ E 13 (cX C1 13)))))))))))))
set_option maxRecDepth 8000 in
set_option maxHeartbeats 4000000 in
theorem p_F_definition (L : Nat) (xs : Nat → Int32) (d : Nat) (x1 : Int32) (x2 : Int32) (C : xC) (Q : Nat → xC → Prop) (E : Nat → xC → Prop) (h : w_F_definition x1 x2 C Q E) : xG xec (xgt L xs) (d + 6) xi_F_definition (0, [(0, .ref 0), (1, .int x1), (2, .int x2)], []) C (xEN Q E) := by
  unfold w_F_definition at h
  refine xG.seg 3 (f' := (5, [(0, .ref 0), (1, .int x1), (2, .int x2)], [.int x1, .ref 3])) (x1 := C) (fun _ => rfl) ?_
  refine xG.call (d := d + 5) (vs := [.ref 3, .int x1]) (g := (5, [(0, .ref 0), (1, .int x1), (2, .int x2)], [])) (fun _ => rfl) rfl (p_D_at L xs (d + 5) x1 C _ h) ?_
  clear h
  rintro _ C1 ⟨r2, rfl, h⟩
  refine ⟨_, rfl, ?_⟩
  refine xG.eqf (f' := (8, [(0, .ref 0), (1, .int x1), (2, .int x2)], [va_rf r2])) rfl ?_
  by_cases k3 : r2 = none
  · replace h := h.1 k3
    refine xG.eqf (f' := (8, [(0, .ref 0), (1, .int x1), (2, .int x2)], [.null])) (by rw [k3]; rfl) ?_
    refine xG.seg 3 (f' := (22, [(3, .null), (0, .ref 0), (1, .int x1), (2, .int x2)], [])) (x1 := C1) (fun _ => rfl) ?_
    obtain ⟨c4, h⟩ := h
    exact xG.exc (x1 := (cX C1 13)) (a := C1.2.2.2.2.2.2.1.length + 38) (fun _ => rfl) (fun _ => xexc_e rfl rfl rfl rfl rfl rfl rfl c4 (Nat.le_of_ble_eq_true rfl) rfl) (fun _ => rfl) (fun _ => rfl) (by omega) (Or.inr (xEX_mk c4 h))
  · replace h := h.2 k3
    obtain ⟨a5, D6, k3a, hD6, h⟩ := h
    refine xG.eqf (f' := (8, [(0, .ref 0), (1, .int x1), (2, .int x2)], [.ref a5])) (by rw [k3a]; rfl) ?_
    refine xG.seg 4 (f' := (14, [(3, .ref a5), (0, .ref 0), (1, .int x1), (2, .int x2)], [.int x2])) (x1 := C1) (fun _ => rfl) ?_
    rcases xe_sgn x2 with k8 | ⟨e7, k8, k8r⟩
    · replace h := h.1 k8
      refine xG.ifc (t := 22) rfl rfl (xe_ng0 k8) (fun _ => ?_) (fun q => absurd (by decide) q)
      obtain ⟨c9, h⟩ := h
      exact xG.exc (x1 := (cX C1 13)) (a := C1.2.2.2.2.2.2.1.length + 38) (fun _ => rfl) (fun _ => xexc_e rfl rfl rfl rfl rfl rfl rfl c9 (Nat.le_of_ble_eq_true rfl) rfl) (fun _ => rfl) (fun _ => rfl) (by omega) (Or.inr (xEX_mk c9 h))
    · replace h := h.2 e7 k8 k8r
      subst k8
      obtain ⟨c10, h⟩ := h
      refine xG.ifc (t := 22) (A := e7 < 0) rfl rfl (xe_c (xt_N c10) (show (0 : Int32).toInt = 0 from by decide) (by dsimp only; omega)) (fun k11 => ?_) (fun k11 => ?_)
      · replace h := h.1 k11
        obtain ⟨c12, h⟩ := h
        exact xG.exc (x1 := (cX C1 13)) (a := C1.2.2.2.2.2.2.1.length + 38) (fun _ => rfl) (fun _ => xexc_e rfl rfl rfl rfl rfl rfl rfl c12 (Nat.le_of_ble_eq_true rfl) rfl) (fun _ => rfl) (fun _ => rfl) (by omega) (Or.inr (xEX_mk c12 h))
      · replace h := h.2 k11
        refine xG.seg 2 (f' := (19, [(3, .ref a5), (0, .ref 0), (1, .int x1), (2, .int (nI e7))], [.int (nI 2), .int (nI e7)])) (x1 := C1) (fun _ => rfl) ?_
        obtain ⟨c13, h⟩ := h
        refine xG.icmp (t := 30) (A := e7 ≤ 2) rfl rfl (xe_c (xt_N c13) (show ((nI 2) : Int32).toInt = 2 from by decide) (by dsimp only; omega)) (fun k14 => ?_) (fun k14 => ?_)
        · replace h := h.1 k14
          refine xG.seg 1 (f' := (31, [(3, .ref a5), (0, .ref 0), (1, .int x1), (2, .int (nI e7))], [.int (nI e7)])) (x1 := C1) (fun _ => rfl) ?_
          obtain ⟨c15, h⟩ := h
          refine xG.ifc (t := 39) (A := ¬ (e7 = 0)) rfl rfl (xe_c (xt_N c15) (show (0 : Int32).toInt = 0 from by decide) (by dsimp only; omega)) (fun k16 => ?_) (fun k16 => ?_)
          · replace h := h.2 k16
            refine xG.seg 2 (f' := (41, [(3, .ref a5), (0, .ref 0), (1, .int x1), (2, .int (nI e7))], [.int (nI 1), .int (nI e7)])) (x1 := C1) (fun _ => rfl) ?_
            obtain ⟨c17, h⟩ := h
            refine xG.icmp (t := 51) (A := ¬ (e7 = 1)) rfl rfl (xe_c (xt_N c17) (show ((nI 1) : Int32).toInt = 1 from by decide) (by dsimp only; omega)) (fun k18 => ?_) (fun k18 => ?_)
            · replace h := h.2 k18
              refine xG.seg 1 (f' := (52, [(3, .ref a5), (0, .ref 0), (1, .int x1), (2, .int (nI e7))], [.ref a5])) (x1 := C1) (fun _ => rfl) ?_
              refine xG.geto rfl rfl hD6.lt (fun y => hD6.at0 y) rfl ?_
              refine xG.eqf (f' := (55, [(3, .ref a5), (0, .ref 0), (1, .int x1), (2, .int (nI e7))], [.ref (a5 + 4)])) rfl ?_
              refine xG.call (d := d + 5) (vs := [.ref (a5 + 4)]) (g := (55, [(3, .ref a5), (0, .ref 0), (1, .int x1), (2, .int (nI e7))], [])) (fun _ => rfl) rfl (p_N_sum_A4 L xs (d + 5) a5 D6 C1 _ h) ?_
              clear h
              rintro _ C19 ⟨r20, rfl, h⟩
              refine ⟨_, rfl, ?_⟩
              refine xG.eqf (f' := (58, [(3, .ref a5), (0, .ref 0), (1, .int x1), (2, .int (nI e7))], [.int (nI r20)])) rfl ?_
              exact xG.fin (fun _ => rfl) (Or.inl ⟨_, rfl, h⟩)
            · replace h := h.1 (Classical.not_not.mp k18)
              refine xG.seg 1 (f' := (45, [(3, .ref a5), (0, .ref 0), (1, .int x1), (2, .int (nI e7))], [.ref a5])) (x1 := C1) (fun _ => rfl) ?_
              refine xG.geto rfl rfl hD6.lt (fun y => hD6.at0 y) rfl ?_
              refine xG.eqf (f' := (48, [(3, .ref a5), (0, .ref 0), (1, .int x1), (2, .int (nI e7))], [.ref (a5 + 3)])) rfl ?_
              refine xG.seg 1 (f' := (55, [(3, .ref a5), (0, .ref 0), (1, .int x1), (2, .int (nI e7))], [.ref (a5 + 3)])) (x1 := C1) (fun _ => rfl) ?_
              refine xG.call (d := d + 5) (vs := [.ref (a5 + 3)]) (g := (55, [(3, .ref a5), (0, .ref 0), (1, .int x1), (2, .int (nI e7))], [])) (fun _ => rfl) rfl (p_N_sum_A3 L xs (d + 5) a5 D6 C1 _ h) ?_
              clear h
              rintro _ C21 ⟨r22, rfl, h⟩
              refine ⟨_, rfl, ?_⟩
              refine xG.eqf (f' := (58, [(3, .ref a5), (0, .ref 0), (1, .int x1), (2, .int (nI e7))], [.int (nI r22)])) rfl ?_
              exact xG.fin (fun _ => rfl) (Or.inl ⟨_, rfl, h⟩)
          · replace h := h.1 (Classical.not_not.mp k16)
            refine xG.seg 1 (f' := (35, [(3, .ref a5), (0, .ref 0), (1, .int x1), (2, .int (nI e7))], [.ref a5])) (x1 := C1) (fun _ => rfl) ?_
            refine xG.geto rfl rfl hD6.lt (fun y => hD6.at0 y) rfl ?_
            refine xG.eqf (f' := (38, [(3, .ref a5), (0, .ref 0), (1, .int x1), (2, .int (nI e7))], [.int (nI D6.2.1)])) rfl ?_
            exact xG.fin (fun _ => rfl) (Or.inl ⟨_, rfl, h⟩)
        · replace h := h.2 k14
          obtain ⟨c23, h⟩ := h
          exact xG.exc (x1 := (cX C1 13)) (a := C1.2.2.2.2.2.2.1.length + 38) (fun _ => rfl) (fun _ => xexc_e rfl rfl rfl rfl rfl rfl rfl c23 (Nat.le_of_ble_eq_true rfl) rfl) (fun _ => rfl) (fun _ => rfl) (by omega) (Or.inr (xEX_mk c23 h))

def w_F_count (x1 : Int32) (C : xC) (Q : Nat → xC → Prop) (E : Nat → xC → Prop) : Prop := ((x1 < 0 → (C.2.2.2.2.2.2.1.length + 38 < 1048576 ∧ E 13 (cX C 13))) ∧ (∀ e1 : Nat, x1 = nI e1 → e1 < 2147483648 → (e1 < 2147483648 ∧ ((e1 = 0 → Q (C.1 4) C) ∧ (¬ e1 = 0 → ((e1 = 1 → Q (C.1 14) C) ∧ (¬ e1 = 1 → ((e1 = 2 → Q (C.1 15) C) ∧ (¬ e1 = 2 → ((e1 = 3 → Q (C.1 16) C) ∧ (¬ e1 = 3 → ((e1 = 4 → Q (C.1 12) C) ∧ (¬ e1 = 4 → ((e1 = 5 → Q (C.1 10) C) ∧ (¬ e1 = 5 → (C.2.2.2.2.2.2.1.length + 38 < 1048576 ∧ E 13 (cX C 13)))))))))))))))))
set_option maxRecDepth 8000 in
set_option maxHeartbeats 4000000 in
theorem p_F_count (L : Nat) (xs : Nat → Int32) (d : Nat) (x1 : Int32) (C : xC) (Q : Nat → xC → Prop) (E : Nat → xC → Prop) (h : w_F_count x1 C Q E) : xG xec (xgt L xs) (d + 6) xi_F_count (0, [(0, .ref 0), (1, .int x1)], []) C (xEN Q E) := by
  unfold w_F_count at h
  refine xG.seg 1 (f' := (1, [(0, .ref 0), (1, .int x1)], [.int x1])) (x1 := C) (fun _ => rfl) ?_
  rcases xe_sgn x1 with k2 | ⟨e1, k2, k2r⟩
  · replace h := h.1 k2
    refine xG.tswn (t := 91) rfl k2 rfl (by decide) ?_
    obtain ⟨c3, h⟩ := h
    exact xG.exc (x1 := (cX C 13)) (a := C.2.2.2.2.2.2.1.length + 38) (fun _ => rfl) (fun _ => xexc_e rfl rfl rfl rfl rfl rfl rfl c3 (Nat.le_of_ble_eq_true rfl) rfl) (fun _ => rfl) (fun _ => rfl) (by omega) (Or.inr (xEX_mk c3 h))
  · replace h := h.2 e1 k2 k2r
    subst k2
    obtain ⟨c4, h⟩ := h
    by_cases k5 : e1 = 0
    · replace h := h.1 k5
      refine xG.tsw (t := 40) rfl c4 (by rw [k5]; rfl) ?_
      refine xG.seg 3 (f' := (47, [(0, .ref 0), (1, .int (nI e1))], [.int (nI (C.1 4))])) (x1 := C) (fun _ => rfl) ?_
      exact xG.fin (fun _ => rfl) (Or.inl ⟨_, rfl, h⟩)
    replace h := h.2 k5
    by_cases k6 : e1 = 1
    · replace h := h.1 k6
      refine xG.tsw (t := 48) rfl c4 (by rw [k6]; rfl) ?_
      refine xG.seg 3 (f' := (55, [(0, .ref 0), (1, .int (nI e1))], [.int (nI (C.1 14))])) (x1 := C) (fun _ => rfl) ?_
      exact xG.fin (fun _ => rfl) (Or.inl ⟨_, rfl, h⟩)
    replace h := h.2 k6
    by_cases k7 : e1 = 2
    · replace h := h.1 k7
      refine xG.tsw (t := 56) rfl c4 (by rw [k7]; rfl) ?_
      refine xG.seg 3 (f' := (63, [(0, .ref 0), (1, .int (nI e1))], [.int (nI (C.1 15))])) (x1 := C) (fun _ => rfl) ?_
      exact xG.fin (fun _ => rfl) (Or.inl ⟨_, rfl, h⟩)
    replace h := h.2 k7
    by_cases k8 : e1 = 3
    · replace h := h.1 k8
      refine xG.tsw (t := 64) rfl c4 (by rw [k8]; rfl) ?_
      refine xG.seg 3 (f' := (71, [(0, .ref 0), (1, .int (nI e1))], [.int (nI (C.1 16))])) (x1 := C) (fun _ => rfl) ?_
      exact xG.fin (fun _ => rfl) (Or.inl ⟨_, rfl, h⟩)
    replace h := h.2 k8
    by_cases k9 : e1 = 4
    · replace h := h.1 k9
      refine xG.tsw (t := 72) rfl c4 (by rw [k9]; rfl) ?_
      refine xG.seg 3 (f' := (79, [(0, .ref 0), (1, .int (nI e1))], [.int (nI (C.1 12))])) (x1 := C) (fun _ => rfl) ?_
      exact xG.fin (fun _ => rfl) (Or.inl ⟨_, rfl, h⟩)
    replace h := h.2 k9
    by_cases k10 : e1 = 5
    · replace h := h.1 k10
      refine xG.tsw (t := 80) rfl c4 (by rw [k10]; rfl) ?_
      refine xG.seg 4 (f' := (90, [(0, .ref 0), (1, .int (nI e1))], [.int (nI (C.1 10))])) (x1 := C) (fun _ => rfl) ?_
      exact xG.fin (fun _ => rfl) (Or.inl ⟨_, rfl, h⟩)
    replace h := h.2 k10
    refine xG.tsw (t := 91) rfl c4 (xtsw_d [0, 1, 2, 3, 4, 5] rfl (by decide) rfl (by decide) (by simp only [List.mem_cons, List.not_mem_nil, or_false]; omega)) ?_
    obtain ⟨c11, h⟩ := h
    exact xG.exc (x1 := (cX C 13)) (a := C.2.2.2.2.2.2.1.length + 38) (fun _ => rfl) (fun _ => xexc_e rfl rfl rfl rfl rfl rfl rfl c11 (Nat.le_of_ble_eq_true rfl) rfl) (fun _ => rfl) (fun _ => rfl) (by omega) (Or.inr (xEX_mk c11 h))

