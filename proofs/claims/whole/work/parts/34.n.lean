/-! a definition is made -/
section XN
variable {X Y : Type} {en : xEn X Y} {gt : mx_Gt} {d : Nat} {I : mx_I} {x : X} {P : mj_O → X → Prop}
theorem xG.puto {pc a ix ci k : Nat} {fs : List Value} {v : Value} {x1 : X} {lv : List (Nat × Value)} {st : List Value} (hl : I.2.2.2.2.2.1.lookup pc = some (.putfield ix, 3)) (ht : I.2.2.2.2.1.1 ix = some (ci, k)) (ha : a < 1048576) (he : ∀ y, (en x y).1[a]? = some (.inr (ci, fs))) (hk : k < fs.length) (hf : mx_fit (gt.1 ci k) v = true) (hi : (!(gt.2.1 ci k) || I.2.2.2.2.2.2.1) = true) (hx : ∀ y, ((en x y).1.set a (.inr (ci, fs.set k v)), (en x y).2) = en x1 y)
    (w : xG en gt d I (pc + 3, lv, st) x1 P) : xG en gt d I (pc, lv, v :: .ref a :: st) x P := by
  refine xG.seg 1 (fun y => ?_) w
  rw [← hx y]
  simp only [mx_seg, mx_step, hl, mx_put, ha, he y, ht, hk, hf, hi, if_true, mx_of]
theorem xG.newi {pc n a : Nat} {x1 : X} {lv : List (Nat × Value)} {st : List Value} (hl : I.2.2.2.2.2.1.lookup pc = some (.newarray .int, 2)) (hn : n ≤ 60) (hq : ∀ y, (en x y).1.length = a) (ha : a < 1048576) (hx : ∀ y, ((en x y).1 ++ [.inl (0, n, .inl (fun _ => 0))], (en x y).2 + n) = en x1 y)
    (w : xG en gt d I (pc + 2, lv, .ref a :: st) x1 P) : xG en gt d I (pc, lv, .int (nI n) :: st) x P := by
  refine xG.seg 1 (fun y => ?_) w
  have hc := xt_clamp (i := n) (by omega)
  have h0 : (0 : Int32) ≤ nI n := by rw [Int32.le_iff_toInt_le, xt_N (by omega)]; show (0 : Int) ≤ _; omega
  have h1 : n ≤ 65536 := by omega
  rw [← hx y]
  simp only [mx_seg, mx_step, hl, mx_newa, mx_akind, h0, hc, h1, hq y, ha, if_true]
theorem xG.newr {pc n a ix k : Nat} {x1 : X} {lv : List (Nat × Value)} {st : List Value} (hl : I.2.2.2.2.2.1.lookup pc = some (.anewarray ix, 3)) (ht : I.2.2.2.2.1.2.2.2.2.1 ix = some k) (hn : n ≤ 60) (hq : ∀ y, (en x y).1.length = a) (ha : a < 1048576) (hx : ∀ y, ((en x y).1 ++ [.inl (k, n, .inr (.inr (.inr (.inr (fun _ => none)))))], (en x y).2 + n) = en x1 y)
    (w : xG en gt d I (pc + 3, lv, .ref a :: st) x1 P) : xG en gt d I (pc, lv, .int (nI n) :: st) x P := by
  refine xG.seg 1 (fun y => ?_) w
  have hc := xt_clamp (i := n) (by omega)
  have h0 : (0 : Int32) ≤ nI n := by rw [Int32.le_iff_toInt_le, xt_N (by omega)]; show (0 : Int) ≤ _; omega
  have h1 : n ≤ 65536 := by omega
  rw [← hx y]
  simp only [mx_seg, mx_step, hl, mx_anew, ht, h0, hc, h1, hq y, ha, if_true]
theorem xG.new {pc a ix ci n : Nat} {fs : List Value} {x1 : X} {lv : List (Nat × Value)} {st : List Value} (hl : I.2.2.2.2.2.1.lookup pc = some (.new ix, 3)) (ht : I.2.2.2.2.1.2.2.2.1 ix = some (ci, fs, n)) (hq : ∀ y, (en x y).1.length = a) (ha : a < 1048576) (hx : ∀ y, ((en x y).1 ++ [.inr (ci, fs)], (en x y).2 + n) = en x1 y)
    (w : xG en gt d I (pc + 3, lv, .ref a :: st) x1 P) : xG en gt d I (pc, lv, st) x P := by
  refine xG.seg 1 (fun y => ?_) w
  rw [← hx y]
  simp only [mx_seg, mx_step, hl, mx_new, ht, hq y, ha, if_true]
end XN
/-- the class's side with other cells behind -/
def cY (C : xC) (T : mj_S) (z : Nat) : xC := (C.1, C.2.1, C.2.2.1, C.2.2.2.1, C.2.2.2.2.1, C.2.2.2.2.2.1, C.2.2.2.2.2.2.1 ++ T, z)
theorem xst_len (C : xC) (M : xM) : (xec C M).1.length = C.2.2.2.2.2.2.1.length + 38 := rfl
theorem cY_len (C : xC) (T : mj_S) (z : Nat) (M : xM) : (xec (cY C T z) M).1.length = C.2.2.2.2.2.2.1.length + T.length + 38 := by
  show (C.2.2.2.2.2.2.1 ++ T).length + 38 = _
  rw [List.length_append]
theorem cY_at {C : xC} {T : mj_S} {z k : Nat} {e : va_E} (h : T[k]? = some e) (M : xM) : (xec (cY C T z) M).1[C.2.2.2.2.2.2.1.length + 38 + k]? = some e := by
  rw [xst_at (by omega)]
  show (C.2.2.2.2.2.2.1 ++ T)[_]? = _
  rw [List.getElem?_append_right (by omega), ← h]
  congr 1
  omega
theorem xst_set (C : xC) (T : mj_S) (z : Nat) (M : xM) (k : Nat) (e : va_E) : ((xec (cY C T z) M).1.set (C.2.2.2.2.2.2.1.length + 38 + k) e, (xec (cY C T z) M).2) = xec (cY C (T.set k e) z) M := by
  have h1 : (xst (cY C T z) M).set (C.2.2.2.2.2.2.1.length + k + 38) e = xst (C.1, C.2.1, C.2.2.1, C.2.2.2.1, C.2.2.2.2.1, C.2.2.2.2.2.1, (C.2.2.2.2.2.2.1 ++ T).set (C.2.2.2.2.2.2.1.length + k) e, z) M := rfl
  have h2 : (C.2.2.2.2.2.2.1 ++ T).set (C.2.2.2.2.2.2.1.length + k) e = C.2.2.2.2.2.2.1 ++ T.set k e := by
    rw [List.set_append_right _ _ (by omega)]
    congr 2
    omega
  rw [h2] at h1
  have h3 : C.2.2.2.2.2.2.1.length + 38 + k = C.2.2.2.2.2.2.1.length + k + 38 := by omega
  show ((xst (cY C T z) M).set _ e, z) = (xst (cY C (T.set k e) z) M, z)
  rw [h3, h1]
  rfl
theorem cY_app (C : xC) (T : mj_S) (z n : Nat) (e : va_E) (M : xM) : ((xec (cY C T z) M).1 ++ [e], (xec (cY C T z) M).2 + n) = xec (cY C (T ++ [e]) (z + n)) M := by
  have : cY C (T ++ [e]) (z + n) = (C.1, C.2.1, C.2.2.1, C.2.2.2.1, C.2.2.2.2.1, C.2.2.2.2.2.1, (C.2.2.2.2.2.2.1 ++ T) ++ [e], z + n) := by
    simp only [cY, List.append_assoc]
  rw [this]
  rfl
/-- the first i of a row -/
def xcp {α : Type} (f : Nat → α) (i : Nat) (z : α) : Nat → α := fun j => if j < i then f j else z
theorem xcp_0 {α : Type} (f : Nat → α) (z : α) : (fun _ => z) = xcp f 0 z := by funext j; simp [xcp]
theorem xcp_s {α : Type} (f : Nat → α) (i : Nat) (z : α) : xu (xcp f i z) i (f i) = xcp f (i + 1) z := by
  funext j
  simp only [xu, xcp]
  by_cases h : j = i
  · subst h; simp
  · simp only [h, if_false]
    by_cases h2 : j < i
    · simp [h2, show j < i + 1 by omega]
    · simp [h2, show ¬ j < i + 1 by omega]
theorem xcp_n (f : Nat → Nat) (i z : Nat) : (xcp (fun j => nI (f j)) i (nI z)) = fun j => nI (xcp f i z j) := by
  funext j
  simp only [xcp]
  split <;> rfl
/-- the five cells, with the first i operations -/
def xT5 (C : xC) (nm : Int64) (sz i : Nat) : mj_S := [.inr (3, [.long nm, .int (nI sz), .ref (C.2.2.2.2.2.2.1.length + 38 + 1), .ref (C.2.2.2.2.2.2.1.length + 38 + 2), .ref (C.2.2.2.2.2.2.1.length + 38 + 3), .ref (C.2.2.2.2.2.2.1.length + 38 + 4)]), .inl (3, sz, .inr (.inr (.inr (.inr (xcp (C.2.2.2.2.1 1) i none))))), .inl (0, sz, .inl (xcp (C.2.2.1 0) i 0)), .inl (0, sz, .inl (xcp (fun j => nI (C.2.1 1 j)) i 0)), .inl (0, sz, .inl (xcp (fun j => nI (C.2.1 2 j)) i 0))]
set_option maxRecDepth 8000 in
set_option maxHeartbeats 4000000 in
theorem p_N_loop (L : Nat) (xs : Nat → Int32) (d : Nat) (C : xC) (nm : Int64) (sz z : Nat) (hs : sz ≤ 60) (hq : C.2.2.2.2.2.2.1.length + 43 < 1048576) (hw : ∀ j, j < sz → ∃ w, w < 55 ∧ C.2.2.2.2.1 1 j = some (1048576 + w)) (Q : xC → Prop) (hQ : Q (cY C (xT5 C nm sz sz) z)) : ∀ (m i : Nat), i + m = sz → xG xec (xgt L xs) (d + 5) xi_N_init (46, [(0, .ref (C.2.2.2.2.2.2.1.length + 38)), (3, .int (nI sz)), (4, .ref 6), (5, .ref 7), (6, .ref 8), (7, .ref 9), (8, .int (nI i))], []) (cY C (xT5 C nm sz i) z) (xPV Q)
  | 0, i, h => by
    have h : i = sz := by omega
    subst h
    refine xG.seg 2 (f' := (49, [(0, .ref (C.2.2.2.2.2.2.1.length + 38)), (3, .int (nI i)), (4, .ref 6), (5, .ref 7), (6, .ref 8), (7, .ref 9), (8, .int (nI i))], [.int (nI i), .int (nI i)])) (x1 := cY C (xT5 C nm i i) z) (fun _ => rfl) ?_
    refine xG.icmp (t := 106) (A := i ≤ i) rfl rfl (xe_c (xt_N (by omega)) (xt_N (by omega)) (by dsimp only; omega)) (fun k => ?_) (fun k => absurd (Nat.le_refl _) k)
    exact xG.fin (fun _ => rfl) ⟨rfl, hQ⟩
  | m + 1, i, h => by
    obtain ⟨w, hw1, hw2⟩ := hw i (by omega)
    have ha : C.2.2.2.2.2.2.1.length + 38 < 1048576 := by omega
    have ha1 : C.2.2.2.2.2.2.1.length + 38 + 1 < 1048576 := by omega
    have ha2 : C.2.2.2.2.2.2.1.length + 38 + 2 < 1048576 := by omega
    have ha3 : C.2.2.2.2.2.2.1.length + 38 + 3 < 1048576 := by omega
    have ha4 : C.2.2.2.2.2.2.1.length + 38 + 4 < 1048576 := by omega
    refine xG.seg 2 (f' := (49, [(0, .ref (C.2.2.2.2.2.2.1.length + 38)), (3, .int (nI sz)), (4, .ref 6), (5, .ref 7), (6, .ref 8), (7, .ref 9), (8, .int (nI i))], [.int (nI sz), .int (nI i)])) (x1 := cY C (xT5 C nm sz i) z) (fun _ => rfl) ?_
    refine xG.icmp (t := 106) (A := sz ≤ i) rfl rfl (xe_c (xt_N (by omega)) (xt_N (by omega)) (by dsimp only; omega)) (fun k => by omega) (fun _ => ?_)
    refine xG.seg 1 (f' := (53, [(0, .ref (C.2.2.2.2.2.2.1.length + 38)), (3, .int (nI sz)), (4, .ref 6), (5, .ref 7), (6, .ref 8), (7, .ref 9), (8, .int (nI i))], [.ref (C.2.2.2.2.2.2.1.length + 38)])) (x1 := cY C (xT5 C nm sz i) z) (fun _ => rfl) ?_
    refine xG.geto rfl rfl ha (fun M => cY_at (k := 0) rfl M) rfl ?_
    refine xG.seg 3 (f' := (62, [(0, .ref (C.2.2.2.2.2.2.1.length + 38)), (3, .int (nI sz)), (4, .ref 6), (5, .ref 7), (6, .ref 8), (7, .ref 9), (8, .int (nI i))], [.int (nI i), .ref 6, .int (nI i), .ref (C.2.2.2.2.2.2.1.length + 38 + 1)])) (x1 := cY C (xT5 C nm sz i) z) (fun _ => rfl) ?_
    refine xG.aald rfl (Or.inl rfl) (by decide) (fun _ => rfl) (by decide) (show i < 60 by omega) ?_
    refine xG.eqf (f' := (63, [(0, .ref (C.2.2.2.2.2.2.1.length + 38)), (3, .int (nI sz)), (4, .ref 6), (5, .ref 7), (6, .ref 8), (7, .ref 9), (8, .int (nI i))], [.ref (1048576 + w), .int (nI i), .ref (C.2.2.2.2.2.2.1.length + 38 + 1)])) (by show (_, _, va_rf (C.2.2.2.2.1 1 i) :: _) = _; rw [hw2]; rfl) ?_
    refine xG.aastW (x1 := cY C ((xT5 C nm sz i).set 1 (.inl (3, sz, .inr (.inr (.inr (.inr (xcp (C.2.2.2.2.1 1) (i + 1) none))))))) z) rfl ha1 (fun M => cY_at (k := 1) rfl M) (by omega) (show i < sz by omega) rfl hw1 (fun M => by rw [xq_id, ← hw2, xcp_s]; exact xst_set C _ z M 1 _) ?_
    refine xG.seg 1 (f' := (65, [(0, .ref (C.2.2.2.2.2.2.1.length + 38)), (3, .int (nI sz)), (4, .ref 6), (5, .ref 7), (6, .ref 8), (7, .ref 9), (8, .int (nI i))], [.ref (C.2.2.2.2.2.2.1.length + 38)])) (fun _ => rfl) ?_
    refine xG.geto rfl rfl ha (fun M => cY_at (k := 0) rfl M) rfl ?_
    refine xG.seg 3 (f' := (74, [(0, .ref (C.2.2.2.2.2.2.1.length + 38)), (3, .int (nI sz)), (4, .ref 6), (5, .ref 7), (6, .ref 8), (7, .ref 9), (8, .int (nI i))], [.int (nI i), .ref 7, .int (nI i), .ref (C.2.2.2.2.2.2.1.length + 38 + 2)])) (fun _ => rfl) ?_
    refine xG.iald rfl (Or.inl ⟨rfl, rfl⟩) (by decide) (fun _ => rfl) (by decide) (show i < 60 by omega) ?_
    refine xG.iast (x1 := cY C (((xT5 C nm sz i).set 1 (.inl (3, sz, .inr (.inr (.inr (.inr (xcp (C.2.2.2.2.1 1) (i + 1) none))))))).set 2 (.inl (0, sz, .inl (xcp (C.2.2.1 0) (i + 1) 0)))) z) rfl ha2 (fun M => cY_at (k := 2) rfl M) (by omega) (show i < sz by omega) (fun M => by rw [xu_id]; show (_, _) = _; rw [← xcp_s (C.2.2.1 0) i 0]; exact xst_set C _ z M 2 _) ?_
    refine xG.seg 1 (f' := (77, [(0, .ref (C.2.2.2.2.2.2.1.length + 38)), (3, .int (nI sz)), (4, .ref 6), (5, .ref 7), (6, .ref 8), (7, .ref 9), (8, .int (nI i))], [.ref (C.2.2.2.2.2.2.1.length + 38)])) (fun _ => rfl) ?_
    refine xG.geto rfl rfl ha (fun M => cY_at (k := 0) rfl M) rfl ?_
    refine xG.seg 3 (f' := (86, [(0, .ref (C.2.2.2.2.2.2.1.length + 38)), (3, .int (nI sz)), (4, .ref 6), (5, .ref 7), (6, .ref 8), (7, .ref 9), (8, .int (nI i))], [.int (nI i), .ref 8, .int (nI i), .ref (C.2.2.2.2.2.2.1.length + 38 + 3)])) (fun _ => rfl) ?_
    refine xG.iald rfl (Or.inl ⟨rfl, rfl⟩) (by decide) (fun _ => rfl) (by decide) (show i < 60 by omega) ?_
    refine xG.iast (x1 := cY C ((((xT5 C nm sz i).set 1 (.inl (3, sz, .inr (.inr (.inr (.inr (xcp (C.2.2.2.2.1 1) (i + 1) none))))))).set 2 (.inl (0, sz, .inl (xcp (C.2.2.1 0) (i + 1) 0)))).set 3 (.inl (0, sz, .inl (xcp (fun j => nI (C.2.1 1 j)) (i + 1) 0)))) z) rfl ha3 (fun M => cY_at (k := 3) rfl M) (by omega) (show i < sz by omega) (fun M => by rw [xu_id]; show (_, _) = _; rw [← xcp_s (fun j => nI (C.2.1 1 j)) i 0]; exact xst_set C _ z M 3 _) ?_
    refine xG.seg 1 (f' := (89, [(0, .ref (C.2.2.2.2.2.2.1.length + 38)), (3, .int (nI sz)), (4, .ref 6), (5, .ref 7), (6, .ref 8), (7, .ref 9), (8, .int (nI i))], [.ref (C.2.2.2.2.2.2.1.length + 38)])) (fun _ => rfl) ?_
    refine xG.geto rfl rfl ha (fun M => cY_at (k := 0) rfl M) rfl ?_
    refine xG.seg 3 (f' := (98, [(0, .ref (C.2.2.2.2.2.2.1.length + 38)), (3, .int (nI sz)), (4, .ref 6), (5, .ref 7), (6, .ref 8), (7, .ref 9), (8, .int (nI i))], [.int (nI i), .ref 9, .int (nI i), .ref (C.2.2.2.2.2.2.1.length + 38 + 4)])) (fun _ => rfl) ?_
    refine xG.iald rfl (Or.inl ⟨rfl, rfl⟩) (by decide) (fun _ => rfl) (by decide) (show i < 60 by omega) ?_
    refine xG.iast (x1 := cY C (((((xT5 C nm sz i).set 1 (.inl (3, sz, .inr (.inr (.inr (.inr (xcp (C.2.2.2.2.1 1) (i + 1) none))))))).set 2 (.inl (0, sz, .inl (xcp (C.2.2.1 0) (i + 1) 0)))).set 3 (.inl (0, sz, .inl (xcp (fun j => nI (C.2.1 1 j)) (i + 1) 0)))).set 4 (.inl (0, sz, .inl (xcp (fun j => nI (C.2.1 2 j)) (i + 1) 0)))) z) rfl ha4 (fun M => cY_at (k := 4) rfl M) (by omega) (show i < sz by omega) (fun M => by rw [xu_id]; show (_, _) = _; rw [← xcp_s (fun j => nI (C.2.1 2 j)) i 0]; exact xst_set C _ z M 4 _) ?_
    refine xG.iinc (v := nI i) (w := nI (i + 1)) rfl rfl (by decide) (xe_add i 1) ?_
    refine xG.seg 1 (f' := (46, [(8, .int (nI (i + 1))), (0, .ref (C.2.2.2.2.2.2.1.length + 38)), (3, .int (nI sz)), (4, .ref 6), (5, .ref 7), (6, .ref 8), (7, .ref 9)], [])) (fun _ => rfl) ?_
    refine xG.lv (lv := [(0, .ref (C.2.2.2.2.2.2.1.length + 38)), (3, .int (nI sz)), (4, .ref 6), (5, .ref 7), (6, .ref 8), (7, .ref 9), (8, .int (nI (i + 1)))]) rfl rfl rfl ?_
    exact p_N_loop L xs d C nm sz z hs hq hw Q hQ m (i + 1) (by omega)

set_option maxRecDepth 8000 in
set_option maxHeartbeats 4000000 in
theorem p_N_init (L : Nat) (xs : Nat → Int32) (d : Nat) (C : xC) (nm : Int64) (sz z : Nat) (hs : sz ≤ 60) (hq : C.2.2.2.2.2.2.1.length + 43 < 1048576) (hw : ∀ j, j < sz → ∃ w, w < 55 ∧ C.2.2.2.2.1 1 j = some (1048576 + w)) (Q : xC → Prop) (hQ : Q (cY C (xT5 C nm sz sz) (z + sz + sz + sz + sz))) : xG xec (xgt L xs) (d + 5) xi_N_init (0, [(0, .ref (C.2.2.2.2.2.2.1.length + 38)), (1, .long nm), (3, .int (nI sz)), (4, .ref 6), (5, .ref 7), (6, .ref 8), (7, .ref 9)], []) (cY C [.inr (3, [.long 0, .int 0, .null, .null, .null, .null])] z) (xPV Q) := by
  have ha : C.2.2.2.2.2.2.1.length + 38 < 1048576 := by omega
  refine xG.seg 1 (f' := (1, [(0, .ref (C.2.2.2.2.2.2.1.length + 38)), (1, .long nm), (3, .int (nI sz)), (4, .ref 6), (5, .ref 7), (6, .ref 8), (7, .ref 9)], [.ref (C.2.2.2.2.2.2.1.length + 38)])) (fun _ => rfl) ?_
  refine xG.prim (f' := (4, [(0, .ref (C.2.2.2.2.2.2.1.length + 38)), (1, .long nm), (3, .int (nI sz)), (4, .ref 6), (5, .ref 7), (6, .ref 8), (7, .ref 9)], [])) (fun _ => rfl) (fun _ => rfl) rfl (by omega) ?_
  refine xG.seg 2 (f' := (6, [(0, .ref (C.2.2.2.2.2.2.1.length + 38)), (1, .long nm), (3, .int (nI sz)), (4, .ref 6), (5, .ref 7), (6, .ref 8), (7, .ref 9)], [.long nm, .ref (C.2.2.2.2.2.2.1.length + 38)])) (fun _ => rfl) ?_
  refine xG.puto (x1 := cY C [.inr (3, [.long nm, .int 0, .null, .null, .null, .null])] z) rfl rfl ha (fun M => cY_at (k := 0) rfl M) (by simp) rfl rfl (fun M => xst_set C _ z M 0 _) ?_
  refine xG.seg 2 (f' := (11, [(0, .ref (C.2.2.2.2.2.2.1.length + 38)), (1, .long nm), (3, .int (nI sz)), (4, .ref 6), (5, .ref 7), (6, .ref 8), (7, .ref 9)], [.int (nI sz), .ref (C.2.2.2.2.2.2.1.length + 38)])) (fun _ => rfl) ?_
  refine xG.puto (x1 := cY C [.inr (3, [.long nm, .int (nI sz), .null, .null, .null, .null])] z) rfl rfl ha (fun M => cY_at (k := 0) rfl M) (by simp) rfl rfl (fun M => xst_set C _ z M 0 _) ?_
  refine xG.seg 2 (f' := (16, [(0, .ref (C.2.2.2.2.2.2.1.length + 38)), (1, .long nm), (3, .int (nI sz)), (4, .ref 6), (5, .ref 7), (6, .ref 8), (7, .ref 9)], [.int (nI sz), .ref (C.2.2.2.2.2.2.1.length + 38)])) (fun _ => rfl) ?_
  refine xG.newr (a := C.2.2.2.2.2.2.1.length + 38 + 1) (x1 := cY C [.inr (3, [.long nm, .int (nI sz), .null, .null, .null, .null]), .inl (3, sz, .inr (.inr (.inr (.inr (fun _ => none)))))] (z + sz)) rfl rfl hs (fun M => by rw [cY_len]; simp) (by omega) (fun M => cY_app C _ z sz _ M) ?_
  refine xG.puto (x1 := cY C [.inr (3, [.long nm, .int (nI sz), .ref (C.2.2.2.2.2.2.1.length + 38 + 1), .null, .null, .null]), .inl (3, sz, .inr (.inr (.inr (.inr (fun _ => none)))))] (z + sz)) rfl rfl ha (fun M => cY_at (k := 0) rfl M) (by simp) rfl rfl (fun M => xst_set C _ _ M 0 _) ?_
  refine xG.seg 2 (f' := (24, [(0, .ref (C.2.2.2.2.2.2.1.length + 38)), (1, .long nm), (3, .int (nI sz)), (4, .ref 6), (5, .ref 7), (6, .ref 8), (7, .ref 9)], [.int (nI sz), .ref (C.2.2.2.2.2.2.1.length + 38)])) (fun _ => rfl) ?_
  refine xG.newi (a := C.2.2.2.2.2.2.1.length + 38 + 2) (x1 := cY C [.inr (3, [.long nm, .int (nI sz), .ref (C.2.2.2.2.2.2.1.length + 38 + 1), .null, .null, .null]), .inl (3, sz, .inr (.inr (.inr (.inr (fun _ => none))))), .inl (0, sz, .inl (fun _ => 0))] (z + sz + sz)) rfl hs (fun M => by rw [cY_len]; simp) (by omega) (fun M => cY_app C _ _ sz _ M) ?_
  refine xG.puto (x1 := cY C [.inr (3, [.long nm, .int (nI sz), .ref (C.2.2.2.2.2.2.1.length + 38 + 1), .ref (C.2.2.2.2.2.2.1.length + 38 + 2), .null, .null]), .inl (3, sz, .inr (.inr (.inr (.inr (fun _ => none))))), .inl (0, sz, .inl (fun _ => 0))] (z + sz + sz)) rfl rfl ha (fun M => cY_at (k := 0) rfl M) (by simp) rfl rfl (fun M => xst_set C _ _ M 0 _) ?_
  refine xG.seg 2 (f' := (31, [(0, .ref (C.2.2.2.2.2.2.1.length + 38)), (1, .long nm), (3, .int (nI sz)), (4, .ref 6), (5, .ref 7), (6, .ref 8), (7, .ref 9)], [.int (nI sz), .ref (C.2.2.2.2.2.2.1.length + 38)])) (fun _ => rfl) ?_
  refine xG.newi (a := C.2.2.2.2.2.2.1.length + 38 + 3) (x1 := cY C [.inr (3, [.long nm, .int (nI sz), .ref (C.2.2.2.2.2.2.1.length + 38 + 1), .ref (C.2.2.2.2.2.2.1.length + 38 + 2), .null, .null]), .inl (3, sz, .inr (.inr (.inr (.inr (fun _ => none))))), .inl (0, sz, .inl (fun _ => 0)), .inl (0, sz, .inl (fun _ => 0))] (z + sz + sz + sz)) rfl hs (fun M => by rw [cY_len]; simp) (by omega) (fun M => cY_app C _ _ sz _ M) ?_
  refine xG.puto (x1 := cY C [.inr (3, [.long nm, .int (nI sz), .ref (C.2.2.2.2.2.2.1.length + 38 + 1), .ref (C.2.2.2.2.2.2.1.length + 38 + 2), .ref (C.2.2.2.2.2.2.1.length + 38 + 3), .null]), .inl (3, sz, .inr (.inr (.inr (.inr (fun _ => none))))), .inl (0, sz, .inl (fun _ => 0)), .inl (0, sz, .inl (fun _ => 0))] (z + sz + sz + sz)) rfl rfl ha (fun M => cY_at (k := 0) rfl M) (by simp) rfl rfl (fun M => xst_set C _ _ M 0 _) ?_
  refine xG.seg 2 (f' := (38, [(0, .ref (C.2.2.2.2.2.2.1.length + 38)), (1, .long nm), (3, .int (nI sz)), (4, .ref 6), (5, .ref 7), (6, .ref 8), (7, .ref 9)], [.int (nI sz), .ref (C.2.2.2.2.2.2.1.length + 38)])) (fun _ => rfl) ?_
  refine xG.newi (a := C.2.2.2.2.2.2.1.length + 38 + 4) (x1 := cY C [.inr (3, [.long nm, .int (nI sz), .ref (C.2.2.2.2.2.2.1.length + 38 + 1), .ref (C.2.2.2.2.2.2.1.length + 38 + 2), .ref (C.2.2.2.2.2.2.1.length + 38 + 3), .null]), .inl (3, sz, .inr (.inr (.inr (.inr (fun _ => none))))), .inl (0, sz, .inl (fun _ => 0)), .inl (0, sz, .inl (fun _ => 0)), .inl (0, sz, .inl (fun _ => 0))] (z + sz + sz + sz + sz)) rfl hs (fun M => by rw [cY_len]; simp) (by omega) (fun M => cY_app C _ _ sz _ M) ?_
  refine xG.puto (x1 := cY C (xT5 C nm sz 0) (z + sz + sz + sz + sz)) rfl rfl ha (fun M => cY_at (k := 0) rfl M) (by simp) rfl rfl (fun M => by
    have e : xT5 C nm sz 0 = [.inr (3, [.long nm, .int (nI sz), .ref (C.2.2.2.2.2.2.1.length + 38 + 1), .ref (C.2.2.2.2.2.2.1.length + 38 + 2), .ref (C.2.2.2.2.2.2.1.length + 38 + 3), .ref (C.2.2.2.2.2.2.1.length + 38 + 4)]), .inl (3, sz, .inr (.inr (.inr (.inr (fun _ => none))))), .inl (0, sz, .inl (fun _ => 0)), .inl (0, sz, .inl (fun _ => 0)), .inl (0, sz, .inl (fun _ => 0))] := by
      simp only [xT5, ← xcp_0]
    rw [e]
    exact xst_set C _ _ M 0 _) ?_
  refine xG.seg 2 (f' := (46, [(8, .int (nI 0)), (0, .ref (C.2.2.2.2.2.2.1.length + 38)), (1, .long nm), (3, .int (nI sz)), (4, .ref 6), (5, .ref 7), (6, .ref 8), (7, .ref 9)], [])) (fun _ => rfl) ?_
  refine xG.lv (lv := [(0, .ref (C.2.2.2.2.2.2.1.length + 38)), (3, .int (nI sz)), (4, .ref 6), (5, .ref 7), (6, .ref 8), (7, .ref 9), (8, .int (nI 0))]) rfl rfl rfl ?_
  exact p_N_loop L xs d C nm sz _ hs hq hw Q hQ sz 0 (by omega)
