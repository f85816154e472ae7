/-! Runs of the interpreter over pictures of the state. X: what a method may change; Y: what stands beside it. -/
abbrev xEn (X Y : Type) : Type := X → Y → mj_S × Nat
def xG {X Y : Type} (en : xEn X Y) (gt : mx_Gt) (d : Nat) (I : mx_I) (f : mx_F) (x : X) (P : mj_O → X → Prop) : Prop :=
  ∃ o x', (∀ y, mx_R xMi gt 61 d I f (en x y).1 (en x y).2 o (en x' y).1 (en x' y).2) ∧ P o x'
section XG
variable {X Y : Type} {en : xEn X Y} {gt : mx_Gt} {d : Nat} {I : mx_I} {x : X} {P : mj_O → X → Prop}
theorem xG.mono {f : mx_F} {P' : mj_O → X → Prop} (h : xG en gt d I f x P) (hp : ∀ o x', P o x' → P' o x') : xG en gt d I f x P' := by
  obtain ⟨o, x', h1, h2⟩ := h
  exact ⟨o, x', h1, hp _ _ h2⟩
theorem xG.deep {f : mx_F} (h : xG en gt d I f x P) : xG en gt (d + 1) I f x P := by
  obtain ⟨o, x', h1, h2⟩ := h
  exact ⟨o, x', fun y => (h1 y).deep, h2⟩
theorem xG.seg (n : Nat) {f f' : mx_F} {x1 : X} (h : ∀ y, mx_seg xMi gt 61 I n f (en x y).1 (en x y).2 = some (f', (en x1 y).1, (en x1 y).2)) (k : xG en gt d I f' x1 P) : xG en gt d I f x P := by
  obtain ⟨o, x', h1, h2⟩ := k
  exact ⟨o, x', fun y => mx_R.seg n (h y) (h1 y), h2⟩
theorem xG.eqf {f f' : mx_F} (e : f = f') (k : xG en gt d I f' x P) : xG en gt d I f x P := e ▸ k
theorem xG.conv {pc : Nat} {lv : List (Nat × Value)} {st : List Value} {a b : Int32} (e : a = b) (k : xG en gt d I (pc, lv, .int b :: st) x P) : xG en gt d I (pc, lv, .int a :: st) x P := e ▸ k
theorem xG.lv {pc : Nat} {lv lv' : List (Nat × Value)} {st : List Value} (h1 : xnd (lv.map Prod.fst) = true) (h2 : xnd (lv'.map Prod.fst) = true) (h : lv.map (fun q => lv'.lookup q.1) = lv.map (fun q => some q.2)) (k : xG en gt d I (pc, lv, st) x P) : xG en gt d I (pc, lv', st) x P := by
  obtain ⟨o, x', h3, h4⟩ := k
  exact ⟨o, x', fun y => (h3 y).elim fun n hn => ⟨n, xv_run (xle_of h1 h2 h) hn⟩, h4⟩
theorem xG.fin {f : mx_F} {o : mj_O} (h : ∀ y, mx_step xMi gt 61 I f (en x y).1 (en x y).2 = some (.inr (.inl o))) (k : P o x) : xG en gt d I f x P :=
  ⟨o, x, fun y => mx_R.fin (h y), k⟩
theorem xG.call {J : mx_I} {f g : mx_F} {n : Nat} {vs : List Value} {P1 : mj_O → X → Prop} (h : ∀ y, mx_step xMi gt 61 I f (en x y).1 (en x y).2 = some (.inr (.inr (n, vs, g)))) (hy : xMi n = some J)
    (k1 : xG en gt d J (0, lv_args 0 vs, []) x P1) (k2 : ∀ o x1, P1 o x1 → ∃ r, o = .inl r ∧ xG en gt (d + 1) I (g.1 + 3, g.2.1, r.toList ++ g.2.2) x1 P) : xG en gt (d + 1) I f x P := by
  obtain ⟨o1, x1, h1, hp⟩ := k1
  obtain ⟨r, ho, o, x', h2, h3⟩ := k2 _ _ hp
  subst ho
  exact ⟨o, x', fun y => mx_R.call (h y) hy (h1 y) (h2 y), h3⟩
/-- a call that may throw, in a method without handlers -/
theorem xG.callT {J : mx_I} {f g : mx_F} {n : Nat} {vs : List Value} {P1 : mj_O → X → Prop} (h : ∀ y, mx_step xMi gt 61 I f (en x y).1 (en x y).2 = some (.inr (.inr (n, vs, g)))) (hy : xMi n = some J) (hh : mx_hs I = [])
    (k1 : xG en gt d J (0, lv_args 0 vs, []) x P1) (k2 : ∀ o x1, P1 o x1 → (∃ r, o = .inl r ∧ xG en gt (d + 1) I (g.1 + 3, g.2.1, r.toList ++ g.2.2) x1 P) ∨ (∃ a, o = .inr a ∧ P (.inr a) x1)) : xG en gt (d + 1) I f x P := by
  obtain ⟨o1, x1, h1, hp⟩ := k1
  rcases k2 _ _ hp with ⟨r, ho, o, x', h2, h3⟩ | ⟨a, ho, h2⟩
  · subst ho
    exact ⟨o, x', fun y => mx_R.call (h y) hy (h1 y) (h2 y), h3⟩
  · subst ho
    exact ⟨.inr a, x1, fun y => mx_R.callT (h y) hy hh (h1 y), h2⟩
/-- a call under handlers -/
theorem xG.callH {J : mx_I} {f g : mx_F} {n : Nat} {vs : List Value} {P1 : mj_O → X → Prop} {hh : Nat × Nat × Nat × Nat} {ht : List (Nat × Nat × Nat × Nat)} (h : ∀ y, mx_step xMi gt 61 I f (en x y).1 (en x y).2 = some (.inr (.inr (n, vs, g)))) (hy : xMi n = some J) (hs : mx_hs I = hh :: ht)
    (k1 : xG en gt d J (0, lv_args 0 vs, []) x P1) (k2 : ∀ o x1, P1 o x1 → (∃ r, o = .inl r ∧ xG en gt (d + 1) I (g.1 + 3, g.2.1, r.toList ++ g.2.2) x1 P) ∨ (∃ a w, o = .inr a ∧ (∀ y, mx_catch I g.1 a (en x1 y).1 = some w) ∧ xG en gt (d + 1) I (w, g.2.1, [.ref a]) x1 P)) : xG en gt (d + 1) I f x P := by
  obtain ⟨o1, x1, h1, hp⟩ := k1
  rcases k2 _ _ hp with ⟨r, ho, o, x', h2, h3⟩ | ⟨a, w, ho, hc, o, x', h2, h3⟩
  · subst ho
    exact ⟨o, x', fun y => mx_R.call (h y) hy (h1 y) (h2 y), h3⟩
  · subst ho
    exact ⟨o, x', fun y => mx_R.caught (h y) hy hs (h1 y) (hc y) (h2 y), h3⟩
theorem xG.prim {f f' : mx_F} (h : ∀ y, mx_step xMi gt 61 I f (en x y).1 (en x y).2 = none) (he : ∀ y, mx_exc I f (en x y).1 = none) (hp : mx_prim I f = some f') (h5 : 5 ≤ d) (k : xG en gt d I f' x P) : xG en gt d I f x P := by
  obtain ⟨o, x', h1, h2⟩ := k
  exact ⟨o, x', fun y => mx_R.prim (h y) (he y) hp h5 (h1 y), h2⟩
theorem xG.exc {f : mx_F} {x1 : X} {a : Nat} (hn : ∀ y, mx_step xMi gt 61 I f (en x y).1 (en x y).2 = none) (he : ∀ y, mx_exc I f (en x y).1 = some (en x1 y).1) (hz : ∀ y, (en x1 y).2 = (en x y).2 + 6) (ha : ∀ y, (en x y).1.length = a) (h6 : 6 ≤ d) (k : P (.inr a) x1) : xG en gt d I f x P :=
  ⟨.inr a, x1, fun y => by have q := mx_R.exc (d := d) (z := (en x y).2) (hn y) (he y) h6; rw [ha y, ← hz y] at q; exact q, k⟩
/-- a jump that looks at two ints -/
theorem xG.icmp {c : ClassFile.Cond} {off : Int} {pc t : Nat} {lv : List (Nat × Value)} {st : List Value} {a b : Int32} {A : Prop} [Decidable A] (hl : I.2.2.2.2.2.1.lookup pc = some (.if_icmp c off, 3)) (ht : (pc : Int) + off = (t : Int)) (e : mx_c c a b = decide A)
    (k1 : A → xG en gt d I (t, lv, st) x P) (k2 : ¬ A → xG en gt d I (pc + 3, lv, st) x P) : xG en gt d I (pc, lv, .int b :: .int a :: st) x P := by
  have hs : ∀ y, mx_seg xMi gt 61 I 1 (pc, lv, .int b :: .int a :: st) (en x y).1 (en x y).2 = some ((cond (decide A) t (pc + 3), lv, st), (en x y).1, (en x y).2) := fun y => by
    simp only [mx_seg, mx_step, hl, mx_ofF, mx_p, mx_b2, mx_br, ht, e, if_true, Int.toNat_natCast, Int.natCast_nonneg]
  refine xG.seg 1 hs ?_
  by_cases hA : A
  · simp only [hA, decide_true, cond_true]; exact k1 hA
  · simp only [hA, decide_false, cond_false]; exact k2 hA
theorem xG.ifc {c : ClassFile.Cond} {off : Int} {pc t : Nat} {lv : List (Nat × Value)} {st : List Value} {a : Int32} {A : Prop} [Decidable A] (hl : I.2.2.2.2.2.1.lookup pc = some (.ifCond c off, 3)) (ht : (pc : Int) + off = (t : Int)) (e : mx_c c a 0 = decide A)
    (k1 : A → xG en gt d I (t, lv, st) x P) (k2 : ¬ A → xG en gt d I (pc + 3, lv, st) x P) : xG en gt d I (pc, lv, .int a :: st) x P := by
  have hs : ∀ y, mx_seg xMi gt 61 I 1 (pc, lv, .int a :: st) (en x y).1 (en x y).2 = some ((cond (decide A) t (pc + 3), lv, st), (en x y).1, (en x y).2) := fun y => by
    simp only [mx_seg, mx_step, hl, mx_ofF, mx_p, mx_b1, mx_br, ht, e, if_true, Int.toNat_natCast, Int.natCast_nonneg]
  refine xG.seg 1 hs ?_
  by_cases hA : A
  · simp only [hA, decide_true, cond_true]; exact k1 hA
  · simp only [hA, decide_false, cond_false]; exact k2 hA
/-- a jump that looks at two constants, or null -/
theorem xG.acmp {c : ClassFile.ACond} {off : Int} {pc t : Nat} {lv : List (Nat × Value)} {st : List Value} {u v : Value} {p q : Option Nat} {A : Prop} [Decidable A] (hl : I.2.2.2.2.2.1.lookup pc = some (.if_acmp c off, 3)) (ht : (pc : Int) + off = (t : Int)) (hu : mx_cst 61 u = some p) (hv : mx_cst 61 v = some q) (e : cond (decide (c = .eq)) (decide (p = q)) (!decide (p = q)) = decide A)
    (k1 : A → xG en gt d I (t, lv, st) x P) (k2 : ¬ A → xG en gt d I (pc + 3, lv, st) x P) : xG en gt d I (pc, lv, v :: u :: st) x P := by
  have hs : ∀ y, mx_seg xMi gt 61 I 1 (pc, lv, v :: u :: st) (en x y).1 (en x y).2 = some ((cond (decide A) t (pc + 3), lv, st), (en x y).1, (en x y).2) := fun y => by
    simp only [mx_seg, mx_step, hl, mx_ofF, mx_p, mx_ba, hu, hv, mx_br, ht, e, if_true, Int.toNat_natCast, Int.natCast_nonneg]
  refine xG.seg 1 hs ?_
  by_cases hA : A
  · simp only [hA, decide_true, cond_true]; exact k1 hA
  · simp only [hA, decide_false, cond_false]; exact k2 hA
theorem xt_N {p : Nat} (h : p < 2147483648) : (nI p).toInt = (p : Int) := by
  unfold nI
  rw [Int32.toInt_ofNat_of_lt (by omega)]
theorem mx_inb_N {i n : Nat} (h : i < n) (hn : n ≤ 2147483648) : mx_inb (nI i) n = true := by
  have h1 : (nI i).toInt = (i : Int) := xt_N (by omega)
  have h2 : (nI i).toNatClampNeg = i := by
    show (nI i).toInt.toNat = i
    rw [h1]; rfl
  unfold mx_inb
  rw [h2]
  have h3 : ¬ (nI i < 0) := by
    rw [Int32.lt_iff_toInt_lt, h1]
    simp
  simp only [h3, decide_false, Bool.false_or, Bool.not_eq_true', decide_eq_false_iff_not]
  omega
theorem xt_clamp {i : Nat} (h : i < 2147483648) : (nI i).toNatClampNeg = i := by
  show (nI i).toInt.toNat = i
  rw [xt_N h]; rfl
/-- arrays: ints (kinds 0 and 2), words and definitions -/
theorem xG.iald {pc a n k : Nat} {g : Nat → Int32} {i : Nat} {lv : List (Nat × Value)} {st : List Value} {ins : Instr} (hl : I.2.2.2.2.2.1.lookup pc = some (ins, 1)) (hi : (ins = .iaload ∧ k = 0) ∨ (ins = .caload ∧ k = 2)) (ha : a < 1048576) (he : ∀ y, (en x y).1[a]? = some (.inl (k, n, .inl g))) (hn : n ≤ 2147483648) (h : i < n)
    (w : xG en gt d I (pc + 1, lv, .int (g i) :: st) x P) : xG en gt d I (pc, lv, .int (nI i) :: .ref a :: st) x P := by
  refine xG.seg 1 (fun y => ?_) w
  have hc := xt_clamp (i := i) (by omega)
  rcases hi with ⟨h1, h2⟩ | ⟨h1, h2⟩ <;> subst h1 <;> subst h2 <;>
    simp only [mx_seg, mx_step, hl, mx_ald, ha, he y, mx_inb_N h hn, if_true, hc, mx_ofF] <;> rfl
theorem xG.iast {pc a n : Nat} {g : Nat → Int32} {i : Nat} {v : Int32} {x1 : X} {lv : List (Nat × Value)} {st : List Value} (hl : I.2.2.2.2.2.1.lookup pc = some (.iastore, 1)) (ha : a < 1048576) (he : ∀ y, (en x y).1[a]? = some (.inl (0, n, .inl g))) (hn : n ≤ 2147483648) (h : i < n) (hx : ∀ y, ((en x y).1.set a (.inl (0, n, .inl (upd g i v))), (en x y).2) = en x1 y)
    (w : xG en gt d I (pc + 1, lv, st) x1 P) : xG en gt d I (pc, lv, .int v :: .int (nI i) :: .ref a :: st) x P := by
  refine xG.seg 1 (fun y => ?_) w
  have hc := xt_clamp (i := i) (by omega)
  rw [← hx y]
  simp only [mx_seg, mx_step, hl, mx_ast, ha, he y, mx_inb_N h hn, if_true, hc, mx_of, and_self]
theorem xG.cast {pc a n : Nat} {g : Nat → Int32} {i : Nat} {v : Int32} {x1 : X} {lv : List (Nat × Value)} {st : List Value} (hl : I.2.2.2.2.2.1.lookup pc = some (.castore, 1)) (ha : a < 1048576) (he : ∀ y, (en x y).1[a]? = some (.inl (2, n, .inl g))) (hn : n ≤ 2147483648) (h : i < n) (hx : ∀ y, ((en x y).1.set a (.inl (2, n, .inl (upd g i (vp_nar .char v)))), (en x y).2) = en x1 y)
    (w : xG en gt d I (pc + 1, lv, st) x1 P) : xG en gt d I (pc, lv, .int v :: .int (nI i) :: .ref a :: st) x P := by
  refine xG.seg 1 (fun y => ?_) w
  have hc := xt_clamp (i := i) (by omega)
  rw [← hx y]
  simp only [mx_seg, mx_step, hl, mx_ast, ha, he y, mx_inb_N h hn, if_true, hc, mx_of, and_self]
  rfl
theorem xG.lald {pc a n : Nat} {g : Nat → Int64} {i : Nat} {lv : List (Nat × Value)} {st : List Value} (hl : I.2.2.2.2.2.1.lookup pc = some (.laload, 1)) (ha : a < 1048576) (he : ∀ y, (en x y).1[a]? = some (.inl (1, n, .inr (.inl g)))) (hn : n ≤ 2147483648) (h : i < n)
    (w : xG en gt d I (pc + 1, lv, .long (g i) :: st) x P) : xG en gt d I (pc, lv, .int (nI i) :: .ref a :: st) x P := by
  refine xG.seg 1 (fun y => ?_) w
  have hc := xt_clamp (i := i) (by omega)
  simp only [mx_seg, mx_step, hl, mx_ald, ha, he y, mx_inb_N h hn, if_true, hc, mx_ofF, and_self]
theorem xG.last {pc a n : Nat} {g : Nat → Int64} {i : Nat} {v : Int64} {x1 : X} {lv : List (Nat × Value)} {st : List Value} (hl : I.2.2.2.2.2.1.lookup pc = some (.lastore, 1)) (ha : a < 1048576) (he : ∀ y, (en x y).1[a]? = some (.inl (1, n, .inr (.inl g)))) (hn : n ≤ 2147483648) (h : i < n) (hx : ∀ y, ((en x y).1.set a (.inl (1, n, .inr (.inl (vp_updL g i v)))), (en x y).2) = en x1 y)
    (w : xG en gt d I (pc + 1, lv, st) x1 P) : xG en gt d I (pc, lv, .long v :: .int (nI i) :: .ref a :: st) x P := by
  refine xG.seg 1 (fun y => ?_) w
  have hc := xt_clamp (i := i) (by omega)
  rw [← hx y]
  simp only [mx_seg, mx_step, hl, mx_ast, ha, he y, mx_inb_N h hn, if_true, hc, mx_of, and_self]
theorem xG.aald {pc a n k : Nat} {g : Nat → Option Nat} {i : Nat} {lv : List (Nat × Value)} {st : List Value} (hl : I.2.2.2.2.2.1.lookup pc = some (.aaload, 1)) (hk : k = 3 ∨ k = 4) (ha : a < 1048576) (he : ∀ y, (en x y).1[a]? = some (.inl (k, n, .inr (.inr (.inr (.inr g)))))) (hn : n ≤ 2147483648) (h : i < n)
    (w : xG en gt d I (pc + 1, lv, va_rf (g i) :: st) x P) : xG en gt d I (pc, lv, .int (nI i) :: .ref a :: st) x P := by
  refine xG.seg 1 (fun y => ?_) w
  have hc := xt_clamp (i := i) (by omega)
  simp only [mx_seg, mx_step, hl, mx_ald, ha, he y, mx_inb_N h hn, if_true, hc, mx_ofF, hk, and_self]
/-- constant arrays -/
theorem xG.cald {pc a n : Nat} {isI : Bool} {g : Nat → Value} {i : Nat} {lv : List (Nat × Value)} {st : List Value} {ins : Instr} (hl : I.2.2.2.2.2.1.lookup pc = some (ins, 1)) (hi : (ins = .iaload ∧ isI = true) ∨ (ins = .aaload ∧ isI = false)) (ha : ¬ a < 1048576) (he : gt.2.2.1 a = some (isI, n, g)) (hn : n ≤ 2147483648) (h : i < n)
    (w : xG en gt d I (pc + 1, lv, g i :: st) x P) : xG en gt d I (pc, lv, .int (nI i) :: .ref a :: st) x P := by
  refine xG.seg 1 (fun y => ?_) w
  have hc := xt_clamp (i := i) (by omega)
  rcases hi with ⟨h1, h2⟩ | ⟨h1, h2⟩ <;> subst h1 <;> subst h2 <;>
    simp only [mx_seg, mx_step, hl, mx_ald, ha, he, mx_inb_N h hn, if_true, if_false, hc, mx_ofF] <;> rfl
/-- a word into a row of words, a definition into a row of definitions -/
theorem xG.aastW {pc a n : Nat} {g : Nat → Option Nat} {i v : Nat} {x1 : X} {lv : List (Nat × Value)} {st : List Value} (hl : I.2.2.2.2.2.1.lookup pc = some (.aastore, 1)) (ha : a < 1048576) (he : ∀ y, (en x y).1[a]? = some (.inl (3, n, .inr (.inr (.inr (.inr g)))))) (hn : n ≤ 2147483648) (h : i < n) (hg : gt.2.2.2.1 = 55) (hv : v < 55) (hx : ∀ y, ((en x y).1.set a (.inl (3, n, .inr (.inr (.inr (.inr (va_up g i (some (1048576 + v)))))))), (en x y).2) = en x1 y)
    (w : xG en gt d I (pc + 1, lv, st) x1 P) : xG en gt d I (pc, lv, .ref (1048576 + v) :: .int (nI i) :: .ref a :: st) x P := by
  refine xG.seg 1 (fun y => ?_) w
  have hc := xt_clamp (i := i) (by omega)
  rw [← hx y]
  simp [mx_seg, mx_step, hl, mx_ast, ha, he y, mx_inb_N h hn, hc, mx_of, hg]
  have hq : 1048576 + v < 1048631 := by omega
  simp [hq]
theorem xG.aastD {pc a n : Nat} {g : Nat → Option Nat} {i v : Nat} {fs : List Value} {x1 : X} {lv : List (Nat × Value)} {st : List Value} (hl : I.2.2.2.2.2.1.lookup pc = some (.aastore, 1)) (ha : a < 1048576) (he : ∀ y, (en x y).1[a]? = some (.inl (4, n, .inr (.inr (.inr (.inr g)))))) (hn : n ≤ 2147483648) (h : i < n) (hg : gt.2.2.2.2 = 3) (hv : v < 1048576) (hd : ∀ y, (en x y).1[v]? = some (.inr (3, fs))) (hx : ∀ y, ((en x y).1.set a (.inl (4, n, .inr (.inr (.inr (.inr (va_up g i (some v))))))), (en x y).2) = en x1 y)
    (w : xG en gt d I (pc + 1, lv, st) x1 P) : xG en gt d I (pc, lv, .ref v :: .int (nI i) :: .ref a :: st) x P := by
  refine xG.seg 1 (fun y => ?_) w
  have hc := xt_clamp (i := i) (by omega)
  rw [← hx y]
  simp [mx_seg, mx_step, hl, mx_ast, ha, he y, mx_inb_N h hn, hc, mx_of, hd y, hg, hv]
theorem xG.alen {pc a n k : Nat} {q : (Nat → Int32) ⊕ (Nat → Int64) ⊕ (Nat → UInt32) ⊕ (Nat → UInt64) ⊕ (Nat → Option Nat)} {lv : List (Nat × Value)} {st : List Value} (hl : I.2.2.2.2.2.1.lookup pc = some (.arraylength, 1)) (ha : a < 1048576) (he : ∀ y, (en x y).1[a]? = some (.inl (k, n, q))) (hk : k < 5)
    (w : xG en gt d I (pc + 1, lv, .int (nI n) :: st) x P) : xG en gt d I (pc, lv, .ref a :: st) x P := by
  refine xG.seg 1 (fun y => ?_) w
  simp only [mx_seg, mx_step, hl, mx_len, ha, he y, if_true, mx_ofF, hk]
/-- fields: of a constant; of an object somewhere -/
theorem xG.getc {pc a ix : Nat} {v : Value} {lv : List (Nat × Value)} {st : List Value} (hl : I.2.2.2.2.2.1.lookup pc = some (.getfield ix, 3)) (ha : ¬ a < 1048576) (he : I.2.2.2.2.1.2.2.1 ix a = some v)
    (w : xG en gt d I (pc + 3, lv, v :: st) x P) : xG en gt d I (pc, lv, .ref a :: st) x P := by
  refine xG.seg 1 (fun y => ?_) w
  simp only [mx_seg, mx_step, hl, mx_get, ha, he, if_true, if_false, mx_ofF]
theorem xG.geto {pc a ix ci k : Nat} {fs : List Value} {v : Value} {lv : List (Nat × Value)} {st : List Value} (hl : I.2.2.2.2.2.1.lookup pc = some (.getfield ix, 3)) (ht : I.2.2.2.2.1.1 ix = some (ci, k)) (ha : a < 1048576) (he : ∀ y, (en x y).1[a]? = some (.inr (ci, fs))) (hv : fs[k]? = some v)
    (w : xG en gt d I (pc + 3, lv, v :: st) x P) : xG en gt d I (pc, lv, .ref a :: st) x P := by
  refine xG.seg 1 (fun y => ?_) w
  simp only [mx_seg, mx_step, hl, mx_get, ha, he y, ht, hv, if_true, mx_ofF]
theorem xG.iinc {pc i : Nat} {n : Int} {lv : List (Nat × Value)} {st : List Value} {v w : Int32} (hl : I.2.2.2.2.2.1.lookup pc = some (.iinc i n, 3)) (hv : lv.lookup i = some (.int v)) (hi : i < I.2.2.1) (e : v + Int32.ofInt n = w)
    (k : xG en gt d I (pc + 3, mj_s1 i (.int w) lv, st) x P) : xG en gt d I (pc, lv, st) x P := by
  refine xG.seg 1 (fun y => ?_) k
  subst e
  simp only [mx_seg, mx_step, hl, mx_p, hv, hi, if_true, mx_ofF]
theorem xG.aret {pc : Nat} {lv : List (Nat × Value)} {q : Option Nat} (hl : I.2.2.2.2.2.1.lookup pc = some (.areturn, 1)) (hr : ∃ s, I.2.2.2.1 = some (.object s)) (k : P (.inl (some (va_rf q))) x) : xG en gt d I (pc, lv, [va_rf q]) x P := by
  obtain ⟨s, hr⟩ := hr
  refine xG.fin (fun y => ?_) k
  cases q <;> simp only [mx_step, hl, va_rf, mj_isr, hr, mx_ret, if_true]
/-- the target of a switch -/
def xtsw (pc : Nat) (df lo hi : Int) (offs : Array Int) (v : Nat) : Option Nat := if (v : Int) < lo ∨ hi < (v : Int) then (if 0 ≤ (pc : Int) + df then some ((pc : Int) + df).toNat else none) else (match offs[((v : Int) - lo).toNat]? with
  | some off => if 0 ≤ (pc : Int) + off then some ((pc : Int) + off).toNat else none
  | none => none)
theorem xG.tsw {pc v t len : Nat} {df lo hi : Int} {offs : Array Int} {lv : List (Nat × Value)} {st : List Value} (hl : I.2.2.2.2.2.1.lookup pc = some (.tableswitch df lo hi offs, len)) (hv : v < 2147483648) (ht : xtsw pc df lo hi offs v = some t)
    (k : xG en gt d I (t, lv, st) x P) : xG en gt d I (pc, lv, .int (nI v) :: st) x P := by
  refine xG.seg 1 (fun y => ?_) k
  simp only [mx_seg, mx_step, hl, mx_p, xt_N hv]
  unfold xtsw at ht
  split at ht
  · rename_i hc
    rw [if_pos hc]
    obtain ⟨h1, h2⟩ := mx_if ht
    cases h2
    rw [if_pos h1]; rfl
  · rename_i hc
    rw [if_neg hc]
    split at ht
    · rename_i off ho
      rw [ho]
      obtain ⟨h1, h2⟩ := mx_if ht
      cases h2
      simp only []
      rw [if_pos h1]; rfl
    · cases ht
theorem xG.lsw {pc v t len : Nat} {df : Int} {ps : Array (Int × Int)} {lv : List (Nat × Value)} {st : List Value} (hl : I.2.2.2.2.2.1.lookup pc = some (.lookupswitch df ps, len)) (hv : v < 2147483648) (hs : (ps.toList.zip (ps.toList.drop 1)).all (fun (a, next) => a.1 < next.1) = true) (ht : (pc : Int) + Op.lookupswitch.offset ps.toList df (v : Int) = (t : Int))
    (k : xG en gt d I (t, lv, st) x P) : xG en gt d I (pc, lv, .int (nI v) :: st) x P := by
  refine xG.seg 1 (fun y => ?_) k
  simp only [mx_seg, mx_step, hl, mx_p, xt_N hv, ht, Int.natCast_nonneg, if_true, Int.toNat_natCast]
  rw [if_pos hs]; rfl
end XG
theorem xtsw_d {pc t : Nat} {df lo hi : Int} {offs : Array Int} {v : Nat} (vs : List Nat) (ht : (pc : Int) + df = (t : Int)) (hlo : 0 ≤ lo) (hs : (hi - lo + 1).toNat = offs.size) (h : ∀ j, j < offs.size → offs[j]? = some df ∨ (lo + (j : Int)).toNat ∈ vs) (hv : v ∉ vs) : xtsw pc df lo hi offs v = some t := by
  unfold xtsw
  rw [ht]
  split
  · simp
  · rename_i hc
    have h1 : ((v : Int) - lo).toNat < offs.size := by omega
    rcases h _ h1 with h2 | h2
    · rw [h2]; simp [ht]
    · exact absurd (by have : (lo + (((v : Int) - lo).toNat : Int)).toNat = v := by omega
                       rw [this] at h2; exact h2) hv
theorem xlsw_d {ps : List (Int × Int)} {df : Int} {v : Int} (h : ∀ q ∈ ps, q.1 ≠ v) : Op.lookupswitch.offset ps df v = df := by
  induction ps with
  | nil => rfl
  | cons q r ih =>
    obtain ⟨a, o⟩ := q
    rw [Op.lookupswitch.offset_cons, if_neg (h (a, o) (List.mem_cons_self ..))]
    exact ih fun q hq => h q (List.mem_cons_of_mem _ hq)
/-! what ints say of numbers -/
theorem xe_add (a b : Nat) : nI a + nI b = nI (a + b) := (Int32.ofNat_add a b).symm
theorem xe_mul (a b : Nat) : nI a * nI b = nI (a * b) := (Int32.ofNat_mul a b).symm
theorem xe_zn (a b c : Nat) : nI a - nI b + nI c = nI (a + c) - nI b := by
  rw [← xe_add]; simp only [Int32.sub_eq_add_neg]; ac_rfl
theorem xe_nz (a b c : Nat) : nI c + (nI a - nI b) = nI (c + a) - nI b := by
  rw [← xe_add]; simp only [Int32.sub_eq_add_neg]; ac_rfl
theorem xe_zsn (a b c : Nat) : nI a - nI b - nI c = nI a - nI (b + c) := by
  rw [← xe_add]; simp only [Int32.sub_eq_add_neg, Int32.neg_add]; ac_rfl
theorem xe_nsz (a b c : Nat) : nI c - (nI a - nI b) = nI (c + b) - nI a := by
  rw [← xe_add]; simp only [Int32.sub_eq_add_neg, Int32.neg_add, Int32.neg_neg]; ac_rfl
theorem xe_cut {a b : Nat} (h : b ≤ a) : nI a - nI b = nI (a - b) := by
  have : a = (a - b) + b := by omega
  rw [this, ← xe_add]
  simp
theorem xe_up (a n : Nat) : nI a = nI (a + n) - nI n := by
  rw [← xe_add]; simp
theorem xt_Z {p n : Nat} (h : p < 2147483648) (hn : n < 2147483648) : (nI p - nI n).toInt = (p : Int) - (n : Int) := by
  rw [Int32.toInt_sub, xt_N h, xt_N hn, Int.bmod_eq_of_le (by omega) (by omega)]
theorem xe_c {c : ClassFile.Cond} {a b : Int32} {i j : Int} {A : Prop} [Decidable A] (ha : a.toInt = i) (hb : b.toInt = j) (h : (match c with
  | .eq => i = j
  | .ne => ¬ i = j
  | .lt => i < j
  | .ge => j ≤ i
  | .gt => j < i
  | .le => i ≤ j) ↔ A) : mx_c c a b = decide A := by
  have e : (a = b) ↔ i = j := by rw [← ha, ← hb, Int32.toInt_inj]
  cases c <;> simp only [mx_c, Int32.lt_iff_toInt_lt, Int32.le_iff_toInt_le, ha, hb, e] <;> simp only at h <;> simp [← h]
theorem xe_div {a k : Nat} (ha : a < 2147483648) (hk : 0 < k) (hk2 : k < 2147483648) : nI a / nI k = nI (a / k) := by
  apply Int32.toInt_inj.mp
  have h1 : a / k < 2147483648 := Nat.lt_of_le_of_lt (Nat.div_le_self _ _) ha
  have h2 : (0 : Int) ≤ (a : Int).tdiv (k : Int) := Int.tdiv_nonneg (by omega) (by omega)
  have h3 : (a : Int).tdiv (k : Int) = ((a / k : Nat) : Int) := rfl
  rw [Int32.toInt_div, xt_N ha, xt_N hk2, xt_N h1, h3, Int.bmod_eq_of_le (by omega) (by omega)]
theorem xe_rem {a k : Nat} (ha : a < 2147483648) (hk : 0 < k) (hk2 : k < 2147483648) : nI a - nI a / nI k * nI k = nI (a % k) := by
  have h1 := Nat.div_add_mod a k
  have h2 : k * (a / k) ≤ a := by omega
  rw [xe_div ha hk hk2, xe_mul, xe_cut (by rw [Nat.mul_comm]; omega)]
  congr 1
  rw [Nat.mul_comm]; omega
theorem xe_z (a : Nat) : nI a - nI 0 = nI a := by
  have : nI 0 = 0 := rfl
  rw [this]; simp
/-- an int is below 0, or a number -/
theorem xe_sgn (v : Int32) : v < 0 ∨ ∃ e : Nat, v = nI e ∧ e < 2147483648 := by
  by_cases h : v < 0
  · exact Or.inl h
  · refine Or.inr ⟨v.toInt.toNat, ?_, ?_⟩
    · apply Int32.toInt_inj.mp
      have h1 : 0 ≤ v.toInt := by
        rw [Int32.lt_iff_toInt_lt] at h
        have : (0 : Int32).toInt = 0 := rfl
        omega
      have h2 := Int32.toInt_lt v
      rw [xt_N (by omega)]; omega
    · have h2 := Int32.toInt_lt v
      omega
