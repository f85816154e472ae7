/-! a state of the run -/
abbrev xS : Type := (Nat → Int32) × (Nat → Nat → Int32) × (Nat → Int64) × (Nat → Nat → Int64) × (Nat → Nat → Option Nat)
def xi (S : xS) (i : Nat) : Value := .int (S.1 i)
def xar (k n : Nat) (f : Nat → Int32) : va_E := .inl (k, n, .inl f)
def xal (n : Nat) (f : Nat → Int64) : va_E := .inl (1, n, .inr (.inl f))
def xaq (k n : Nat) (f : Nat → Option Nat) : va_E := .inl (k, n, .inr (.inr (.inr (.inr f))))
def xst (S : xS) (dyn : mj_S) : mj_S :=
  .inr (0, [.ref 1, .ref 3, .ref 5, .ref 12]) ::
  .inr (1, [.ref 2, .int (S.1 0), .int (S.1 1), .int (S.1 2), .int (S.1 3)]) :: .inl (2, 160, .inl (S.2.1 0)) ::
  .inr (2, [.ref 4, .int (S.1 4)]) :: .inl (4, 40, .inr (.inr (.inr (.inr (S.2.2.2.2 0))))) ::
  .inr (4, [.ref 3, .ref 6, .ref 7, .ref 8, .ref 9, .ref 10, .ref 11, .int (S.1 5), .long (S.2.2.1 0), .int (S.1 6), .int (S.1 7), .int (S.1 8)]) ::
  .inl (3, 60, .inr (.inr (.inr (.inr (S.2.2.2.2 1))))) :: .inl (0, 60, .inl (S.2.1 1)) :: .inl (0, 60, .inl (S.2.1 2)) :: .inl (0, 60, .inl (S.2.1 3)) :: .inl (3, 8, .inr (.inr (.inr (.inr (S.2.2.2.2 2))))) :: .inl (0, 8, .inl (S.2.1 4)) ::
  .inr (6, [.ref 3, .ref 13, .ref 15, .ref 17, .ref 18, .ref 19, .ref 20, .ref 21, .int (S.1 11), .int (S.1 12), .int (S.1 13), .int (S.1 14), .int (S.1 15), .int (S.1 16)]) ::
  .inr (5, [.ref 14, .int (S.1 9)]) :: .inl (0, 24, .inl (S.2.1 5)) :: .inr (5, [.ref 16, .int (S.1 10)]) :: .inl (0, 24, .inl (S.2.1 6)) ::
  .inl (0, 64, .inl (S.2.1 7)) :: .inl (0, 40, .inl (S.2.1 8)) :: .inl (0, 3, .inl (S.2.1 9)) :: .inl (4, 12, .inr (.inr (.inr (.inr (S.2.2.2.2 3))))) :: .inl (0, 12, .inl (S.2.1 10)) ::
  .inr (7, [.int (S.1 20), .int (S.1 21), .int (S.1 22), .ref 23, .int (S.1 23), .int (S.1 24), .ref 24, .ref 25, .ref 26, .ref 27, .ref 28, .int (S.1 25), .int (S.1 26), .int (S.1 27), .int (S.1 28), .ref 29, .ref 30, .int (S.1 29), .ref 31, .int (S.1 30), .ref 32, .ref 33, .int (S.1 31), .ref 34, .int (S.1 32), .int (S.1 33), .int (S.1 34), .int (S.1 35), .ref 35, .ref 36, .int (S.1 36), .int (S.1 37)]) ::
  .inl (0, 160, .inl (S.2.1 20)) :: .inl (1, 41, .inr (.inl (S.2.2.2.1 0))) :: .inl (0, 41, .inl (S.2.1 21)) :: .inl (0, 2460, .inl (S.2.1 22)) :: .inl (0, 2460, .inl (S.2.1 23)) :: .inl (0, 2460, .inl (S.2.1 24)) :: .inl (0, 8, .inl (S.2.1 25)) :: .inl (0, 8, .inl (S.2.1 26)) :: .inl (0, 32, .inl (S.2.1 27)) :: .inl (0, 24, .inl (S.2.1 28)) :: .inl (0, 64, .inl (S.2.1 29)) :: .inl (0, 40, .inl (S.2.1 30)) :: .inl (0, 13, .inl (S.2.1 31)) :: .inl (0, 13, .inl (S.2.1 32)) ::
  .inl (1, 1, .inr (.inl (S.2.2.2.1 1))) :: dyn
theorem xR_iast {mi : Nat → Option mx_I} {gt : mx_Gt} {nC d : Nat} {I : mx_I} {pc a n : Nat} {lv : List (Nat × Value)} {t : List Value} {x j : Int32} {f : Nat → Int32} {σ : mj_S} {z : Nat} {o : mj_O} {σ' : mj_S} {z' : Nat} (hl : I.2.2.2.2.2.1.lookup pc = some (.iastore, 1)) (ha : a < 1048576) (he : σ[a]? = some (.inl (0, n, .inl f))) (hin : mx_inb j n = true)
    (k : mx_R mi gt nC d I (pc + 1, lv, t) (σ.set a (.inl (0, n, .inl (upd f j.toNatClampNeg x)))) z o σ' z') : mx_R mi gt nC d I (pc, lv, .int x :: .int j :: .ref a :: t) σ z o σ' z' := by
  refine mx_R.step ?_ k
  unfold mx_step
  simp only [hl]
  unfold mx_ast
  simp [ha, he, hin, mx_of]
theorem t_push (L : Nat) (xs : Nat → Int32) (d : Nat) (S : xS) (dyn : mj_S) (z : Nat) (v : Int32) (h : mx_inb (S.1 9) 24 = true) : mx_R xMi (xgt L xs) 61 d xi_S_push (0, [(0, .ref 13), (1, .int v)], []) (xst S dyn) z (.inl none)
    (xst (upd S.1 9 (S.1 9 + 1), (fun i => if i = 5 then upd (S.2.1 5) (S.1 9).toNatClampNeg v else S.2.1 i), S.2.2) dyn) z := by
  refine mx_R.seg 5 rfl ?_
  refine xR_iast rfl (by decide) rfl h ?_
  refine mx_R.seg 6 rfl ?_
  exact mx_R.fin rfl
