/-! The interpreter: a step, a run. A method: name, code, locals, type of its answer, its class's tables, its instructions, is it a constructor, how it's called (0 static, 1 by its receiver, 2 constructor), how many arguments, the receiver's class (a place in cl), handlers (from, to, where, the pool's entry of the class caught). -/
abbrev mx_I : Type := MethodName × ByteArray × Nat × Option FieldType × mx_Tb × List (Nat × Instr × Nat) × Bool × Nat × Nat × Nat × List (Nat × Nat × Nat × Nat)
abbrev mx_hs (I : mx_I) : List (Nat × Nat × Nat × Nat) := I.2.2.2.2.2.2.2.2.2.2
abbrev mx_Rs : Type := (mx_F × mj_S × Nat) ⊕ mj_O ⊕ (Nat × List Value × mx_F)
def mx_of (z : Nat) (r : Option (mx_F × mj_S)) : Option mx_Rs := match r with
  | some q => some (.inl (q.1, q.2, z))
  | none => none
def mx_ofF (σ : mj_S) (z : Nat) (r : Option mx_F) : Option mx_Rs := match r with
  | some q => some (.inl (q, σ, z))
  | none => none
def mx_new (tb : mx_Tb) (ix pc : Nat) (lv : List (Nat × Value)) (st : List Value) (σ : mj_S) (z : Nat) : Option mx_Rs := match tb.2.2.2.1 ix with
  | some (ci, fs, n) => if σ.length < 1048576 then some (.inl ((pc + 3, lv, .ref σ.length :: st), σ ++ [.inr (ci, fs)], z + n)) else none
  | none => none
def mx_akind (t : ArrayType) : Option (Nat × ((Nat → Int32) ⊕ (Nat → Int64) ⊕ (Nat → UInt32) ⊕ (Nat → UInt64) ⊕ (Nat → Option Nat))) := match t with
  | .int => some (0, .inl (fun _ => 0))
  | .long => some (1, .inr (.inl (fun _ => 0)))
  | .char => some (2, .inl (fun _ => 0))
  | _ => none
def mx_newa (t : ArrayType) (pc : Nat) (lv : List (Nat × Value)) (st : List Value) (σ : mj_S) (z : Nat) : Option mx_Rs := match st with
  | .int n :: r => (match mx_akind t with
    | some (k, f) => if 0 ≤ n then (if n.toNatClampNeg ≤ 65536 then (if σ.length < 1048576 then some (.inl ((pc + 2, lv, .ref σ.length :: r), σ ++ [.inl (k, n.toNatClampNeg, f)], z + n.toNatClampNeg)) else none) else none) else none
    | none => none)
  | _ => none
def mx_anew (tb : mx_Tb) (ix pc : Nat) (lv : List (Nat × Value)) (st : List Value) (σ : mj_S) (z : Nat) : Option mx_Rs := match st with
  | .int n :: r => (match tb.2.2.2.2.1 ix with
    | some k => if 0 ≤ n then (if n.toNatClampNeg ≤ 65536 then (if σ.length < 1048576 then some (.inl ((pc + 3, lv, .ref σ.length :: r), σ ++ [.inl (k, n.toNatClampNeg, .inr (.inr (.inr (.inr (fun _ => none)))))], z + n.toNatClampNeg)) else none) else none) else none
    | none => none)
  | _ => none
def mx_ret (rt : Option FieldType) (v : Value) : Bool := match rt, v with
  | some .int, .int _ => true
  | some .boolean, .int x => decide (x = 0) || decide (x = 1)
  | some .long, .long _ => true
  | some (.object _), .ref _ => true
  | some (.object _), .null => true
  | _, _ => false
/-- the receiver is of the class, or the call needs none -/
def mx_recv (kind ci : Nat) (vs : List Value) (σ : mj_S) : Bool := match kind with
  | 0 => true
  | k => (match vs with
    | .ref b :: _ => (match k with
      | 1 => if b < 1048576 then (match σ[b]? with
        | some (.inr (cj, _)) => decide (cj = ci)
        | _ => false) else false
      | _ => true)
    | _ => false)
/-- a call: the callee by the pool, how it's called, the receiver if it has one -/
def mx_call (mi : Nat → Option mx_I) (tb : mx_Tb) (kind ix pc : Nat) (lv : List (Nat × Value)) (st : List Value) (σ : mj_S) : Option mx_Rs := match tb.2.2.2.2.2.2.2.1 ix with
  | some y => (match mi y with
    | some I => if I.2.2.2.2.2.2.2.1 = kind then (if I.2.2.2.2.2.2.2.2.1 ≤ st.length then (if ((st.drop I.2.2.2.2.2.2.2.2.1).map fun v => v.category).sum ≤ 8 then (if mx_recv kind I.2.2.2.2.2.2.2.2.2.1 (st.take I.2.2.2.2.2.2.2.2.1).reverse σ = true then (if (lg_sl (st.take I.2.2.2.2.2.2.2.2.1).reverse).length ≤ I.2.2.1 then some (.inr (.inr (y, (st.take I.2.2.2.2.2.2.2.2.1).reverse, (pc, lv, st.drop I.2.2.2.2.2.2.2.2.1)))) else none) else none) else none) else none) else none
    | none => none)
  | none => none
def mx_step (mi : Nat → Option mx_I) (gt : mx_Gt) (nC : Nat) (I : mx_I) (f : mx_F) (σ : mj_S) (z : Nat) : Option mx_Rs := match I.2.2.2.2.2.1.lookup f.1 with
  | some (i, len) => (match i with
    | .getfield ix => if len = 3 then mx_ofF σ z (mx_get I.2.2.2.2.1 ix f.1 f.2.1 f.2.2 σ) else none
    | .putfield ix => if len = 3 then mx_of z (mx_put gt I.2.2.2.2.1 I.2.2.2.2.2.2.1 ix f.1 f.2.1 f.2.2 σ) else none
    | .iaload => if len = 1 then mx_ofF σ z (mx_ald gt 0 f.1 f.2.1 f.2.2 σ) else none
    | .laload => if len = 1 then mx_ofF σ z (mx_ald gt 1 f.1 f.2.1 f.2.2 σ) else none
    | .caload => if len = 1 then mx_ofF σ z (mx_ald gt 2 f.1 f.2.1 f.2.2 σ) else none
    | .aaload => if len = 1 then mx_ofF σ z (mx_ald gt 3 f.1 f.2.1 f.2.2 σ) else none
    | .arraylength => if len = 1 then mx_ofF σ z (mx_len gt f.1 f.2.1 f.2.2 σ) else none
    | .iastore => if len = 1 then mx_of z (mx_ast gt 0 f.1 f.2.1 f.2.2 σ) else none
    | .lastore => if len = 1 then mx_of z (mx_ast gt 1 f.1 f.2.1 f.2.2 σ) else none
    | .castore => if len = 1 then mx_of z (mx_ast gt 2 f.1 f.2.1 f.2.2 σ) else none
    | .aastore => if len = 1 then mx_of z (mx_ast gt 3 f.1 f.2.1 f.2.2 σ) else none
    | .new ix => if len = 3 then mx_new I.2.2.2.2.1 ix f.1 f.2.1 f.2.2 σ z else none
    | .newarray t => if len = 2 then mx_newa t f.1 f.2.1 f.2.2 σ z else none
    | .anewarray ix => if len = 3 then mx_anew I.2.2.2.2.1 ix f.1 f.2.1 f.2.2 σ z else none
    | .getstatic ix => if len = 3 then (match I.2.2.2.2.1.2.1 ix with
      | some v => some (.inl ((f.1 + 3, f.2.1, v :: f.2.2), σ, z))
      | none => none) else none
    | .ldc ix => if len = 2 then (match I.2.2.2.2.1.2.2.2.2.2.1 ix with
      | some v => some (.inl ((f.1 + 2, f.2.1, .int v :: f.2.2), σ, z))
      | none => none) else none
    | .ldc2_w ix => if len = 3 then (match I.2.2.2.2.1.2.2.2.2.2.2.1 ix with
      | some v => some (.inl ((f.1 + 3, f.2.1, .long v :: f.2.2), σ, z))
      | none => none) else none
    | .invokestatic ix => if len = 3 then mx_call mi I.2.2.2.2.1 0 ix f.1 f.2.1 f.2.2 σ else none
    | .invokevirtual ix => if len = 3 then mx_call mi I.2.2.2.2.1 1 ix f.1 f.2.1 f.2.2 σ else none
    | .invokespecial ix => if len = 3 then mx_call mi I.2.2.2.2.1 2 ix f.1 f.2.1 f.2.2 σ else none
    | .ireturn => if len = 1 then (match f.2.2 with
      | [.int x] => if mx_ret I.2.2.2.1 (.int x) = true then some (.inr (.inl (.inl (some (.int x))))) else none
      | _ => none) else none
    | .lreturn => if len = 1 then (match f.2.2 with
      | [.long x] => if mx_ret I.2.2.2.1 (.long x) = true then some (.inr (.inl (.inl (some (.long x))))) else none
      | _ => none) else none
    | .areturn => if len = 1 then (match f.2.2 with
      | [v] => if mj_isr v = true then (if mx_ret I.2.2.2.1 v = true then some (.inr (.inl (.inl (some v)))) else none) else none
      | _ => none) else none
    | .return_ => if len = 1 then (match f.2.2, I.2.2.2.1 with
      | [], none => some (.inr (.inl (.inl none)))
      | _, _ => none) else none
    | .athrow => if len = 1 then (match f.2.2, mx_hs I with
      | .ref a :: _, [] => some (.inr (.inl (.inr a)))
      | _, _ => none) else none
    | i => mx_ofF σ z (mx_p nC I.2.2.1 i len f.1 f.2.1 f.2.2))
  | none => none
/-- 'throw new X()', in one -/
def mx_exc (I : mx_I) (f : mx_F) (σ : mj_S) : Option mj_S := match I.2.2.2.2.2.1.lookup f.1, I.2.2.2.2.2.1.lookup (f.1 + 3), I.2.2.2.2.2.1.lookup (f.1 + 4), I.2.2.2.2.2.1.lookup (f.1 + 7), mx_hs I with
  | some (.new ix, 3), some (.dup, 1), some (.invokespecial ic, 3), some (.athrow, 1), [] => (match I.2.2.2.2.1.2.2.2.2.2.2.2.2.1 ix with
    | some (ci, jc) => if jc = ic then (if σ.length < 1048576 then (if (f.2.2.map fun v => v.category).sum ≤ 8 then some (σ ++ [.inr (ci, [])]) else none) else none) else none
    | none => none)
  | _, _, _, _, _ => none
def mx_hand (ct : Nat → Nat → Option Bool) (pc ci : Nat) : List (Nat × Nat × Nat × Nat) → Option Nat
  | [] => none
  | (a, b, h, x) :: t => if a ≤ pc ∧ pc < b then (match ct x ci with
      | some true => some h
      | some false => mx_hand ct pc ci t
      | none => none) else mx_hand ct pc ci t
/-- where a thrown cell is caught -/
def mx_catch (I : mx_I) (pc a : Nat) (σ : mj_S) : Option Nat := match σ[a]? with
  | some (.inr (ci, _)) => if a < 1048576 then mx_hand I.2.2.2.2.1.2.2.2.2.2.2.2.2.2.1 pc ci (mx_hs I) else none
  | _ => none
/-- a call of a method that only answers -/
def mx_pr (I : mx_I) (ix : Nat) (f : mx_F) : Option mx_F := match I.2.2.2.2.1.2.2.2.2.2.2.2.2.2.2 ix with
  | some (k, g) => if k ≤ f.2.2.length then (if ((f.2.2.drop k).map fun v => v.category).sum ≤ 8 then (match g (f.2.2.take k).reverse with
    | some v => some (f.1 + 3, f.2.1, v.toList ++ f.2.2.drop k)
    | none => none) else none) else none
  | none => none
def mx_prim (I : mx_I) (f : mx_F) : Option mx_F := match I.2.2.2.2.2.1.lookup f.1 with
  | some (.invokevirtual ix, 3) => mx_pr I (4 * ix) f
  | some (.invokestatic ix, 3) => mx_pr I (4 * ix + 1) f
  | some (.invokespecial ix, 3) => mx_pr I (4 * ix + 2) f
  | _ => none
/-- n: turns; d: how deep calls may go -/
def mx_run (mi : Nat → Option mx_I) (gt : mx_Gt) (nC : Nat) : Nat → Nat → mx_I → mx_F → mj_S → Nat → Option (mj_O × mj_S × Nat)
  | 0, _, _, _, _, _ => none
  | n + 1, d, I, f, σ, z => match mx_step mi gt nC I f σ z with
    | none => (match mx_exc I f σ with
      | some σ' => if 6 ≤ d then some (.inr σ.length, σ', z + 6) else none
      | none => (match mx_prim I f with
        | some f' => if 5 ≤ d then mx_run mi gt nC n d I f' σ z else none
        | none => none))
    | some (.inl (f', σ', z')) => mx_run mi gt nC n d I f' σ' z'
    | some (.inr (.inl o)) => some (o, σ, z)
    | some (.inr (.inr (y, vs, g))) => (match d with
      | 0 => none
      | d' + 1 => (match mi y with
        | none => none
        | some J => (match mx_run mi gt nC n d' J (0, lv_args 0 vs, []) σ z with
          | none => none
          | some (.inl r, σ', z') => mx_run mi gt nC n (d' + 1) I (g.1 + 3, g.2.1, r.toList ++ g.2.2) σ' z'
          | some (.inr a, σ', z') => (match mx_hs I with
            | [] => some (.inr a, σ', z')
            | _ :: _ => (match mx_catch I g.1 a σ' with
              | some h => mx_run mi gt nC n (d' + 1) I (h, g.2.1, [.ref a]) σ' z'
              | none => none)))))
/-- the run from a frame ends so -/
def mx_R (mi : Nat → Option mx_I) (gt : mx_Gt) (nC d : Nat) (I : mx_I) (f : mx_F) (σ : mj_S) (z : Nat) (o : mj_O) (σ' : mj_S) (z' : Nat) : Prop := ∃ n, mx_run mi gt nC n d I f σ z = some (o, σ', z')
section MXM
variable {mi : Nat → Option mx_I} {gt : mx_Gt} {nC : Nat}
theorem mx_mono1 : ∀ {n d : Nat} {I : mx_I} {f : mx_F} {σ : mj_S} {z : Nat} {r : mj_O × mj_S × Nat}, mx_run mi gt nC n d I f σ z = some r → mx_run mi gt nC (n + 1) d I f σ z = some r
  | 0, d, I, f, σ, z, r, h => by cases h
  | n + 1, d, I, f, σ, z, r, h => by
    rw [mx_run] at h
    rw [mx_run]
    cases hs : mx_step mi gt nC I f σ z with
    | none =>
      rw [hs] at h
      simp only at h ⊢
      cases he : mx_exc I f σ with
      | none =>
        rw [he] at h
        simp only at h ⊢
        cases hp : mx_prim I f with
        | none => rw [hp] at h; cases h
        | some f' =>
          rw [hp] at h
          simp only at h ⊢
          obtain ⟨h5, h⟩ := mx_if h
          rw [if_pos h5]
          exact mx_mono1 h
      | some q =>
        rw [he] at h
        simp only at h ⊢
        exact h
    | some x =>
      rw [hs] at h
      rcases x with ⟨f', σ', z'⟩ | o | ⟨y, vs, g⟩
      · exact mx_mono1 h
      · exact h
      · cases d with
        | zero => cases h
        | succ d' =>
          simp only at h ⊢
          cases hm : mi y with
          | none => rw [hm] at h; cases h
          | some J =>
            rw [hm] at h
            simp only at h ⊢
            cases hr : mx_run mi gt nC n d' J (0, lv_args 0 vs, []) σ z with
            | none => rw [hr] at h; cases h
            | some q =>
              rw [hr] at h
              rw [mx_mono1 hr]
              obtain ⟨o, σ', z'⟩ := q
              cases o with
              | inl r' => exact mx_mono1 h
              | inr a =>
                simp only at h ⊢
                split at h
                · exact h
                · split at h
                  · exact mx_mono1 h
                  · cases h
theorem mx_mono {n k d : Nat} {I : mx_I} {f : mx_F} {σ : mj_S} {z : Nat} {r : mj_O × mj_S × Nat} (h : mx_run mi gt nC n d I f σ z = some r) : mx_run mi gt nC (n + k) d I f σ z = some r := by
  induction k with
  | zero => exact h
  | succ k ih => exact mx_mono1 ih
/-- one step, many steps, an end, a call -/
theorem mx_R.step {d : Nat} {I : mx_I} {f f' : mx_F} {σ σ1 : mj_S} {z z1 : Nat} {o : mj_O} {σ' : mj_S} {z' : Nat} (h : mx_step mi gt nC I f σ z = some (.inl (f', σ1, z1))) (k : mx_R mi gt nC d I f' σ1 z1 o σ' z') : mx_R mi gt nC d I f σ z o σ' z' := by
  obtain ⟨n, hn⟩ := k
  exact ⟨n + 1, by rw [mx_run, h]; exact hn⟩
def mx_seg (mi : Nat → Option mx_I) (gt : mx_Gt) (nC : Nat) (I : mx_I) : Nat → mx_F → mj_S → Nat → Option (mx_F × mj_S × Nat)
  | 0, f, σ, z => some (f, σ, z)
  | n + 1, f, σ, z => match mx_step mi gt nC I f σ z with
    | some (.inl (f', σ', z')) => mx_seg mi gt nC I n f' σ' z'
    | _ => none
theorem mx_R.seg {d : Nat} {I : mx_I} (n : Nat) {f f' : mx_F} {σ σ1 : mj_S} {z z1 : Nat} {o : mj_O} {σ' : mj_S} {z' : Nat} (h : mx_seg mi gt nC I n f σ z = some (f', σ1, z1)) (k : mx_R mi gt nC d I f' σ1 z1 o σ' z') : mx_R mi gt nC d I f σ z o σ' z' := by
  induction n generalizing f σ z with
  | zero => cases h; exact k
  | succ n ih =>
    rw [mx_seg] at h
    split at h
    · rename_i hs
      exact mx_R.step hs (ih h)
    · cases h
theorem mx_R.fin {d : Nat} {I : mx_I} {f : mx_F} {σ : mj_S} {z : Nat} {o : mj_O} (h : mx_step mi gt nC I f σ z = some (.inr (.inl o))) : mx_R mi gt nC d I f σ z o σ z := ⟨1, by rw [mx_run, h]⟩
theorem mx_R.call {d : Nat} {I J : mx_I} {f g : mx_F} {σ σ1 : mj_S} {z z1 y : Nat} {vs : List Value} {r : Option Value} {o : mj_O} {σ' : mj_S} {z' : Nat} (h : mx_step mi gt nC I f σ z = some (.inr (.inr (y, vs, g)))) (hy : mi y = some J)
    (k1 : mx_R mi gt nC d J (0, lv_args 0 vs, []) σ z (.inl r) σ1 z1) (k2 : mx_R mi gt nC (d + 1) I (g.1 + 3, g.2.1, r.toList ++ g.2.2) σ1 z1 o σ' z') : mx_R mi gt nC (d + 1) I f σ z o σ' z' := by
  obtain ⟨n1, h1⟩ := k1
  obtain ⟨n2, h2⟩ := k2
  refine ⟨n1 + n2 + 1, ?_⟩
  rw [mx_run, h]
  simp only [hy]
  rw [mx_mono (k := n2) h1]
  have h3 := mx_mono (k := n1) h2
  rw [Nat.add_comm] at h3
  exact h3
theorem mx_R.callT {d : Nat} {I J : mx_I} {f g : mx_F} {σ σ1 : mj_S} {z z1 y a : Nat} {vs : List Value} (h : mx_step mi gt nC I f σ z = some (.inr (.inr (y, vs, g)))) (hy : mi y = some J) (hh : mx_hs I = [])
    (k1 : mx_R mi gt nC d J (0, lv_args 0 vs, []) σ z (.inr a) σ1 z1) : mx_R mi gt nC (d + 1) I f σ z (.inr a) σ1 z1 := by
  obtain ⟨n1, h1⟩ := k1
  refine ⟨n1 + 1, ?_⟩
  rw [mx_run, h]
  simp only [hy]
  rw [h1]
  simp only [hh]
theorem mx_R.deep {d : Nat} {I : mx_I} {f : mx_F} {σ : mj_S} {z : Nat} {o : mj_O} {σ' : mj_S} {z' : Nat} (h : mx_R mi gt nC d I f σ z o σ' z') : mx_R mi gt nC (d + 1) I f σ z o σ' z' := by
  obtain ⟨n, hn⟩ := h
  refine ⟨n, ?_⟩
  induction n generalizing d I f σ z o σ' z' with
  | zero => cases hn
  | succ n ih =>
    rw [mx_run] at hn
    rw [mx_run]
    cases hs : mx_step mi gt nC I f σ z with
    | none =>
      rw [hs] at hn
      simp only at hn ⊢
      cases he : mx_exc I f σ with
      | none =>
        rw [he] at hn
        simp only at hn ⊢
        cases hp : mx_prim I f with
        | none => rw [hp] at hn; cases hn
        | some f' =>
          rw [hp] at hn
          simp only at hn ⊢
          obtain ⟨h5, hn⟩ := mx_if hn
          rw [if_pos (by omega)]
          exact ih hn
      | some q =>
        rw [he] at hn
        simp only at hn ⊢
        obtain ⟨h6, hn⟩ := mx_if hn
        rw [if_pos (by omega)]
        exact hn
    | some x =>
      rw [hs] at hn
      rcases x with ⟨f', σ1, z1⟩ | o1 | ⟨y, vs, g⟩
      · exact ih hn
      · exact hn
      · cases d with
        | zero => cases hn
        | succ d' =>
          simp only at hn ⊢
          cases hm : mi y with
          | none => rw [hm] at hn; cases hn
          | some J =>
            rw [hm] at hn
            simp only at hn ⊢
            cases hr : mx_run mi gt nC n d' J (0, lv_args 0 vs, []) σ z with
            | none => rw [hr] at hn; cases hn
            | some q =>
              obtain ⟨o1, σ1, z1⟩ := q
              rw [hr] at hn
              rw [ih hr]
              cases o1 with
              | inl r' => exact ih hn
              | inr a =>
                simp only at hn ⊢
                split at hn
                · exact hn
                · split at hn
                  · exact ih hn
                  · cases hn
theorem mx_R.exc {d : Nat} {I : mx_I} {f : mx_F} {σ σ1 : mj_S} {z : Nat} (h : mx_step mi gt nC I f σ z = none) (he : mx_exc I f σ = some σ1) (h6 : 6 ≤ d) : mx_R mi gt nC d I f σ z (.inr σ.length) σ1 (z + 6) :=
  ⟨1, by rw [mx_run, h]; simp only [he]; rw [if_pos h6]⟩
theorem mx_R.prim {d : Nat} {I : mx_I} {f f' : mx_F} {σ : mj_S} {z : Nat} {o : mj_O} {σ' : mj_S} {z' : Nat} (h : mx_step mi gt nC I f σ z = none) (he : mx_exc I f σ = none) (hp : mx_prim I f = some f') (h5 : 5 ≤ d) (k : mx_R mi gt nC d I f' σ z o σ' z') : mx_R mi gt nC d I f σ z o σ' z' := by
  obtain ⟨n, hn⟩ := k
  exact ⟨n + 1, by rw [mx_run, h]; simp only [he, hp]; rw [if_pos h5]; exact hn⟩
theorem mx_R.caught {d : Nat} {I J : mx_I} {f g : mx_F} {σ σ1 : mj_S} {z z1 y a w : Nat} {vs : List Value} {hh : Nat × Nat × Nat × Nat} {ht : List (Nat × Nat × Nat × Nat)} {o : mj_O} {σ' : mj_S} {z' : Nat} (h : mx_step mi gt nC I f σ z = some (.inr (.inr (y, vs, g)))) (hy : mi y = some J) (hs : mx_hs I = hh :: ht)
    (k1 : mx_R mi gt nC d J (0, lv_args 0 vs, []) σ z (.inr a) σ1 z1) (hc : mx_catch I g.1 a σ1 = some w) (k2 : mx_R mi gt nC (d + 1) I (w, g.2.1, [.ref a]) σ1 z1 o σ' z') : mx_R mi gt nC (d + 1) I f σ z o σ' z' := by
  obtain ⟨n1, h1⟩ := k1
  obtain ⟨n2, h2⟩ := k2
  refine ⟨n1 + n2 + 1, ?_⟩
  rw [mx_run, h]
  simp only [hy]
  rw [mx_mono (k := n2) h1]
  simp only [hs, hc]
  have h3 := mx_mono (k := n1) h2
  rw [Nat.add_comm] at h3
  exact h3
end MXM
