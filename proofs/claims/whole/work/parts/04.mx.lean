/-! The interpreter. A frame: pc, locals, operands. -/
abbrev mx_F : Type := Nat × List (Nat × Value) × List Value
def mx_k (len n pc : Nat) (lv : List (Nat × Value)) (st : List Value) (v : Value) : Option mx_F := if len = n then some (pc + n, lv, v :: st) else none
def mx_i1 (pc : Nat) (lv : List (Nat × Value)) (st : List Value) (f : Int32 → Value) : Option mx_F := match st with
  | .int x :: t => some (pc + 1, lv, f x :: t)
  | _ => none
def mx_i2 (pc : Nat) (lv : List (Nat × Value)) (st : List Value) (f : Int32 → Int32 → Value) : Option mx_F := match st with
  | .int y :: .int x :: t => some (pc + 1, lv, f x y :: t)
  | _ => none
def mx_l1 (pc : Nat) (lv : List (Nat × Value)) (st : List Value) (f : Int64 → Value) : Option mx_F := match st with
  | .long x :: t => some (pc + 1, lv, f x :: t)
  | _ => none
def mx_l2 (pc : Nat) (lv : List (Nat × Value)) (st : List Value) (f : Int64 → Int64 → Value) : Option mx_F := match st with
  | .long y :: .long x :: t => some (pc + 1, lv, f x y :: t)
  | _ => none
def mx_li (pc : Nat) (lv : List (Nat × Value)) (st : List Value) (f : Int64 → Int32 → Value) : Option mx_F := match st with
  | .int y :: .long x :: t => some (pc + 1, lv, f x y :: t)
  | _ => none
def mx_ld (ok : Value → Bool) (n i pc : Nat) (lv : List (Nat × Value)) (st : List Value) : Option mx_F := match lv.lookup i with
  | some v => if ok v = true then some (pc + n, lv, v :: st) else none
  | none => none
def mx_st (ok : Value → Bool) (n i nL pc : Nat) (lv : List (Nat × Value)) (st : List Value) : Option mx_F := match st with
  | v :: t => if ok v = true then (if i < nL then some (pc + n, mj_s1 i v lv, t) else none) else none
  | [] => none
def mx_st2 (n i nL pc : Nat) (lv : List (Nat × Value)) (st : List Value) : Option mx_F := match st with
  | .long x :: t => if i + 1 < nL then some (pc + n, mj_s2 i (.long x) lv, t) else none
  | _ => none
def mx_isi : Value → Bool
  | .int _ => true
  | _ => false
def mx_isl : Value → Bool
  | .long _ => true
  | _ => false
def mx_c1 (v : Value) : Bool := match v with
  | .long _ => false
  | .double _ => false
  | _ => true
def mx_br (b : Bool) (off : Int) (pc : Nat) (lv : List (Nat × Value)) (st : List Value) : Option mx_F := if 0 ≤ (pc : Int) + off then some (cond b ((pc : Int) + off).toNat (pc + 3), lv, st) else none
def mx_b1 (off : Int) (pc : Nat) (lv : List (Nat × Value)) (st : List Value) (f : Int32 → Bool) : Option mx_F := match st with
  | .int x :: t => mx_br (f x) off pc lv t
  | _ => none
def mx_b2 (off : Int) (pc : Nat) (lv : List (Nat × Value)) (st : List Value) (f : Int32 → Int32 → Bool) : Option mx_F := match st with
  | .int y :: .int x :: t => mx_br (f x y) off pc lv t
  | _ => none
/-- null, or one of the nC constants -/
def mx_cst (nC : Nat) (v : Value) : Option (Option Nat) := match v with
  | .null => some none
  | .ref i => if 1048576 ≤ i ∧ i < 1048576 + nC then some (some i) else none
  | _ => none
def mx_ba (nC : Nat) (eq : Bool) (off : Int) (pc : Nat) (lv : List (Nat × Value)) (st : List Value) : Option mx_F := match st with
  | b :: a :: t => match mx_cst nC a, mx_cst nC b with
    | some x, some y => mx_br (cond eq (decide (x = y)) (!decide (x = y))) off pc lv t
    | _, _ => none
  | _ => none
def mx_bn (isn : Bool) (off : Int) (pc : Nat) (lv : List (Nat × Value)) (st : List Value) : Option mx_F := match st with
  | .null :: t => mx_br isn off pc lv t
  | .ref _ :: t => mx_br (!isn) off pc lv t
  | _ => none
def mx_c (c : ClassFile.Cond) (x y : Int32) : Bool := match c with
  | .eq => decide (x = y)
  | .ne => !decide (x = y)
  | .lt => decide (x < y)
  | .ge => decide (y ≤ x)
  | .gt => decide (y < x)
  | .le => decide (x ≤ y)

/-- the instructions that touch the frame alone; nC: how many constants there are -/
def mx_p (nC nL : Nat) (i : Instr) (len pc : Nat) (lv : List (Nat × Value)) (st : List Value) : Option mx_F := match i with
  | .iconst n => mx_k len 1 pc lv st (.int (Int32.ofInt n))
  | .bipush n => mx_k len 2 pc lv st (.int ((Int8.ofInt n).toInt32))
  | .sipush n => mx_k len 3 pc lv st (.int ((Int16.ofInt n).toInt32))
  | .lconst n => mx_k len 1 pc lv st (.long (Int64.ofNat (n : Nat)))
  | .aconst_null => mx_k len 1 pc lv st .null
  | .iload_n n => if len = 1 then mx_ld mx_isi 1 (n : Nat) pc lv st else none
  | .iload i => if len = 2 then mx_ld mx_isi 2 i pc lv st else none
  | .lload_n n => if len = 1 then mx_ld mx_isl 1 (n : Nat) pc lv st else none
  | .lload i => if len = 2 then mx_ld mx_isl 2 i pc lv st else none
  | .aload_n n => if len = 1 then mx_ld mj_isr 1 (n : Nat) pc lv st else none
  | .aload i => if len = 2 then mx_ld mj_isr 2 i pc lv st else none
  | .istore_n n => if len = 1 then mx_st mx_isi 1 (n : Nat) nL pc lv st else none
  | .istore i => if len = 2 then mx_st mx_isi 2 i nL pc lv st else none
  | .lstore_n n => if len = 1 then mx_st2 1 (n : Nat) nL pc lv st else none
  | .lstore i => if len = 2 then mx_st2 2 i nL pc lv st else none
  | .astore_n n => if len = 1 then mx_st mj_isr 1 (n : Nat) nL pc lv st else none
  | .astore i => if len = 2 then mx_st mj_isr 2 i nL pc lv st else none
  | .iinc i n => if len = 3 then (match lv.lookup i with
    | some (.int x) => if i < nL then some (pc + 3, mj_s1 i (.int (x + Int32.ofInt n)) lv, st) else none
    | _ => none) else none
  | .iadd => if len = 1 then mx_i2 pc lv st (fun x y => .int (x + y)) else none
  | .isub => if len = 1 then mx_i2 pc lv st (fun x y => .int (x - y)) else none
  | .imul => if len = 1 then mx_i2 pc lv st (fun x y => .int (x * y)) else none
  | .iand => if len = 1 then mx_i2 pc lv st (fun x y => .int (x &&& y)) else none
  | .ior => if len = 1 then mx_i2 pc lv st (fun x y => .int (x ||| y)) else none
  | .ixor => if len = 1 then mx_i2 pc lv st (fun x y => .int (x ^^^ y)) else none
  | .ladd => if len = 1 then mx_l2 pc lv st (fun x y => .long (x + y)) else none
  | .lsub => if len = 1 then mx_l2 pc lv st (fun x y => .long (x - y)) else none
  | .land => if len = 1 then mx_l2 pc lv st (fun x y => .long (x &&& y)) else none
  | .lor => if len = 1 then mx_l2 pc lv st (fun x y => .long (x ||| y)) else none
  | .lxor => if len = 1 then mx_l2 pc lv st (fun x y => .long (x ^^^ y)) else none
  | .lcmp => if len = 1 then mx_l2 pc lv st (fun x y => .int (lg_cmp x y)) else none
  | .idiv => if len = 1 then (match st with
    | .int y :: .int x :: t => if y = 0 then none else some (pc + 1, lv, .int (x / y) :: t)
    | _ => none) else none
  | .irem => if len = 1 then (match st with
    | .int y :: .int x :: t => if y = 0 then none else some (pc + 1, lv, .int (x - x / y * y) :: t)
    | _ => none) else none
  | .ineg => if len = 1 then mx_i1 pc lv st (fun x => .int (-x)) else none
  | .i2l => if len = 1 then mx_i1 pc lv st (fun x => .long (x.toInt64)) else none
  | .i2c => if len = 1 then mx_i1 pc lv st (fun x => .int ((x.toUInt32 % 65536).toInt32)) else none
  | .l2i => if len = 1 then mx_l1 pc lv st (fun x => .int (x.toInt32)) else none
  | .lushr => if len = 1 then mx_li pc lv st (fun x y => .long ((x.toUInt64 >>> (y.toInt64.toUInt64 &&& Int64.toUInt64 63)).toInt64)) else none
  | .lshr => if len = 1 then mx_li pc lv st (fun x y => .long (x >>> (y.toInt64 &&& 63))) else none
  | .lshl => if len = 1 then mx_li pc lv st (fun x y => .long (x <<< (y.toInt64 &&& 63))) else none
  | .dup => if len = 1 then (match st with
    | a :: t => if mx_c1 a = true then some (pc + 1, lv, a :: a :: t) else none
    | _ => none) else none
  | .pop => if len = 1 then (match st with
    | a :: t => if mx_c1 a = true then some (pc + 1, lv, t) else none
    | _ => none) else none
  | .dup_x1 => if len = 1 then (match st with
    | a :: b :: t => if mx_c1 a = true ∧ mx_c1 b = true then some (pc + 1, lv, a :: b :: a :: t) else none
    | _ => none) else none
  | .dup_x2 => if len = 1 then (match st with
    | a :: b :: d :: t => if mx_c1 a = true ∧ mx_c1 b = true ∧ mx_c1 d = true then some (pc + 1, lv, a :: b :: d :: a :: t) else none
    | _ => none) else none
  | .dup2 => if len = 1 then (match st with
    | a :: b :: t => if mx_c1 a = true ∧ mx_c1 b = true then some (pc + 1, lv, a :: b :: a :: b :: t) else none
    | _ => none) else none
  | .ifCond c off => if len = 3 then mx_b1 off pc lv st (fun x => mx_c c x 0) else none
  | .if_icmp c off => if len = 3 then mx_b2 off pc lv st (fun x y => mx_c c x y) else none
  | .if_acmp c off => if len = 3 then mx_ba nC (decide (c = .eq)) off pc lv st else none
  | .ifnull off => if len = 3 then mx_bn true off pc lv st else none
  | .ifnonnull off => if len = 3 then mx_bn false off pc lv st else none
  | .goto off => if len = 3 then mx_br true off pc lv st else none
  | .lookupswitch d ps => match st with
    | .int x :: t => if (ps.toList.zip (ps.toList.drop 1)).all (fun (a, next) => a.1 < next.1) = true then (if 0 ≤ (pc : Int) + Op.lookupswitch.offset ps.toList d x.toInt then some (((pc : Int) + Op.lookupswitch.offset ps.toList d x.toInt).toNat, lv, t) else none) else none
    | _ => none
  | .tableswitch d lo hi offs => match st with
    | .int x :: t => if x.toInt < lo ∨ hi < x.toInt then (if 0 ≤ (pc : Int) + d then some (((pc : Int) + d).toNat, lv, t) else none) else (match offs[(x.toInt - lo).toNat]? with
      | some off => if 0 ≤ (pc : Int) + off then some (((pc : Int) + off).toNat, lv, t) else none
      | none => none)
    | _ => none
  | _ => none
section MX
variable {K : mj_G → State → Prop} {p : Program} {l : Launch} {e : Env} {R : Room} {s : State} {m : MethodId} {args : Array Value} {below : List Frame} {meth : Method} {c : Code} {Q : State → Prop}
variable {G : mj_G} {cl : List vw_C} {tk : List FieldType} {nL kc ks : Nat} {cc : ByteArray} {pc : Nat} {lv : List (Nat × Value)} {st : List Value} {σ : mj_S} {own : String}
theorem mx_k_s {len n : Nat} {v : Value} {f : mx_F} (h : mx_k len n pc lv st v = some f) : len = n ∧ f = (pc + n, lv, v :: st) := by
  unfold mx_k at h
  split at h
  · exact ⟨by assumption, (Option.some.inj h).symm⟩
  · cases h
theorem mx_if {α : Type} {c : Prop} {d : Decidable c} {x : Option α} {y : α} (h : (@ite _ c d x none) = some y) : c ∧ x = some y := by
  by_cases hc : c
  · rw [if_pos hc] at h; exact ⟨hc, h⟩
  · rw [if_neg hc] at h; cases h
theorem mx_i1_s {g : Int32 → Value} {f : mx_F} (h : mx_i1 pc lv st g = some f) : ∃ x t, st = .int x :: t ∧ f = (pc + 1, lv, g x :: t) := by
  unfold mx_i1 at h
  split at h
  · exact ⟨_, _, rfl, (Option.some.inj h).symm⟩
  · cases h
theorem mx_i2_s {g : Int32 → Int32 → Value} {f : mx_F} (h : mx_i2 pc lv st g = some f) : ∃ x y t, st = .int y :: .int x :: t ∧ f = (pc + 1, lv, g x y :: t) := by
  unfold mx_i2 at h
  split at h
  · exact ⟨_, _, _, rfl, (Option.some.inj h).symm⟩
  · cases h
theorem mx_l1_s {g : Int64 → Value} {f : mx_F} (h : mx_l1 pc lv st g = some f) : ∃ x t, st = .long x :: t ∧ f = (pc + 1, lv, g x :: t) := by
  unfold mx_l1 at h
  split at h
  · exact ⟨_, _, rfl, (Option.some.inj h).symm⟩
  · cases h
theorem mx_l2_s {g : Int64 → Int64 → Value} {f : mx_F} (h : mx_l2 pc lv st g = some f) : ∃ x y t, st = .long y :: .long x :: t ∧ f = (pc + 1, lv, g x y :: t) := by
  unfold mx_l2 at h
  split at h
  · exact ⟨_, _, _, rfl, (Option.some.inj h).symm⟩
  · cases h
theorem mx_li_s {g : Int64 → Int32 → Value} {f : mx_F} (h : mx_li pc lv st g = some f) : ∃ x y t, st = .int y :: .long x :: t ∧ f = (pc + 1, lv, g x y :: t) := by
  unfold mx_li at h
  split at h
  · exact ⟨_, _, _, rfl, (Option.some.inj h).symm⟩
  · cases h
theorem mx_ld_s {ok : Value → Bool} {n i : Nat} {f : mx_F} (h : mx_ld ok n i pc lv st = some f) : ∃ v, lv.lookup i = some v ∧ ok v = true ∧ f = (pc + n, lv, v :: st) := by
  unfold mx_ld at h
  split at h
  · obtain ⟨h1, h2⟩ := mx_if h
    exact ⟨_, by assumption, h1, (Option.some.inj h2).symm⟩
  · cases h
theorem mx_st_s {ok : Value → Bool} {n i : Nat} {f : mx_F} (h : mx_st ok n i nL pc lv st = some f) : ∃ v t, st = v :: t ∧ ok v = true ∧ i < nL ∧ f = (pc + n, mj_s1 i v lv, t) := by
  unfold mx_st at h
  split at h
  · obtain ⟨h1, h2⟩ := mx_if h
    obtain ⟨h3, h4⟩ := mx_if h2
    exact ⟨_, _, rfl, h1, h3, (Option.some.inj h4).symm⟩
  · cases h
theorem mx_st2_s {n i : Nat} {f : mx_F} (h : mx_st2 n i nL pc lv st = some f) : ∃ x t, st = .long x :: t ∧ i + 1 < nL ∧ f = (pc + n, mj_s2 i (.long x) lv, t) := by
  unfold mx_st2 at h
  split at h
  · obtain ⟨h1, h2⟩ := mx_if h
    exact ⟨_, _, rfl, h1, (Option.some.inj h2).symm⟩
  · cases h
theorem mx_isi_s {v : Value} (h : mx_isi v = true) : ∃ x, v = .int x := by cases v <;> first | exact ⟨_, rfl⟩ | cases h
theorem mx_isl_s {v : Value} (h : mx_isl v = true) : ∃ x, v = .long x := by cases v <;> first | exact ⟨_, rfl⟩ | cases h
theorem mx_c1_s {v : Value} (h : mx_c1 v = true) : v.category = 1 := by cases v <;> first | rfl | cases h
theorem mx_br_s {b : Bool} {off : Int} {f : mx_F} (h : mx_br b off pc lv st = some f) : ∃ tgt : Nat, (pc : Int) + off = (tgt : Int) ∧ f = (cond b tgt (pc + 3), lv, st) := by
  unfold mx_br at h
  obtain ⟨h1, h2⟩ := mx_if h
  exact ⟨((pc : Int) + off).toNat, (Int.toNat_of_nonneg h1).symm, (Option.some.inj h2).symm⟩
theorem mx_cst_s {nC : Nat} {v : Value} {r : Option Nat} (h : mx_cst nC v = some r) : v = va_rf r ∧ ∀ i, r = some i → 1048576 ≤ i ∧ i < 1048576 + nC := by
  unfold mx_cst at h
  split at h
  · cases h
    exact ⟨rfl, fun i hi => by cases hi⟩
  · obtain ⟨h1, h2⟩ := mx_if h
    cases h2
    exact ⟨rfl, fun i hi => by cases hi; exact h1⟩
  · cases h
/-- the constants lie at different places -/
def mx_inj (G : mj_G) (nC : Nat) : Prop := ∀ i j : Nat, i < nC → j < nC → G.2.2.2 i = G.2.2.2 j → i = j
theorem mx_inj_r {G : mj_G} {nC : Nat} (h : mx_inj G nC) {x y : Option Nat} (hx : ∀ i, x = some i → 1048576 ≤ i ∧ i < 1048576 + nC) (hy : ∀ i, y = some i → 1048576 ≤ i ∧ i < 1048576 + nC) : x.map (mj_ad G) = y.map (mj_ad G) → x = y := by
  intro e
  cases x with
  | none => cases y with
    | none => rfl
    | some j => cases e
  | some i => cases y with
    | none => cases e
    | some j =>
      obtain ⟨a1, a2⟩ := hx i rfl
      obtain ⟨b1, b2⟩ := hy j rfl
      have e2 : mj_ad G i = mj_ad G j := Option.some.inj e
      have e3 : mj_ad G i = G.2.2.2 (i - 1048576) := by simp [mj_ad, Nat.not_lt.mpr a1]
      have e4 : mj_ad G j = G.2.2.2 (j - 1048576) := by simp [mj_ad, Nat.not_lt.mpr b1]
      rw [e3, e4] at e2
      have e5 := h _ _ (by omega) (by omega) e2
      have e6 : i = j := by omega
      rw [e6]
theorem mx_cT {α : Type} {b : Bool} {x y : α} (h : b = true) : cond b x y = x := by rw [h]; rfl
theorem mx_cF {α : Type} {b : Bool} {x y : α} (h : ¬ b = true) : cond b x y = y := by cases b; rfl; exact absurd rfl h
set_option maxHeartbeats 1000000 in
theorem mx_b1_s (hx : p.tables.exec = Jvm.exec ∧ c.code = cc) {cd : ClassFile.Cond} {off : Int} {f : mx_F} (hdg : decode cc pc = .ok (.ifCond cd off, 3)) (h : mx_b1 off pc lv st (fun x => mx_c cd x 0) = some f)
    (k : mj_W G cl nL p l e R s m args below meth c Q kc ks f.1 f.2.1 f.2.2 σ) : mj_W G cl nL p l e R s m args below meth c Q kc ks pc lv st σ := by
  unfold mx_b1 at h
  split at h
  · obtain ⟨tgt, ht, rfl⟩ := mx_br_s h
    cases cd
    · exact mj_if_eq hx hdg ht (fun q => by rw [mx_cT (by simpa [mx_c] using q)] at k; exact k) (fun q => by rw [mx_cF (by simpa [mx_c] using q)] at k; exact k)
    · exact mj_if_ne hx hdg ht (fun q => by rw [mx_cT (by simpa [mx_c] using q)] at k; exact k) (fun q => by rw [mx_cF (by simpa [mx_c] using q)] at k; exact k)
    · exact mj_if_lt hx hdg ht (fun q => by rw [mx_cT (by simpa [mx_c] using q)] at k; exact k) (fun q => by rw [mx_cF (by simpa [mx_c] using q)] at k; exact k)
    · exact mj_if_ge hx hdg ht (fun q => by rw [mx_cT (by simpa [mx_c] using q)] at k; exact k) (fun q => by rw [mx_cF (by simpa [mx_c] using q)] at k; exact k)
    · exact mj_if_gt hx hdg ht (fun q => by rw [mx_cT (by simpa [mx_c] using q)] at k; exact k) (fun q => by rw [mx_cF (by simpa [mx_c] using q)] at k; exact k)
    · exact mj_if_le hx hdg ht (fun q => by rw [mx_cT (by simpa [mx_c] using q)] at k; exact k) (fun q => by rw [mx_cF (by simpa [mx_c] using q)] at k; exact k)
  · cases h
set_option maxHeartbeats 1000000 in
theorem mx_b2_s (hx : p.tables.exec = Jvm.exec ∧ c.code = cc) {cd : ClassFile.Cond} {off : Int} {f : mx_F} (hdg : decode cc pc = .ok (.if_icmp cd off, 3)) (h : mx_b2 off pc lv st (fun x y => mx_c cd x y) = some f)
    (k : mj_W G cl nL p l e R s m args below meth c Q kc ks f.1 f.2.1 f.2.2 σ) : mj_W G cl nL p l e R s m args below meth c Q kc ks pc lv st σ := by
  unfold mx_b2 at h
  split at h
  · obtain ⟨tgt, ht, rfl⟩ := mx_br_s h
    cases cd
    · exact mj_icmp_eq hx hdg ht (fun q => by rw [mx_cT (by simpa [mx_c] using q)] at k; exact k) (fun q => by rw [mx_cF (by simpa [mx_c] using q)] at k; exact k)
    · exact mj_icmp_ne hx hdg ht (fun q => by rw [mx_cT (by simpa [mx_c] using q)] at k; exact k) (fun q => by rw [mx_cF (by simpa [mx_c] using q)] at k; exact k)
    · exact mj_icmp_lt hx hdg ht (fun q => by rw [mx_cT (by simpa [mx_c] using q)] at k; exact k) (fun q => by rw [mx_cF (by simpa [mx_c] using q)] at k; exact k)
    · exact mj_icmp_ge hx hdg ht (fun q => by rw [mx_cT (by simpa [mx_c] using q)] at k; exact k) (fun q => by rw [mx_cF (by simpa [mx_c] using q)] at k; exact k)
    · exact mj_icmp_gt hx hdg ht (fun q => by rw [mx_cT (by simpa [mx_c] using q)] at k; exact k) (fun q => by rw [mx_cF (by simpa [mx_c] using q)] at k; exact k)
    · exact mj_icmp_le hx hdg ht (fun q => by rw [mx_cT (by simpa [mx_c] using q)] at k; exact k) (fun q => by rw [mx_cF (by simpa [mx_c] using q)] at k; exact k)
  · cases h
theorem mx_ba_s (hx : p.tables.exec = Jvm.exec ∧ c.code = cc) {nC : Nat} (hj : mx_inj G nC) {cd : ACond} {off : Int} {f : mx_F} (hdg : decode cc pc = .ok (.if_acmp cd off, 3)) (h : mx_ba nC (decide (cd = .eq)) off pc lv st = some f)
    (k : mj_W G cl nL p l e R s m args below meth c Q kc ks f.1 f.2.1 f.2.2 σ) : mj_W G cl nL p l e R s m args below meth c Q kc ks pc lv st σ := by
  unfold mx_ba at h
  split at h
  · split at h
    · rename_i hxx hyy
      obtain ⟨rfl, ha⟩ := mx_cst_s hxx
      obtain ⟨rfl, hb⟩ := mx_cst_s hyy
      obtain ⟨tgt, ht, rfl⟩ := mx_br_s h
      cases cd
      · exact mj_acmp_eq hx _ _ hdg ht (mx_inj_r hj ha hb) (fun q => by rw [mx_cT (by simpa using q)] at k; exact k) (fun q => by rw [mx_cF (by simpa using q)] at k; exact k)
      · exact mj_acmp_ne hx _ _ hdg ht (mx_inj_r hj ha hb) (fun q => by rw [mx_cT (by simpa using q)] at k; exact k) (fun q => by rw [mx_cF (by simpa using q)] at k; exact k)
    · cases h
  · cases h
theorem mx_bn_s (hx : p.tables.exec = Jvm.exec ∧ c.code = cc) {isn : Bool} {off : Int} {f : mx_F} (hdg : decode cc pc = .ok (cond isn (.ifnull off) (.ifnonnull off), 3)) (h : mx_bn isn off pc lv st = some f)
    (k : mj_W G cl nL p l e R s m args below meth c Q kc ks f.1 f.2.1 f.2.2 σ) : mj_W G cl nL p l e R s m args below meth c Q kc ks pc lv st σ := by
  unfold mx_bn at h
  split at h
  · obtain ⟨tgt, ht, rfl⟩ := mx_br_s h
    cases isn
    · exact mj_ifnonnull hx hdg ht rfl (fun q => absurd rfl q) (fun _ => k)
    · exact mj_ifnull hx hdg ht rfl (fun _ => k) (fun q => absurd rfl q)
  · obtain ⟨tgt, ht, rfl⟩ := mx_br_s h
    cases isn
    · exact mj_ifnonnull hx hdg ht rfl (fun _ => k) (fun q => by cases q)
    · exact mj_ifnull hx hdg ht rfl (fun q => by cases q) (fun _ => k)
  · cases h
set_option maxHeartbeats 4000000 in
theorem mx_p_s (hx : p.tables.exec = Jvm.exec ∧ c.code = cc) {nC : Nat} (hj : mx_inj G nC) {i : Instr} {len : Nat} {f : mx_F} (hdg : decode cc pc = .ok (i, len)) (h : mx_p nC nL i len pc lv st = some f)
    (k : mj_W G cl nL p l e R s m args below meth c Q kc ks f.1 f.2.1 f.2.2 σ) : mj_W G cl nL p l e R s m args below meth c Q kc ks pc lv st σ := by
  cases i
  case iconst n => 
    obtain ⟨rfl, rfl⟩ := mx_k_s h
    exact mj_iconst hx hdg k
  case bipush n => 
    obtain ⟨rfl, rfl⟩ := mx_k_s h
    exact mj_bipush hx hdg k
  case sipush n => 
    obtain ⟨rfl, rfl⟩ := mx_k_s h
    exact mj_sipush hx hdg k
  case lconst n => 
    obtain ⟨rfl, rfl⟩ := mx_k_s h
    exact mj_lconst hx hdg k
  case aconst_null => 
    obtain ⟨rfl, rfl⟩ := mx_k_s h
    exact mj_null hx hdg k
  case iload_n n => 
    obtain ⟨rfl, hq⟩ := mx_if h
    obtain ⟨v, h1, h2, rfl⟩ := mx_ld_s hq
    obtain ⟨x, rfl⟩ := mx_isi_s h2
    exact mj_iload_n hx hdg h1 k
  case iload n => 
    obtain ⟨rfl, hq⟩ := mx_if h
    obtain ⟨v, h1, h2, rfl⟩ := mx_ld_s hq
    obtain ⟨x, rfl⟩ := mx_isi_s h2
    exact mj_iload hx hdg h1 k
  case lload_n n => 
    obtain ⟨rfl, hq⟩ := mx_if h
    obtain ⟨v, h1, h2, rfl⟩ := mx_ld_s hq
    obtain ⟨x, rfl⟩ := mx_isl_s h2
    exact mj_lload_n hx hdg h1 k
  case lload n => 
    obtain ⟨rfl, hq⟩ := mx_if h
    obtain ⟨v, h1, h2, rfl⟩ := mx_ld_s hq
    obtain ⟨x, rfl⟩ := mx_isl_s h2
    exact mj_lload hx hdg h1 k
  case aload_n n => 
    obtain ⟨rfl, hq⟩ := mx_if h
    obtain ⟨v, h1, h2, rfl⟩ := mx_ld_s hq
    exact mj_aload_n hx hdg h1 h2 k
  case aload n => 
    obtain ⟨rfl, hq⟩ := mx_if h
    obtain ⟨v, h1, h2, rfl⟩ := mx_ld_s hq
    exact mj_aload hx hdg h1 h2 k
  case istore_n n => 
    obtain ⟨rfl, hq⟩ := mx_if h
    obtain ⟨v, t, rfl, h2, h3, rfl⟩ := mx_st_s hq
    obtain ⟨x, rfl⟩ := mx_isi_s h2
    exact mj_istore_n hx hdg rfl h3 k
  case istore n => 
    obtain ⟨rfl, hq⟩ := mx_if h
    obtain ⟨v, t, rfl, h2, h3, rfl⟩ := mx_st_s hq
    obtain ⟨x, rfl⟩ := mx_isi_s h2
    exact mj_istore hx hdg h3 k
  case lstore_n n => 
    obtain ⟨rfl, hq⟩ := mx_if h
    obtain ⟨x, t, rfl, h3, rfl⟩ := mx_st2_s hq
    exact mj_lstore_n hx hdg rfl h3 k
  case lstore n => 
    obtain ⟨rfl, hq⟩ := mx_if h
    obtain ⟨x, t, rfl, h3, rfl⟩ := mx_st2_s hq
    exact mj_lstore hx hdg h3 k
  case astore_n n => 
    obtain ⟨rfl, hq⟩ := mx_if h
    obtain ⟨v, t, rfl, h2, h3, rfl⟩ := mx_st_s hq
    exact mj_astore_n hx hdg rfl h3 h2 k
  case astore n => 
    obtain ⟨rfl, hq⟩ := mx_if h
    obtain ⟨v, t, rfl, h2, h3, rfl⟩ := mx_st_s hq
    exact mj_astore hx hdg h3 h2 k
  case iinc n z => 
    obtain ⟨rfl, hq⟩ := mx_if h
    split at hq
    · obtain ⟨h3, hq⟩ := mx_if hq
      cases hq
      exact mj_iinc hx hdg (by assumption) h3 k
    · cases hq
  case iadd => 
    obtain ⟨rfl, hq⟩ := mx_if h
    obtain ⟨x, y, t, rfl, rfl⟩ := mx_i2_s hq
    exact mj_iadd hx hdg k
  case isub => 
    obtain ⟨rfl, hq⟩ := mx_if h
    obtain ⟨x, y, t, rfl, rfl⟩ := mx_i2_s hq
    exact mj_isub hx hdg k
  case imul => 
    obtain ⟨rfl, hq⟩ := mx_if h
    obtain ⟨x, y, t, rfl, rfl⟩ := mx_i2_s hq
    exact mj_imul hx hdg k
  case iand => 
    obtain ⟨rfl, hq⟩ := mx_if h
    obtain ⟨x, y, t, rfl, rfl⟩ := mx_i2_s hq
    exact mj_iand hx hdg k
  case ior => 
    obtain ⟨rfl, hq⟩ := mx_if h
    obtain ⟨x, y, t, rfl, rfl⟩ := mx_i2_s hq
    exact mj_ior hx hdg k
  case ixor => 
    obtain ⟨rfl, hq⟩ := mx_if h
    obtain ⟨x, y, t, rfl, rfl⟩ := mx_i2_s hq
    exact mj_ixor hx hdg k
  case ladd => 
    obtain ⟨rfl, hq⟩ := mx_if h
    obtain ⟨x, y, t, rfl, rfl⟩ := mx_l2_s hq
    exact mj_ladd hx hdg k
  case lsub => 
    obtain ⟨rfl, hq⟩ := mx_if h
    obtain ⟨x, y, t, rfl, rfl⟩ := mx_l2_s hq
    exact mj_lsub hx hdg k
  case land => 
    obtain ⟨rfl, hq⟩ := mx_if h
    obtain ⟨x, y, t, rfl, rfl⟩ := mx_l2_s hq
    exact mj_land hx hdg k
  case lor => 
    obtain ⟨rfl, hq⟩ := mx_if h
    obtain ⟨x, y, t, rfl, rfl⟩ := mx_l2_s hq
    exact mj_lor hx hdg k
  case lxor => 
    obtain ⟨rfl, hq⟩ := mx_if h
    obtain ⟨x, y, t, rfl, rfl⟩ := mx_l2_s hq
    exact mj_lxor hx hdg k
  case lcmp => 
    obtain ⟨rfl, hq⟩ := mx_if h
    obtain ⟨x, y, t, rfl, rfl⟩ := mx_l2_s hq
    exact mj_lcmp hx hdg k
  case idiv => 
    obtain ⟨rfl, hq⟩ := mx_if h
    split at hq
    · split at hq
      · cases hq
      · cases hq
        exact mj_idiv hx hdg (by assumption) k
    · cases hq
  case irem => 
    obtain ⟨rfl, hq⟩ := mx_if h
    split at hq
    · split at hq
      · cases hq
      · cases hq
        exact mj_irem hx hdg (by assumption) k
    · cases hq
  case ineg => 
    obtain ⟨rfl, hq⟩ := mx_if h
    obtain ⟨x, t, rfl, rfl⟩ := mx_i1_s hq
    exact mj_ineg hx hdg k
  case i2l => 
    obtain ⟨rfl, hq⟩ := mx_if h
    obtain ⟨x, t, rfl, rfl⟩ := mx_i1_s hq
    exact mj_i2l hx hdg k
  case i2c => 
    obtain ⟨rfl, hq⟩ := mx_if h
    obtain ⟨x, t, rfl, rfl⟩ := mx_i1_s hq
    exact mj_i2c hx hdg k
  case l2i => 
    obtain ⟨rfl, hq⟩ := mx_if h
    obtain ⟨x, t, rfl, rfl⟩ := mx_l1_s hq
    exact mj_l2i hx hdg k
  case lushr => 
    obtain ⟨rfl, hq⟩ := mx_if h
    obtain ⟨x, y, t, rfl, rfl⟩ := mx_li_s hq
    exact mj_lushr hx hdg k
  case lshr => 
    obtain ⟨rfl, hq⟩ := mx_if h
    obtain ⟨x, y, t, rfl, rfl⟩ := mx_li_s hq
    exact mj_lshr hx hdg k
  case lshl => 
    obtain ⟨rfl, hq⟩ := mx_if h
    obtain ⟨x, y, t, rfl, rfl⟩ := mx_li_s hq
    exact mj_lshl hx hdg k
  case dup => 
    obtain ⟨rfl, hq⟩ := mx_if h
    split at hq
    · obtain ⟨h2, hq⟩ := mx_if hq
      cases hq
      exact mj_dup hx hdg (mx_c1_s h2) k
    · cases hq
  case pop => 
    obtain ⟨rfl, hq⟩ := mx_if h
    split at hq
    · obtain ⟨h2, hq⟩ := mx_if hq
      cases hq
      exact mj_pop hx hdg (mx_c1_s h2) k
    · cases hq
  case dup_x1 => 
    obtain ⟨rfl, hq⟩ := mx_if h
    split at hq
    · obtain ⟨⟨h2, h3⟩, hq⟩ := mx_if hq
      cases hq
      exact mj_dup_x1 hx hdg (mx_c1_s h2) (mx_c1_s h3) k
    · cases hq
  case dup_x2 => 
    obtain ⟨rfl, hq⟩ := mx_if h
    split at hq
    · obtain ⟨⟨h2, h3, h4⟩, hq⟩ := mx_if hq
      cases hq
      exact mj_dup_x2 hx hdg (mx_c1_s h2) (mx_c1_s h3) (mx_c1_s h4) k
    · cases hq
  case dup2 => 
    obtain ⟨rfl, hq⟩ := mx_if h
    split at hq
    · obtain ⟨⟨h2, h3⟩, hq⟩ := mx_if hq
      cases hq
      exact mj_dup2 hx hdg (mx_c1_s h2) (mx_c1_s h3) k
    · cases hq
  case ifCond cd off => 
    obtain ⟨rfl, hq⟩ := mx_if h
    exact mx_b1_s hx hdg hq k
  case if_icmp cd off => 
    obtain ⟨rfl, hq⟩ := mx_if h
    exact mx_b2_s hx hdg hq k
  case if_acmp cd off => 
    obtain ⟨rfl, hq⟩ := mx_if h
    exact mx_ba_s hx hj hdg hq k
  case ifnull off => 
    obtain ⟨rfl, hq⟩ := mx_if h
    exact mx_bn_s (isn := true) hx hdg hq k
  case ifnonnull off => 
    obtain ⟨rfl, hq⟩ := mx_if h
    exact mx_bn_s (isn := false) hx hdg hq k
  case goto off => 
    obtain ⟨rfl, hq⟩ := mx_if h
    obtain ⟨tgt, ht, rfl⟩ := mx_br_s hq
    exact mj_goto hx hdg ht k
  case lookupswitch d ps => 
    simp only [mx_p] at h
    split at h
    · obtain ⟨h1, h⟩ := mx_if h
      obtain ⟨h2, h⟩ := mx_if h
      cases h
      exact mj_lookup hx hdg h1 rfl (Int.toNat_of_nonneg h2).symm k
    · cases h
  case tableswitch d lo hi offs => 
    simp only [mx_p] at h
    split at h
    · split at h
      · obtain ⟨h2, h⟩ := mx_if h
        cases h
        exact mj_tableOut hx hdg (by assumption) (Int.toNat_of_nonneg h2).symm k
      · rename_i hno
        split at h
        · obtain ⟨h2, h⟩ := mx_if h
          cases h
          exact mj_tableIn hx hdg (fun q => hno (Or.inl q)) (fun q => hno (Or.inr q)) (by assumption) (Int.toNat_of_nonneg h2).symm k
        · cases h
    · cases h
  all_goals cases h
end MX
