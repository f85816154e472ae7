/-! The interpreter: the store. Kinds of arrays: 0 int, 1 long, 2 char, 3 rows of words, 4 rows of definitions. What a class's pool names, as tables: fields (class, place), statics, constants' fields, classes to make (class, fields at first, slots), kinds of rows, numbers, methods, exceptions to make (class, the constructor's entry), which exceptions a handler's class takes, methods that only answer (arguments, answer). -/
abbrev mx_Tb : Type := (Nat → Option (Nat × Nat)) × (Nat → Option Value) × (Nat → Nat → Option Value) × (Nat → Option (Nat × List Value × Nat)) × (Nat → Option Nat) × (Nat → Option Int32) × (Nat → Option Int64) × (Nat → Option Nat) × (Nat → Option (Nat × Nat)) × (Nat → Nat → Option Bool) × (Nat → Option (Nat × (List Value → Option (Option Value))))
abbrev mx_tk (EW ED : String) : List FieldType := [.int, .long, .char, .object EW, .object ED]
/-- what all classes share: fields' types, whether final; constant arrays (of ints?, length, contents); how many constants are words; the class of definitions -/
abbrev mx_Gt : Type := (Nat → Nat → FieldType) × (Nat → Nat → Bool) × (Nat → Option (Bool × Nat × (Nat → Value))) × Nat × Nat
def mx_fit (t : FieldType) (v : Value) : Bool := match t, v with
  | .int, .int _ => true
  | .long, .long _ => true
  | .boolean, .int x => decide (x = 0) || decide (x = 1)
  | .object _, .ref _ => true
  | .object _, .null => true
  | .array _, .ref _ => true
  | .array _, .null => true
  | _, _ => false
def mx_inb (i : Int32) (n : Nat) : Bool := !(decide (i < 0) || decide (n ≤ i.toNatClampNeg))
theorem mx_inb_s {i : Int32} {n : Nat} (h : mx_inb i n = true) : vp_in i n := by
  unfold mx_inb at h
  intro q
  rcases q with q | q <;> simp [q] at h
def mx_get (tb : mx_Tb) (ix pc : Nat) (lv : List (Nat × Value)) (st : List Value) (σ : mj_S) : Option mx_F := match st with
  | .ref a :: t => if a < 1048576 then (match σ[a]? with
      | some (.inr (ci, fs)) => (match tb.1 ix with
        | some (cj, k) => if cj = ci then (match fs[k]? with
          | some v => some (pc + 3, lv, v :: t)
          | none => none) else none
        | none => none)
      | _ => none) else (match tb.2.2.1 ix a with
      | some v => some (pc + 3, lv, v :: t)
      | none => none)
  | _ => none
def mx_put (gt : mx_Gt) (tb : mx_Tb) (ini : Bool) (ix pc : Nat) (lv : List (Nat × Value)) (st : List Value) (σ : mj_S) : Option (mx_F × mj_S) := match st with
  | v :: .ref a :: t => if a < 1048576 then (match σ[a]? with
      | some (.inr (ci, fs)) => (match tb.1 ix with
        | some (cj, k) => if cj = ci then (if k < fs.length then (if mx_fit (gt.1 ci k) v = true then (if (!(gt.2.1 ci k) || ini) = true then some ((pc + 3, lv, t), σ.set a (.inr (ci, fs.set k v))) else none) else none) else none) else none
        | none => none)
      | _ => none) else none
  | _ => none
/-- loads from arrays: sel 0 iaload, 1 laload, 2 caload, 3 aaload -/
def mx_ald (gt : mx_Gt) (sel : Nat) (pc : Nat) (lv : List (Nat × Value)) (st : List Value) (σ : mj_S) : Option mx_F := match st with
  | .int j :: .ref a :: t => if a < 1048576 then (match σ[a]? with
      | some (.inl (k, n, .inl f)) => if mx_inb j n = true then (if (k = 0 ∧ sel = 0) ∨ (k = 2 ∧ sel = 2) then some (pc + 1, lv, .int (f j.toNatClampNeg) :: t) else none) else none
      | some (.inl (k, n, .inr (.inl f))) => if mx_inb j n = true then (if k = 1 ∧ sel = 1 then some (pc + 1, lv, .long (f j.toNatClampNeg) :: t) else none) else none
      | some (.inl (k, n, .inr (.inr (.inr (.inr f))))) => if mx_inb j n = true then (if (k = 3 ∨ k = 4) ∧ sel = 3 then some (pc + 1, lv, va_rf (f j.toNatClampNeg) :: t) else none) else none
      | _ => none) else (match gt.2.2.1 a with
      | some (isI, n, f) => if mx_inb j n = true then (if (isI = true ∧ sel = 0) ∨ (isI = false ∧ sel = 3) then some (pc + 1, lv, f j.toNatClampNeg :: t) else none) else none
      | none => none)
  | _ => none
def mx_len (gt : mx_Gt) (pc : Nat) (lv : List (Nat × Value)) (st : List Value) (σ : mj_S) : Option mx_F := match st with
  | .ref a :: t => if a < 1048576 then (match σ[a]? with
      | some (.inl (k, n, _)) => if k < 5 then some (pc + 1, lv, .int (nI n) :: t) else none
      | _ => none) else (match gt.2.2.1 a with
      | some (_, n, _) => some (pc + 1, lv, .int (nI n) :: t)
      | none => none)
  | _ => none
/-- stores to arrays: sel 0 iastore, 1 lastore, 2 castore, 3 aastore -/
def mx_ast (gt : mx_Gt) (sel : Nat) (pc : Nat) (lv : List (Nat × Value)) (st : List Value) (σ : mj_S) : Option (mx_F × mj_S) := match st with
  | .int x :: .int j :: .ref a :: t => if a < 1048576 then (match σ[a]? with
      | some (.inl (k, n, .inl f)) => if mx_inb j n = true then (if k = 0 ∧ sel = 0 then some ((pc + 1, lv, t), σ.set a (.inl (k, n, .inl (upd f j.toNatClampNeg x)))) else if k = 2 ∧ sel = 2 then some ((pc + 1, lv, t), σ.set a (.inl (k, n, .inl (upd f j.toNatClampNeg (vp_nar .char x))))) else none) else none
      | _ => none) else none
  | .long x :: .int j :: .ref a :: t => if a < 1048576 then (match σ[a]? with
      | some (.inl (k, n, .inr (.inl f))) => if mx_inb j n = true then (if k = 1 ∧ sel = 1 then some ((pc + 1, lv, t), σ.set a (.inl (k, n, .inr (.inl (vp_updL f j.toNatClampNeg x))))) else none) else none
      | _ => none) else none
  | .ref v :: .int j :: .ref a :: t => if a < 1048576 then (match σ[a]? with
      | some (.inl (k, n, .inr (.inr (.inr (.inr f))))) => if mx_inb j n = true then (if k = 3 ∧ sel = 3 ∧ 1048576 ≤ v ∧ v < 1048576 + gt.2.2.2.1 then some ((pc + 1, lv, t), σ.set a (.inl (k, n, .inr (.inr (.inr (.inr (va_up f j.toNatClampNeg (some v)))))))) else if k = 4 ∧ sel = 3 ∧ v < 1048576 then (match σ[v]? with
          | some (.inr (cv, _)) => if cv = gt.2.2.2.2 then some ((pc + 1, lv, t), σ.set a (.inl (k, n, .inr (.inr (.inr (.inr (va_up f j.toNatClampNeg (some v)))))))) else none
          | _ => none) else none) else none
      | _ => none) else none
  | _ => none
/-- what the tables' rows say of the machine -/
def mx_okC (K : mj_G → State → Prop) (cl : List vw_C) (gt : mx_Gt) : Prop := ∀ (ci : Nat) (C : String) (T : u_T) (N : Nat), cl[ci]? = some (C, T, N) → (∀ (G : mj_G) (s : State) (args : Array Value), K G s → ∀ w ∈ u_ws C T N, w.before args s = true) ∧ (∀ k, k < N → parseFieldDescriptor (T k).2.2.1 = some (gt.1 ci k)) ∧ (∀ a, a < N → ∀ b, b < N → a ≠ b → (T a).2.1 ≠ (T b).2.1) ∧ ∀ k, k < N → (T k).2.2.2 = gt.2.1 ci k
def mx_okF (K : mj_G → State → Prop) (cl : List vw_C) (own : String) (tb : mx_Tb) : Prop := ∀ ix ci k, tb.1 ix = some (ci, k) → ∃ (C : String) (T : u_T) (N : Nat), cl[ci]? = some (C, T, N) ∧ k < N ∧ ∀ (G : mj_G) (s : State) (args : Array Value), K G s → mj_FL s args own ix (T k)
/-- a constructor's pool: its fields are its own, or not final -/
def mx_okE (cl : List vw_C) (own : String) (tb : mx_Tb) : Prop := ∀ ix ci k C T N, tb.1 ix = some (ci, k) → cl[ci]? = some (C, T, N) → (T k).1 = own ∨ (T k).2.2.2 = false
def mx_okZ (K : mj_G → State → Prop) (own : String) (tb : mx_Tb) : Prop := ∀ ix v, tb.2.1 ix = some v → ∃ t : String × String × String × Bool, ∀ (G : mj_G) (s : State) (args : Array Value), K G s → mj_FL s args own ix t ∧ va_Z t.1 t.2.1 t.2.2.1 (mj_rv G v) (mj_A G) s s.heap
def mx_okK (K : mj_G → State → Prop) (own : String) (tb : mx_Tb) : Prop := ∀ ix i v, tb.2.2.1 ix i = some v → ∃ t : String × String × String × Bool, ∀ (G : mj_G) (s : State) (args : Array Value), K G s → mj_FL s args own ix t ∧ va_OF t.1 t.2.1 t.2.2.1 (mj_rv G v) (mj_ad G i) (mj_A G) s s.heap
def mx_okA (K : mj_G → State → Prop) (gt : mx_Gt) : Prop := ∀ i isI n f, gt.2.2.1 i = some (isI, n, f) → ∀ (G : mj_G) (s : State), K G s → ∃ ty : FieldType, va_T ty (mj_ad G i) n (fun j => mj_rv G (f j)) (mj_A G) s s.heap ∧ (isI = true → ty = .int) ∧ (isI = false → ty.isReference = true)
def mx_okW (K : mj_G → State → Prop) (EW : String) (gt : mx_Gt) : Prop := ∀ v, 1048576 ≤ v → v < 1048576 + gt.2.2.2.1 → ∀ (G : mj_G) (s : State), K G s → va_Any EW s s.heap (mj_ad G v) ∧ ¬ mj_A G (mj_ad G v)
def mx_okD (cl : List vw_C) (ED : String) (gt : mx_Gt) : Prop := ∃ (T : u_T) (N : Nat), cl[gt.2.2.2.2]? = some (ED, T, N)
section MXH
variable {K : mj_G → State → Prop} {p : Program} {l : Launch} {e : Env} {R : Room} {s : State} {m : MethodId} {args : Array Value} {below : List Frame} {meth : Method} {c : Code} {Q : State → Prop}
variable {G : mj_G} {cl : List vw_C} {EW ED : String} {nL kc ks : Nat} {cc : ByteArray} {pc : Nat} {lv : List (Nat × Value)} {st : List Value} {σ : mj_S} {own : String} {gt : mx_Gt} {tb : mx_Tb}
theorem mx_fit_s {G : mj_G} {t : FieldType} {v : Value} (h : mx_fit t v = true) : narrow t (mj_rv G v) = mj_rv G v ∧ fits t (mj_rv G v) = true := by
  unfold mx_fit at h
  split at h
  · exact ⟨rfl, rfl⟩
  · exact ⟨rfl, rfl⟩
  · rename_i x
    rcases Bool.or_eq_true _ _ ▸ h with h | h
    · have hx : x = 0 := by simpa using h
      subst hx
      exact ⟨rfl, rfl⟩
    · have hx : x = 1 := by simpa using h
      subst hx
      exact ⟨rfl, rfl⟩
  · exact ⟨rfl, rfl⟩
  · exact ⟨rfl, rfl⟩
  · exact ⟨rfl, rfl⟩
  · exact ⟨rfl, rfl⟩
  · cases h
set_option maxHeartbeats 1000000 in
theorem mx_get_s (hx : p.tables.exec = Jvm.exec ∧ c.code = cc) (hown : s.vm.findClass own = some m.cls) (hKs : K G s) (hK : va_K G.1 cl (mj_T G (mx_tk EW ED)) s) (oC : mx_okC K cl gt) (oF : mx_okF K cl own tb) (oK : mx_okK K own tb) {ix : Nat} {f : mx_F} (hdg : decode cc pc = .ok (.getfield ix, 3)) (h : mx_get tb ix pc lv st σ = some f)
    (k : mj_W G cl nL p l e R s m args below meth c Q kc ks f.1 f.2.1 f.2.2 σ) : mj_W G cl nL p l e R s m args below meth c Q kc ks pc lv st σ := by
  unfold mx_get at h
  split at h
  · split at h
    · rename_i ha
      split at h
      · rename_i he
        split at h
        · rename_i hf
          obtain ⟨hc, hq⟩ := mx_if h
          subst hc
          split at hq
          · rename_i hv
            cases hq
            obtain ⟨C, T, N, hcl, hk, hFL⟩ := oF _ _ _ hf
            exact mj_get hx hown hK ((oC _ _ _ _ hcl).1 G s args hKs) hcl ha he _ hk (hFL G s args hKs) hv hdg k
          · cases hq
        · cases h
      · cases h
    · split at h
      · rename_i hf
        cases h
        obtain ⟨t, ht⟩ := oK _ _ _ hf
        exact mj_getc hx hown (ht G s args hKs).2 (ht G s args hKs).1 hdg k
      · cases h
  · cases h
set_option maxHeartbeats 1000000 in
theorem mx_put_s (hx : p.tables.exec = Jvm.exec ∧ c.code = cc) (hown : s.vm.findClass own = some m.cls) (hKs : K G s) (hK : va_K G.1 cl (mj_T G (mx_tk EW ED)) s) (oC : mx_okC K cl gt) (oF : mx_okF K cl own tb) {ini : Bool} (hini : ini = true → meth.name = "<init>" ∧ mx_okE cl own tb) {ix : Nat} {f : mx_F} {σ' : mj_S} (hdg : decode cc pc = .ok (.putfield ix, 3)) (h : mx_put gt tb ini ix pc lv st σ = some (f, σ'))
    (k : mj_W G cl nL p l e R s m args below meth c Q kc ks f.1 f.2.1 f.2.2 σ') : mj_W G cl nL p l e R s m args below meth c Q kc ks pc lv st σ := by
  unfold mx_put at h
  split at h
  · split at h
    · rename_i ha
      split at h
      · rename_i he
        split at h
        · rename_i hf
          replace h := mx_if h; obtain ⟨hc, h⟩ := h
          subst hc
          replace h := mx_if h; obtain ⟨h1, h⟩ := h
          replace h := mx_if h; obtain ⟨h2, h⟩ := h
          replace h := mx_if h; obtain ⟨h3, h⟩ := h
          cases h
          obtain ⟨C, T, N, hcl, hk, hFL⟩ := oF _ _ _ hf
          obtain ⟨o1, o2, o3, o4⟩ := oC _ _ _ _ hcl
          obtain ⟨n1, n2⟩ := mx_fit_s (G := G) h2
          refine mj_put hx hown hK (o1 G s args hKs) o2 o3 hcl ha he _ hk (hFL G s args hKs) ?_ n1 n2 h1 hdg k
          rw [o4 _ hk]
          cases hfl : gt.2.1 _ _ with
          | false => exact Or.inl rfl
          | true =>
            rw [hfl] at h3
            have h4 : ini = true := by simpa using h3
            rcases (hini h4).2 _ _ _ _ _ _ hf hcl with hd | hd
            · exact Or.inr ⟨rfl, (hini h4).1, hd⟩
            · rw [o4 _ hk, hfl] at hd
              cases hd
        · cases h
      · cases h
    · cases h
  · cases h
end MXH
