/-! The small machine: ends of methods and calls -/
/-- how a call ends: an answer, or a thrown cell -/
abbrev mj_O : Type := Option Value ⊕ Nat
def mj_ro (G : mj_G) (o : mj_O) : Outcome := match o with
  | .inl r => .returned (r.map (mj_rv G))
  | .inr i => .threw (mj_ad G i)
/-- what every state of the run knows (tables, constants): it outlives steps that write nothing below the store -/
def mj_Kc (K : mj_G → State → Prop) : Prop := ∀ (G : mj_G) (s U : State), s.WarmedH U.vm → (∀ q : Nat, q < mj_b G → U.heap[q]? = s.heap[q]?) → K G s → K G U
def mj_w (K : mj_G → State → Prop) (w : Cond) : Prop := ∀ (G : mj_G) (U : State) (args : Array Value), K G U → w.before args U = true
/-- a method has ended so: o, with the store σ'; mc cells of ms slots are new -/
def mj_MQ (G : mj_G) (cl : List vw_C) (o : mj_O) (σ' : mj_S) (below : List Frame) (s : State) (mc ms : Nat) : State → Prop := fun t =>
  t.status = .running ∧ Ended t below (mj_ro G o) ∧ mj_H G cl σ' t.heap ∧ s.heap.size ≤ t.heap.size ∧ (∀ q : Nat, q < mj_b G → t.heap[q]? = s.heap[q]?) ∧ s.WarmedH t.vm ∧ ∃ L : List Loc, s.sameButNew ({ t with vm := s.vm } : State) L mc ms ∧ ∀ q ∈ L, mj_A G q.base
/-- the method y stands so in the tables of s -/
def mj_cx (K : mj_G → State → Prop) (G : mj_G) (y : MethodName) (cc : ByteArray) (nL : Nat) (ret : Option FieldType) (p : Program) (s : State) (m : MethodId) (meth : Method) (c : Code) : Prop :=
  (p.tables.exec = Jvm.exec ∧ c.code = cc) ∧ c.maxLocals = nL ∧ s.vm.findClass y.cls = some m.cls ∧ meth.sig.returnType = ret ∧ meth.locks = false ∧ meth.name = y.name ∧ K G s ∧ mj_b G ≤ s.heap.size
theorem mj_args_L (G : mj_G) : ∀ (vs : List Value) (i : Nat), lv_args i (vs.map (mj_rv G)) = mj_L G (lv_args i vs)
  | [], _ => rfl
  | v :: vs, i => by
    show (i, mj_rv G v) :: lv_args (if (mj_rv G v).category = 2 then i + 2 else i + 1) (vs.map (mj_rv G)) = (i, mj_rv G v) :: mj_L G (lv_args (if v.category = 2 then i + 2 else i + 1) vs)
    rw [mj_rv_cat, mj_args_L G vs]
theorem mj_sl_len (G : mj_G) (vs : List Value) : (lg_sl (vs.map (mj_rv G))).length = (lg_sl vs).length := by
  induction vs with
  | nil => rfl
  | cons v vs ih =>
    simp only [lg_sl, List.map_cons, List.flatMap_cons, List.length_append, mj_rv_cat] at ih ⊢
    rw [ih]
    by_cases h : v.category = 2 <;> simp [h]
section MR
variable {K : mj_G → State → Prop} {p : Program} {l : Launch} {e : Env} {R : Room} {s : State} {m : MethodId} {args : Array Value} {below : List Frame} {meth : Method} {c : Code} {Q : State → Prop}
variable {G : mj_G} {cl : List vw_C} {tk : List FieldType} {nL kc ks : Nat} {cc : ByteArray} {pc : Nat} {lv : List (Nat × Value)} {st : List Value} {σ : mj_S} {own : String} {mc ms : Nat}
theorem mj_mono {H : Heap} {locs : List Loc} {Q2 : State → Prop} {g : JFrame} (h : ∀ t, Q t → Q2 t) (k : W p l e R s m args below meth c H locs kc ks Q g) : W p l e R s m args below meth c H locs kc ks Q2 g := fun T hT X => by
  obtain ⟨t, a, b⟩ := k T hT X
  exact ⟨t, a, h t b⟩
/-- what W.iret and its like give, in the words of mj_MQ -/
theorem mj_MQ.of {H : Heap} {locs : List Loc} {o : mj_O} (hb : mj_b G ≤ s.heap.size) (q1 : mj_H G cl σ H) (q2 : va_S (mj_A G) s.heap H locs) {t : State} (h : MQ below (fun _ _ o' t => o' = mj_ro G o ∧ t.heap = H) args s kc ks (mj_A G) t) : mj_MQ G cl o σ below s kc ks t := by
  obtain ⟨o', h1, h2, ⟨rfl, h3⟩, L, h4, h5⟩ := h
  exact ⟨h1, h2, by rw [h3]; exact q1, by rw [h3]; exact q2.1, fun q hq => by rw [h3]; exact q2.2.1 q (Nat.lt_of_lt_of_le hq hb) (Nat.not_le.mpr hq), h4.2.1, L, h4.2.2, h5⟩
theorem mj_iret (hx : p.tables.exec = Jvm.exec ∧ c.code = cc) (hb : mj_b G ≤ s.heap.size) {rt : FieldType} (hr : meth.sig.returnType = some rt) (hlk : meth.locks = false) {x : Int32} (hn : narrow rt (.int x) = .int x) (hdg : decode cc pc = .ok (.ireturn, 1)) :
    mj_W G cl nL p l e R s m args below meth c (mj_MQ G cl (.inl (some (.int x))) σ below s kc ks) kc ks pc lv [.int x] σ := fun H locs ls q1 q2 q3 =>
  mj_mono (fun t ht => mj_MQ.of hb q1 q2 ht) (W.zret hx.1 hx.2 hr hn (fun t ht hW => ⟨rfl, ht⟩) q2.2.2 hdg hlk)
theorem mj_lret (hx : p.tables.exec = Jvm.exec ∧ c.code = cc) (hb : mj_b G ≤ s.heap.size) (hr : meth.sig.returnType = some .long) (hlk : meth.locks = false) {x : Int64} (hdg : decode cc pc = .ok (.lreturn, 1)) :
    mj_W G cl nL p l e R s m args below meth c (mj_MQ G cl (.inl (some (.long x))) σ below s kc ks) kc ks pc lv [.long x] σ := fun H locs ls q1 q2 q3 =>
  mj_mono (fun t ht => mj_MQ.of hb q1 q2 ht) (W.lret hx.1 hx.2 hr (fun t ht hW => ⟨rfl, ht⟩) q2.2.2 hdg hlk)
theorem mj_vret (hx : p.tables.exec = Jvm.exec ∧ c.code = cc) (hb : mj_b G ≤ s.heap.size) (hr : meth.sig.returnType = none) (hlk : meth.locks = false) (hdg : decode cc pc = .ok (.return_, 1)) :
    mj_W G cl nL p l e R s m args below meth c (mj_MQ G cl (.inl none) σ below s kc ks) kc ks pc lv [] σ := fun H locs ls q1 q2 q3 =>
  mj_mono (fun t ht => mj_MQ.of hb q1 q2 ht) (W.vret hx.1 hx.2 hr (fun t ht hW => ⟨rfl, ht⟩) q2.2.2 hdg hlk)
theorem mj_aret (hx : p.tables.exec = Jvm.exec ∧ c.code = cc) (hb : mj_b G ≤ s.heap.size) {rt : FieldType} (hr : meth.sig.returnType = some rt) (hrt : (∃ n, rt = .object n) ∨ ∃ t, rt = .array t) (hlk : meth.locks = false) {v : Value} (hv : mj_isr v = true) (hdg : decode cc pc = .ok (.areturn, 1)) :
    mj_W G cl nL p l e R s m args below meth c (mj_MQ G cl (.inl (some v)) σ below s kc ks) kc ks pc lv [v] σ := fun H locs ls q1 q2 q3 =>
  mj_mono (fun t ht => mj_MQ.of hb q1 q2 ht) (W.aret hx.1 hx.2 hr hrt (by cases v <;> first | exact Or.inl rfl | exact Or.inr ⟨_, rfl⟩ | cases hv) (fun t ht hW => ⟨rfl, ht⟩) q2.2.2 hdg hlk)
/-- athrow, where no handler of the method covers it -/
theorem mj_athrow (hx : p.tables.exec = Jvm.exec ∧ c.code = cc) (hb : mj_b G ≤ s.heap.size) (hlk : meth.locks = false) (hout : ∀ x ∈ c.exceptionTable.toList, covers x pc = false) {a : Nat} (hdg : decode cc pc = .ok (.athrow, 1)) :
    mj_W G cl nL p l e R s m args below meth c (mj_MQ G cl (.inr a) σ below s kc ks) kc ks pc lv (.ref a :: st) σ := by
  intro H locs ls q1 q2 q3 T hT X
  obtain ⟨w1, w2, w3, w4, w5⟩ := X.athrowLeaves hx.1 (g := F0 m pc ls ((.ref a :: st).map (mj_rv G))) rfl rfl rfl hout rfl (by rw [hx.2]; exact hdg) hlk
  have hh : (T.setFrames (.throwing (mj_ad G a) :: below)).heap = H := hT
  exact ⟨_, w1, w2, w3, by rw [hh]; exact q1, by rw [hh]; exact q2.1, fun q hq => by rw [hh]; exact q2.2.1 q (Nat.lt_of_lt_of_le hq hb) (Nat.not_le.mpr hq), w4, locs, w5, q2.2.2⟩
theorem mj_rets (G : mj_G) (r : Option Value) (st : List Value) : (r.map (mj_rv G)).toList ++ st.map (mj_rv G) = (r.toList ++ st).map (mj_rv G) := by cases r <;> rfl
/-- the cell a is being thrown over the method's own frame -/
def mj_Th (G : mj_G) (cl : List vw_C) (nL : Nat) (p : Program) (l : Launch) (e : Env) (R : Room) (s : State) (m : MethodId) (args : Array Value) (below : List Frame) (meth : Method) (c : Code) (Q : State → Prop) (kc ks pc : Nat) (lv : List (Nat × Value)) (a : Nat) (σ : mj_S) : Prop :=
  ∀ (T : State) (locs : List Loc) (ls : Array Slot) (rest : List Value), mj_H G cl σ T.heap → va_S (mj_A G) s.heap T.heap locs → lv_has ls nL (mj_L G lv) → Stand p l e R s m args below meth c T locs kc ks → ∃ t, Steps p.tables e below ((T.setTop (F0 m pc ls rest)).pushFrame (.throwing (mj_ad G a))) t ∧ Q t
theorem mj_Th.out (hb : mj_b G ≤ s.heap.size) (hlk : meth.locks = false) (hout : ∀ x ∈ c.exceptionTable.toList, covers x pc = false) {a : Nat} : mj_Th G cl nL p l e R s m args below meth c (mj_MQ G cl (.inr a) σ below s kc ks) kc ks pc lv a σ := by
  intro T locs ls rest h1 h2 h3 X
  obtain ⟨w1, w2, w3, w4, w5⟩ := X.leaveThrown (mj_ad G a) (g := F0 m pc ls rest) rfl rfl rfl hout hlk
  exact ⟨_, w1, w2, w3, h1, h2.1, fun q hq => h2.2.1 q (Nat.lt_of_lt_of_le hq hb) (Nat.not_le.mpr hq), w4, locs, w5, h2.2.2⟩
set_option maxHeartbeats 1000000 in
/-- a call: the instruction comes to the invocation of mk with vs; the callee's own walk ends in o, σ'; then the caller goes on, or the cell is thrown on in it -/
theorem mj_call0 {st0 rest vs : List Value} {y2 : MethodName} {cc2 : ByteArray} {nL2 : Nat} {ret2 : Option FieldType} {R2 : Room} {mk : MethodId} {methk : Method} {ck : Code} {o : mj_O} {σ' : mj_S} {ig : Instr}
    (hx : p.tables.exec = Jvm.exec ∧ c.code = cc) (hml : c.maxLocals = nL) (hb : mj_b G ≤ s.heap.size) (hKc : mj_Kc K) (hKs : K G s) (hdg : decode cc pc = .ok (ig, 3)) (hw : (rest.map fun v => v.category).sum ≤ 8)
    (hn : s.methodNamed? y2 = some mk) (hmk : s.vm.method? mk = some methk) (hck : methk.code = some ck) (hcc : ck.code = cc2) (hl2 : ck.maxLocals = nL2) (hr2 : methk.sig.returnType = ret2) (hlk2 : methk.locks = false) (hy2 : plainName y2.cls = true)
    (hR : R2.frames + 1 ≤ R.frames ∧ 8 + (nL2 + 11) + R2.locals ≤ R.locals ∧ kc + R2.cells ≤ R.cells ∧ ks + R2.slots ≤ R.slots) (hvs : (lg_sl vs).length ≤ nL2)
    (hinv : ∀ (T : State) (locs : List Loc) (ls : Array Slot), mj_H G cl σ T.heap → va_S (mj_A G) s.heap T.heap locs → Stand p l e R s m args below meth c T locs kc ks → ls.size = nL → ∃ vm₁, Stand p l e R s m args below meth c (T.setVm vm₁) locs kc ks ∧ ∀ target, (∀ acts, Steps p.tables e below (doInvoke e ((T.setVm vm₁).setTop (F0 m pc ls (rest.map (mj_rv G)))) acts mk (vs.map (mj_rv G)).toArray).1 target) → Steps p.tables e below (T.setTop (F0 m pc ls (st0.map (mj_rv G)))) target)
    (hcal : ∀ (s2 : State) (args2 : Array Value) (below2 : List Frame), mj_cx K G y2 cc2 nL2 ret2 p s2 mk methk ck → mj_W G cl nL2 p l e R2 s2 mk args2 below2 methk ck (mj_MQ G cl o σ' below2 s2 R2.cells R2.slots) 0 0 0 (lv_args 0 vs) [] σ)
    (kr : ∀ r, o = .inl r → mj_W G cl nL p l e R s m args below meth c Q (kc + R2.cells) (ks + R2.slots) (pc + 3) lv (r.toList ++ rest) σ')
    (kt : ∀ a, o = .inr a → mj_Th G cl nL p l e R s m args below meth c Q (kc + R2.cells) (ks + R2.slots) pc lv a σ') : mj_W G cl nL p l e R s m args below meth c Q kc ks pc lv st0 σ := by
  intro H locs ls h1 h2 h3 T hT X
  subst hT
  obtain ⟨vm₁, X₁, hstep⟩ := hinv T locs ls h1 h2 X h3.1
  have hal : s.vm.Alike vm₁ := X₁.warmed.alike
  have hmk1 : (T.setVm vm₁).vm.method? mk = some methk := by
    show vm₁.method? mk = some methk
    rw [hal.method?]
    exact hmk
  have hn1 := X₁.named hn
  have hpk : (T.setVm vm₁).plainMethod mk := State.plainMethod.of_named (s := T.setVm vm₁) (plainFor_of_name hy2) hn1 hmk1
  obtain ⟨Y, hdo⟩ := X₁.into (g := F0 m pc ls (rest.map (mj_rv G))) rfl (by rw [hml]; exact h3.1) (by rw [hx.2]; exact hdg) (vs.map (mj_rv G)).toArray (R' := R2) hmk1 hck hlk2 hpk hR.1 (by
    have hw2 : ((rest.map (mj_rv G)).map fun v => v.category).sum ≤ 8 := by simpa [Function.comp_def, mj_rv_cat] using hw
    show 2 * 0 + ((rest.map (mj_rv G)).map fun v => v.category).sum + (ck.maxLocals + 11) + R2.locals ≤ R.locals
    rw [hl2]
    have := hR.2.1
    omega) hR.2.2.1 hR.2.2.2
  have hK2 : K G ((T.setVm vm₁).calling (F0 m pc ls (rest.map (mj_rv G))) mk (vs.map (mj_rv G)).toArray) := hKc G s _ X₁.warmed (fun q hq => h2.2.1 q (Nat.lt_of_lt_of_le hq hb) (Nat.not_le.mpr hq)) hKs
  have hcx : mj_cx K G y2 cc2 nL2 ret2 p ((T.setVm vm₁).calling (F0 m pc ls (rest.map (mj_rv G))) mk (vs.map (mj_rv G)).toArray) mk methk ck :=
    ⟨⟨hx.1, hcc⟩, hl2, findClass_of_methodNamed hn1, hr2, hlk2, (name_of_methodNamed hn1 hmk1).1, hK2, Nat.le_trans hb h2.1⟩
  have hl := lv_entry (vs.map (mj_rv G)) (n := nL2) (by rw [mj_sl_len]; exact hvs)
  rw [mj_args_L] at hl
  obtain ⟨t2, st2, w1, w2, w3, w4, w5, w6, L, w7, w8⟩ := hcal _ (vs.map (mj_rv G)).toArray (.java (F0 m pc ls (rest.map (mj_rv G))) :: below) hcx T.heap [] _ h1 va_S.rf hl (((T.setVm vm₁).setTop (F0 m pc ls (rest.map (mj_rv G)))).pushFrame (.java (entryFrame mk (vs.map (mj_rv G)).toArray ck.maxLocals))) rfl Y
  rw [show F0 mk 0 ((lg_sl (vs.map (mj_rv G)) ++ List.replicate (nL2 - (lg_sl (vs.map (mj_rv G))).length) Slot.unset).toArray) (([] : List Value).map (mj_rv G)) = entryFrame mk (vs.map (mj_rv G)).toArray ck.maxLocals from by rw [hl2]; exact (lg_entry_eq mk (vs.map (mj_rv G)) nL2).symm] at st2
  have w5' : ∀ q : Nat, q < mj_b G → t2.heap[q]? = s.heap[q]? := fun q hq => (w5 q hq).trans (h2.2.1 q (Nat.lt_of_lt_of_le hq hb) (Nat.not_le.mpr hq))
  have hS : va_S (mj_A G) s.heap t2.heap (locs ++ L) := ⟨Nat.le_trans h2.1 w4, fun q g1 g2 => w5' q (Nat.not_le.mp g2), fun q hq' => by
      rcases List.mem_append.mp hq' with h | h
      · exact h2.2.2 q h
      · exact w8 q h⟩
  cases o with
  | inl r =>
    obtain ⟨T', X', -, -, ht⟩ := X₁.outOf (g := F0 m pc ls (rest.map (mj_rv G))) rfl (by rw [hx.2]; exact hdg) w2 w6 w7
    have hh : T'.heap = t2.heap := by rw [ht]; rfl
    obtain ⟨t, a1, b1⟩ := kr r rfl T'.heap (locs ++ L) ls (by rw [hh]; exact w3) (by rw [hh]; exact hS) h3 T' rfl X'
    rw [← mj_rets] at a1
    refine ⟨t, hstep t (fun acts => ?_), b1⟩
    rw [hdo acts]
    refine Steps.trans (Steps.weaken (mid := [.java (F0 m pc ls (rest.map (mj_rv G)))]) st2) ?_
    rw [ht]
    exact a1
  | inr a =>
    obtain ⟨T', X', -, -, ht⟩ := X₁.outOfThrown (g := F0 m pc ls (rest.map (mj_rv G))) rfl w2 w6 w7
    have hh : T'.heap = t2.heap := by rw [ht]; rfl
    obtain ⟨t, a1, b1⟩ := kt a rfl T' (locs ++ L) ls (rest.map (mj_rv G)) (by rw [hh]; exact w3) (by rw [hh]; exact hS) h3 X'
    refine ⟨t, hstep t (fun acts => ?_), b1⟩
    rw [hdo acts]
    refine Steps.trans (Steps.weaken (mid := [.java (F0 m pc ls (rest.map (mj_rv G)))]) st2) ?_
    rw [ht]
    exact a1
end MR
