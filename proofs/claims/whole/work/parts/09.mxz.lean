/-! The interpreter is sound: calls, ends, whole runs -/
/-- the pool's entry ix of the class own names J's method -/
def mx_okJ (K : mj_G → State → Prop) (own : String) (ix : Nat) (J : mx_I) : Prop := mj_w K (.methodLink own ix J.1) ∨ ∃ host, mj_w K (.methodLinkNest own ix J.1 host)
/-- J's code stands in the machine's tables, its handlers as J says -/
def mx_okY (K : mj_G → State → Prop) (J : mx_I) : Prop := ∀ (G : mj_G) (s : State), K G s → ∃ (mk : MethodId) (methk : Method) (ck : Code), s.methodNamed? J.1 = some mk ∧ s.vm.method? mk = some methk ∧ methk.code = some ck ∧ ck.code = J.2.1 ∧ ck.maxLocals = J.2.2.1 ∧ methk.sig.returnType = J.2.2.2.1 ∧ methk.locks = false ∧ parseMethodDescriptor J.1.desc = some methk.sig ∧ ck.exceptionTable.toList.map (fun h => (h.startPc, h.endPc, h.handlerPc, h.catchType)) = mx_hs J
theorem mx_okY.code {K : mj_G → State → Prop} {J : mx_I} (h : mj_w K (.code J.1 J.2.1 J.2.2.1 J.2.2.2.1)) (hh : mx_hs J = []) : mx_okY K J := by
  intro G s hK
  have hcode := h G s #[] hK
  obtain ⟨mk, hnamed⟩ := Cond.code_named hcode
  obtain ⟨methk, ck, b1, b2, b3, b4, b5, b6, b7, b8⟩ := Cond.code_spec hnamed hcode
  have hEk : ck.exceptionTable.toList = [] := by
    have h0 : ck.exceptionTable.size = 0 := by simpa [Array.isEmpty] using b7
    exact List.eq_nil_of_length_eq_zero (by simpa using h0)
  exact ⟨mk, methk, ck, hnamed, b1, b2, b3, b4, b5, b6, b8, by rw [hEk, hh]; rfl⟩
theorem mx_okY.codeWith {K : mj_G → State → Prop} {J : mx_I} (h : mj_w K (.codeWith J.1 J.2.1 J.2.2.1 J.2.2.2.1 (mx_hs J))) : mx_okY K J := by
  intro G s hK
  obtain ⟨mk, methk, ck, b0, b1, b2, b3, b4, b5, b6, b7, b8⟩ := Cond.codeWith_spec (h G s #[] hK)
  exact ⟨mk, methk, ck, b0, b1, b2, b3, b4, b6, b7, b8, b5⟩
/-- J's method stands in the machine's tables -/
def mx_okM (K : mj_G → State → Prop) (cl : List vw_C) (J : mx_I) : Prop := plainName J.1.cls = true ∧ (J.1.cls ≠ "java/lang/invoke/MethodHandle" ∧ J.1.cls ≠ "java/lang/invoke/VarHandle") ∧ mx_okY K J ∧ (J.2.2.2.2.2.2.2.1 = 0 → mj_w K (.initialized J.1.cls)) ∧ J.2.2.1 ≤ 21 ∧
  (J.2.2.2.2.2.2.2.1 = 0 → mj_w K (.static J.1) ∧ (parseMethodDescriptor J.1.desc).map (fun d => d.parameters.length) = some J.2.2.2.2.2.2.2.2.1) ∧
  (J.2.2.2.2.2.2.2.1 = 1 → mj_w K (.instanceMethod J.1) ∧ mj_w K (.selects J.1.cls J.1 J.1) ∧ (∃ T N, cl[J.2.2.2.2.2.2.2.2.2.1]? = some (J.1.cls, T, N)) ∧ (parseMethodDescriptor J.1.desc).map (fun d => d.parameters.length + 1) = some J.2.2.2.2.2.2.2.2.1) ∧
  (J.2.2.2.2.2.2.2.1 = 2 → J.1.name = "<init>" ∧ mj_w K (.instanceMethod J.1) ∧ mj_w K (.code J.1 J.2.1 J.2.2.1 none) ∧ (parseMethodDescriptor J.1.desc).map (fun d => d.parameters.length + 1) = some J.2.2.2.2.2.2.2.2.1)
section MXZ
variable {K : mj_G → State → Prop} {p : Program} {l : Launch} {e : Env} {R : Room} {s : State} {m : MethodId} {args : Array Value} {below : List Frame} {meth : Method} {c : Code} {Q : State → Prop}
variable {G : mj_G} {cl : List vw_C} {EW ED : String} {kc ks nC : Nat} {σ : mj_S} {gt : mx_Gt} {mi : Nat → Option mx_I} {I J : mx_I}
theorem mx_call_s {tb : mx_Tb} {kind ix pc y : Nat} {lv : List (Nat × Value)} {st vs : List Value} {g : mx_F} (h : mx_call mi tb kind ix pc lv st σ = some (.inr (.inr (y, vs, g)))) :
    ∃ (J : mx_I) (rest : List Value), tb.2.2.2.2.2.2.2.1 ix = some y ∧ mi y = some J ∧ J.2.2.2.2.2.2.2.1 = kind ∧ g = (pc, lv, rest) ∧ st = vs.reverse ++ rest ∧ vs.length = J.2.2.2.2.2.2.2.2.1 ∧ (rest.map fun v => v.category).sum ≤ 8 ∧ mx_recv kind J.2.2.2.2.2.2.2.2.2.1 vs σ = true ∧ (lg_sl vs).length ≤ J.2.2.1 := by
  unfold mx_call at h
  split at h
  · rename_i y0 hy
    split at h
    · rename_i J hJ
      replace h := mx_if h; obtain ⟨h1, h⟩ := h
      replace h := mx_if h; obtain ⟨h2, h⟩ := h
      replace h := mx_if h; obtain ⟨h3, h⟩ := h
      replace h := mx_if h; obtain ⟨h4, h⟩ := h
      replace h := mx_if h; obtain ⟨h5, h⟩ := h
      cases h
      exact ⟨J, _, hy, hJ, h1, rfl, by rw [List.reverse_reverse, List.take_append_drop], by rw [List.length_reverse, List.length_take]; omega, h3, h4, h5⟩
    · cases h
  · cases h
theorem mx_plen {y : MethodName} {n k : Nat} (h : (parseMethodDescriptor y.desc).map (fun d => d.parameters.length + k) = some n) : ∀ sig, parseMethodDescriptor y.desc = some sig → n = sig.parameters.length + k := fun sig hs => by rw [hs] at h; exact (Option.some.inj h).symm
/-- the instruction comes to the callee's invocation -/
def mx_Inv (G : mj_G) (cl : List vw_C) (p : Program) (l : Launch) (e : Env) (R : Room) (s : State) (m : MethodId) (args : Array Value) (below : List Frame) (meth : Method) (c : Code) (nL kc ks pc : Nat) (σ : mj_S) (st0 rest vs : List Value) (mk : MethodId) : Prop :=
  ∀ (T : State) (locs : List Loc) (ls : Array Slot), mj_H G cl σ T.heap → Stand p l e R s m args below meth c T locs kc ks → ls.size = nL → ∃ vm₁, Stand p l e R s m args below meth c (T.setVm vm₁) locs kc ks ∧ ∀ target, (∀ acts, Steps p.tables e below (doInvoke e ((T.setVm vm₁).setTop (F0 m pc ls (rest.map (mj_rv G)))) acts mk (vs.map (mj_rv G)).toArray).1 target) → Steps p.tables e below (T.setTop (F0 m pc ls (st0.map (mj_rv G)))) target
theorem mx_invS (hx : p.tables.exec = Jvm.exec ∧ c.code = I.2.1) (hown : s.vm.findClass I.1.cls = some m.cls) (hKs : K G s) {ix pc nL : Nat} (oJ : mx_okJ K I.1.cls ix J) (oM : mx_okM K cl J) (hk : J.2.2.2.2.2.2.2.1 = 0) {vs rest : List Value} (hn : vs.length = J.2.2.2.2.2.2.2.2.1) (hdg : decode I.2.1 pc = .ok (.invokestatic ix, 3)) {mk : MethodId} (hnamed : s.methodNamed? J.1 = some mk) :
    mx_Inv G cl p l e R s m args below meth c nL kc ks pc σ (vs.reverse ++ rest) rest vs mk := by
  intro T locs ls h1 X hls
  obtain ⟨o1, o2, o3, o4, o5, o6, -, -⟩ := oM
  obtain ⟨w1, w2⟩ := o6 hk
  obtain ⟨mk2, methM, ck, hnamed2, hmethM, -, -, -, -, -, hsigM, -⟩ := o3 G s hKs
  cases hnamed.symm.trans hnamed2
  have hstatic : methM.isStatic = true := Cond.static_spec hnamed hmethM (w1 G s args hKs)
  obtain ⟨kP, hkP, -⟩ := className_of_methodNamed hnamed
  have hinitP : kP.init = .initialized := Cond.initialized_spec (findClass_of_methodNamed hnamed) hkP (o4 hk G s args hKs)
  have hlen : (vs.map (mj_rv G)).length = methM.sig.parameters.length := by rw [List.length_map, hn]; exact mx_plen (k := 0) w2 _ hsigM
  rcases oJ with hl | ⟨host, hl⟩
  · exact X.invokestatic hx.1 hown (hl G s args hKs) hnamed hmethM hstatic hkP hinitP o2 (g := F0 m pc ls ((vs.reverse ++ rest).map (mj_rv G))) rfl (argsL := vs.map (mj_rv G)) (rest := rest.map (mj_rv G)) hlen (by rw [List.map_append, List.map_reverse]) (by rw [hx.2]; exact hdg)
  · exact X.invokestaticNest hx.1 hown (hl G s args hKs) hnamed hmethM hstatic hkP hinitP o2 (g := F0 m pc ls ((vs.reverse ++ rest).map (mj_rv G))) rfl (argsL := vs.map (mj_rv G)) (rest := rest.map (mj_rv G)) hlen (by rw [List.map_append, List.map_reverse]) (by rw [hx.2]; exact hdg)
theorem mx_invV (hx : p.tables.exec = Jvm.exec ∧ c.code = I.2.1) (hown : s.vm.findClass I.1.cls = some m.cls) (hKs : K G s) (hV : va_K G.1 cl (mj_T G (mx_tk EW ED)) s) {ix pc nL : Nat} (oJ : mx_okJ K I.1.cls ix J) (oM : mx_okM K cl J) (hk : J.2.2.2.2.2.2.2.1 = 1) {vs rest : List Value} (hn : vs.length = J.2.2.2.2.2.2.2.2.1) (hrc : mx_recv 1 J.2.2.2.2.2.2.2.2.2.1 vs σ = true) (hdg : decode I.2.1 pc = .ok (.invokevirtual ix, 3)) {mk : MethodId} (hnamed : s.methodNamed? J.1 = some mk) :
    mx_Inv G cl p l e R s m args below meth c nL kc ks pc σ (vs.reverse ++ rest) rest vs mk := by
  intro T locs ls h1 X hls
  obtain ⟨o1, o2, o3, o4, o5, -, o6, -⟩ := oM
  obtain ⟨w1, w2, ⟨TC, NC, hcl⟩, w3⟩ := o6 hk
  obtain ⟨b, As, fs, rfl, hb, he⟩ : ∃ (b : Nat) (As : List Value) (fs : List Value), vs = .ref b :: As ∧ b < 1048576 ∧ σ[b]? = some (.inr (J.2.2.2.2.2.2.2.2.2.1, fs)) := by
    unfold mx_recv at hrc
    split at hrc
    · rename_i hz
      cases hz
    · split at hrc
      · split at hrc
        · split at hrc
          · rename_i hb
            split at hrc
            · rename_i he
              have hz := of_decide_eq_true hrc
              rw [hz] at he
              exact ⟨_, _, _, rfl, hb, he⟩
            · cases hrc
          · cases hrc
        · rename_i hz
          exact absurd rfl hz
      · cases hrc
  obtain ⟨mk2, methM, hnamed2, hmethM, hstM, habM⟩ := Cond.instanceMethod_spec (w1 G s args hKs)
  cases hnamed.symm.trans hnamed2
  obtain ⟨mk3, methM', ck, hnamed3, hmethM', -, -, -, -, -, hsigM, -⟩ := o3 G s hKs
  cases hnamed.symm.trans hnamed3
  cases hmethM.symm.trans hmethM'
  obtain ⟨cellB, hcB, hoB, hclB⟩ := mj_rc hV hcl hb he T.heap h1
  obtain ⟨c2, r2, m2, q1, q2, q3, q4, kP, hkP, hkPi⟩ := Cond.selects_spec (w2 G s args hKs)
  cases hclB.symm.trans q1
  cases (State.methodFound?_of_named hnamed o2).symm.trans q2
  cases hnamed.symm.trans q3
  have hselP : selectMethod e.platform s.vm cellB.cls mk = .method mk := by rw [Launch.admits_selectMethod X.admits]; exact q4
  have hlen : (As.map (mj_rv G)).length = methM.sig.parameters.length := by
    have h9 := mx_plen (k := 1) w3 _ hsigM
    rw [List.length_cons] at hn
    rw [List.length_map]
    omega
  have hst : ((Value.ref b :: As).reverse ++ rest).map (mj_rv G) = (As.map (mj_rv G)).reverse ++ .ref (mj_ad G b) :: rest.map (mj_rv G) := by
    rw [List.reverse_cons, List.append_assoc, List.map_append, List.map_reverse]
    rfl
  rcases oJ with hl | ⟨host, hl⟩
  · exact X.invokevirtual hx.1 hown (hl G s args hKs) hnamed hmethM hstM hkP hkPi o2 (a := mj_ad G b) (cell := cellB) hcB (fun z h => by rw [h] at hoB; cases hoB) hselP hmethM habM hkP hkPi (g := F0 m pc ls (((Value.ref b :: As).reverse ++ rest).map (mj_rv G))) rfl (argsL := As.map (mj_rv G)) (rest := rest.map (mj_rv G)) hlen hst (by rw [hx.2]; exact hdg)
  · exact X.invokevirtualNest hx.1 hown (hl G s args hKs) hnamed hmethM hstM hkP hkPi o2 (a := mj_ad G b) (cell := cellB) hcB (fun z h => by rw [h] at hoB; cases hoB) hselP hmethM habM hkP hkPi (g := F0 m pc ls (((Value.ref b :: As).reverse ++ rest).map (mj_rv G))) rfl (argsL := As.map (mj_rv G)) (rest := rest.map (mj_rv G)) hlen hst (by rw [hx.2]; exact hdg)
theorem mx_invI (hx : p.tables.exec = Jvm.exec ∧ c.code = I.2.1) (hown : s.vm.findClass I.1.cls = some m.cls) (hKs : K G s) {ix pc nL : Nat} (oJ : mx_okJ K I.1.cls ix J) (oM : mx_okM K cl J) (hk : J.2.2.2.2.2.2.2.1 = 2) {vs rest : List Value} (hn : vs.length = J.2.2.2.2.2.2.2.2.1) (hrc : mx_recv 2 J.2.2.2.2.2.2.2.2.2.1 vs σ = true) (hdg : decode I.2.1 pc = .ok (.invokespecial ix, 3)) {mk : MethodId} (hnamed : s.methodNamed? J.1 = some mk) :
    mx_Inv G cl p l e R s m args below meth c nL kc ks pc σ (vs.reverse ++ rest) rest vs mk := by
  intro T locs ls h1 X hls
  obtain ⟨o1, o2, o3, o4, o5, -, -, o6⟩ := oM
  obtain ⟨w0, w1, w2, w3⟩ := o6 hk
  obtain ⟨b, As, rfl⟩ : ∃ (b : Nat) (As : List Value), vs = .ref b :: As := by
    unfold mx_recv at hrc
    split at hrc
    · rename_i hz
      cases hz
    · split at hrc
      · exact ⟨_, _, rfl⟩
      · cases hrc
  have hpl : e.platform.magicAccessors = ({} : Platform).magicAccessors := by rw [X.admits.platform]
  have hcode := w2 G s args hKs
  have hst : ((Value.ref b :: As).reverse ++ rest).map (mj_rv G) = (As.map (mj_rv G)).reverse ++ .ref (mj_ad G b) :: rest.map (mj_rv G) := by
    rw [List.reverse_cons, List.append_assoc, List.map_append, List.map_reverse]
    rfl
  have hlen : ∀ sig, parseMethodDescriptor J.1.desc = some sig → (As.map (mj_rv G)).length = sig.parameters.length := fun sig hs => by
    have h9 := mx_plen (k := 1) w3 sig hs
    rw [List.length_cons] at hn
    rw [List.length_map]
    omega
  rcases oJ with hl | ⟨host, hl⟩
  · obtain ⟨mk2, methM, cM, kP, vm₁, hnamed2, hmethM, hcodeM, -, hlocalsM, -, hkP, -, hW₁, hstep₁⟩ := Steps.initColdArgs (e := e) X.here hx.1 X.warmed hpl hown w0 o2 (hl G s args hKs) (w1 G s args hKs) hcode (f := F0 m pc ls (((Value.ref b :: As).reverse ++ rest).map (mj_rv G))) rfl hlen hst (by rw [hx.2]; exact hdg)
    cases hnamed.symm.trans hnamed2
    exact ⟨vm₁, X.noted hW₁, hstep₁⟩
  · obtain ⟨mk2, methM, cM, kP, vm₁, hnamed2, hmethM, hcodeM, -, hlocalsM, -, hkP, -, hW₁, hstep₁⟩ := Steps.initColdArgsNest (e := e) X.here hx.1 X.warmed hpl hown w0 o2 (hl G s args hKs) (w1 G s args hKs) hcode (f := F0 m pc ls (((Value.ref b :: As).reverse ++ rest).map (mj_rv G))) rfl hlen hst (by rw [hx.2]; exact hdg)
    cases hnamed.symm.trans hnamed2
    exact ⟨vm₁, X.noted hW₁, hstep₁⟩
end MXZ
