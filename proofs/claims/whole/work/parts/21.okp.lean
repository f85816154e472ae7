/-! Methods that only answer: an object's own constructor, Math, ordinals -/
section XP
variable {p : Program} {l : Launch} {e : Env} {R : Room} {s : State} {m : MethodId} {args : Array Value} {below : List Frame} {meth : Method} {c : Code} {Q : State → Prop}
variable {G : mj_G} {cl : List vw_C} {nL kc ks : Nat} {cc : ByteArray} {pc : Nat} {lv : List (Nat × Value)} {rest : List Value} {σ : mj_S} {own : String} {L : Nat} {xs : Nat → Int32}
/-- a method of the table, at an entry of own's pool -/
def xP1 (L : Nat) (xs : Nat → Int32) (l : Launch) (own : String) (q : Nat × Nat) : Prop := ∀ (ix t : Nat) (vs rest : List Value) (v : Option Value) (ig : Instr), q.1 = 4 * ix + t → vs.length = xp_n q.2 → xp_g q.2 vs = some v → ((t = 0 ∧ ig = .invokevirtual ix) ∨ (t = 1 ∧ ig = .invokestatic ix) ∨ (t = 2 ∧ ig = .invokespecial ix)) → ∀ (y : MethodName) (cc : ByteArray) (nL : Nat) (ret : Option FieldType) (G : mj_G) (p : Program) (e : Env) (R : Room) (s : State) (m : MethodId) (args : Array Value) (below : List Frame) (meth : Method) (c : Code) (Q : State → Prop) (kc ks pc : Nat) (lv : List (Nat × Value)) (σ : mj_S), y.cls = own → mj_cx (xK L xs) G y cc nL ret p s m meth c → decode cc pc = .ok (ig, 3) → (rest.map fun v => v.category).sum ≤ 8 → 5 ≤ R.frames → 200 ≤ R.locals → kc ≤ R.cells → ks ≤ R.slots →
  mj_W G xcl nL p l e R s m args below meth c Q kc ks (pc + 3) lv (v.toList ++ rest) σ → mj_W G xcl nL p l e R s m args below meth c Q kc ks pc lv (vs.reverse ++ rest) σ
theorem xoP_l {I : mx_I} {lq : List (Nat × Nat)} (ht : I.2.2.2.2.1.2.2.2.2.2.2.2.2.2.2 = xp lq) (h : ∀ q ∈ lq, xP1 L xs l I.1.cls q) : mx_okP l (xK L xs) xcl I := by
  intro ix t k g vs rest v ig hp hn hg hi G p e R s m args below meth c Q kc ks pc lv σ cx hdg hw h5 h200 hc hs kk
  rw [ht] at hp
  unfold xp at hp
  split at hp
  · rename_i k0 hk
    cases hp
    exact h _ (mj_look hk) ix t vs rest v ig rfl hn hg hi I.1 I.2.1 I.2.2.1 I.2.2.2.1 G p e R s m args below meth c Q kc ks pc lv σ rfl cx hdg hw h5 h200 hc hs kk
  · cases hp
theorem mj_oinit (hx : p.tables.exec = Jvm.exec ∧ c.code = cc) (hml : c.maxLocals = nL) (hown : s.vm.findClass own = some m.cls) {b ix : Nat} (hlink : (Cond.methodLink own ix objectInit).before args s = true) (hinst : (Cond.instanceMethod objectInit).before args s = true) (hcode : (Cond.code objectInit ⟨#[0xb1]⟩ 1 none).before args s = true) (hw : (rest.map fun v => v.category).sum ≤ 8) (h5 : 5 ≤ R.frames) (h200 : 200 ≤ R.locals) (hdg : decode cc pc = .ok (.invokespecial ix, 3))
    (k : mj_W G cl nL p l e R s m args below meth c Q kc ks (pc + 3) lv rest σ) : mj_W G cl nL p l e R s m args below meth c Q kc ks pc lv (.ref b :: rest) σ := by
  intro H locs ls h1 h2 h3 T hT X
  have hpl : e.platform.magicAccessors = ({} : Platform).magicAccessors := by rw [X.admits.platform]
  have hdesc : parseMethodDescriptor objectInit.desc = some ⟨[], none⟩ := by decide
  obtain ⟨tm, methO, cd, kO, vm₁, q1, q2, q3, q4, q5, q6, q7, q8, hW₁, hstep⟩ := Steps.initColdArgs (e := e) X.here hx.1 X.warmed hpl hown rfl ⟨by decide, by decide⟩ hlink hinst hcode (f := F0 m pc ls ((.ref b :: rest).map (mj_rv G))) rfl (a := mj_ad G b) (argsL := []) (rest := rest.map (mj_rv G)) (fun sig hs => by cases hdesc.symm.trans hs; rfl) rfl (by rw [hx.2]; exact hdg)
  have X' := X.noted hW₁
  obtain ⟨t, a1, b1⟩ := k H locs ls h1 h2 h3 (T.setVm vm₁) hT X'
  refine ⟨t, hstep t (fun acts => ?_), b1⟩
  obtain ⟨k', hk', he⟩ := hW₁.alike.2.2 _ _ q7
  have hw2 : ((rest.map (mj_rv G)).map fun v => v.category).sum ≤ 8 := by simpa [Function.comp_def, mj_rv_cat] using hw
  refine X'.objectInit hx.1 (g := F0 m pc ls (rest.map (mj_rv G))) rfl (by rw [hml]; exact h3.1) acts (k := k') hk' (by rw [he]; exact q8) (by show vm₁.method? tm = some methO; rw [hW₁.alike.method?]; exact q2) q3 q4 q6 (by omega) ?_ (by rw [hx.2]; exact hdg) a1
  rw [q5]
  show 2 * 0 + ((rest.map (mj_rv G)).map fun v => v.category).sum + (1 + 11) ≤ R.locals
  omega
theorem xP_o {ix : Nat} (h1 : Cond.methodLink own ix objectInit ∈ lw_tbl) (h2 : Cond.instanceMethod objectInit ∈ lw_tbl) (h3 : Cond.code objectInit ⟨#[0xb1]⟩ 1 none ∈ lw_tbl) : xP1 L xs l own (4 * ix + 2, 6) := by
  intro ix' t vs rest v ig hq hn hg hi y cc nL ret G p e R s m args below meth c Q kc ks pc lv σ hy cx hdg hw h5 h200 hc hs kk
  have hq : 4 * ix + 2 = 4 * ix' + t := hq
  rcases hi with ⟨rfl, rfl⟩ | ⟨rfl, rfl⟩ | ⟨rfl, rfl⟩
  · omega
  · omega
  obtain rfl : ix = ix' := by omega
  unfold xp_g at hg
  simp only at hg
  split at hg
  · rename_i b
    cases hg
    obtain ⟨hx, hml, hown, hret, hlk, hnm, hKs, hb⟩ := cx
    rw [hy] at hown
    exact mj_oinit hx hml hown (xK_w h1 rfl G s args hKs) (xK_w h2 rfl G s args hKs) (xK_w h3 rfl G s args hKs) hw h5 h200 hdg kk
  · cases hg
theorem xpf_3 {vs : List Value} {w : Value} (h : xp_f 3 vs = some w) : ∃ a b, vs = [.int a, .int b] ∧ w = .int (if a < b then b else a) := by
  unfold xp_f at h
  split at h
  all_goals first
    | (rename_i hk _; exact absurd hk (by decide))
    | (rename_i hk; exact absurd hk (by decide))
    | (cases h; exact ⟨_, _, rfl, rfl⟩)
    | cases h
theorem xpf_4 {vs : List Value} {w : Value} (h : xp_f 4 vs = some w) : ∃ a b, vs = [.int a, .int b] ∧ w = .int (if b < a then b else a) := by
  unfold xp_f at h
  split at h
  all_goals first
    | (rename_i hk _; exact absurd hk (by decide))
    | (rename_i hk; exact absurd hk (by decide))
    | (cases h; exact ⟨_, _, rfl, rfl⟩)
    | cases h
theorem xpf_5 {vs : List Value} {w : Value} (h : xp_f 5 vs = some w) : ∃ a, vs = [.int a] ∧ w = .int (if a < 0 then -a else a) := by
  unfold xp_f at h
  split at h
  all_goals first
    | (rename_i hk _; exact absurd hk (by decide))
    | (rename_i hk; exact absurd hk (by decide))
    | (cases h; exact ⟨_, rfl, rfl⟩)
    | cases h
theorem xpf_2a (i : Nat) (h : ¬ i < 1048576) (h2 : i < 1048631) : i - 1048576 < 55 := by omega
theorem xpf_2b (i : Nat) (h : ¬ i < 1048631) (h2 : i < 1048637) : i - 1048631 < 6 := by omega
theorem xpf_2 {vs : List Value} {w : Value} (h : xp_f 2 vs = some w) : ∃ j, j < 55 ∧ vs = [.ref (xB + j)] ∧ w = .int (nI j) := by
  unfold xp_f at h
  split at h
  all_goals first
    | (rename_i hk _; exact absurd hk (by decide))
    | (rename_i hk; exact absurd hk (by decide))
    | skip
  · rename_i i _
    by_cases h1 : i < xB
    · rw [if_pos h1] at h
      cases h
    · rw [if_neg h1] at h
      have e1 : xB + (i - xB) = i := Nat.add_sub_cancel' (Nat.not_lt.mp h1)
      by_cases h2 : i < xB + 55
      · rw [if_pos h2] at h
        cases h
        exact ⟨i - xB, xpf_2a i h1 h2, by rw [e1], rfl⟩
      · rw [if_neg h2] at h
        cases h
  · cases h
theorem xpf_7 {vs : List Value} {w : Value} (h : xp_f 7 vs = some w) : ∃ j, j < 6 ∧ vs = [.ref (xB + (55 + j))] ∧ w = .int (nI j) := by
  unfold xp_f at h
  split at h
  all_goals first
    | (rename_i hk _; exact absurd hk (by decide))
    | (rename_i hk; exact absurd hk (by decide))
    | skip
  · rename_i i _
    by_cases h1 : i < xB + 55
    · rw [if_pos h1] at h
      cases h
    · rw [if_neg h1] at h
      have e1 : xB + 55 + (i - (xB + 55)) = i := Nat.add_sub_cancel' (Nat.not_lt.mp h1)
      by_cases h2 : i < xB + 61
      · rw [if_pos h2] at h
        cases h
        exact ⟨i - (xB + 55), xpf_2b i h1 h2, by rw [← Nat.add_assoc, e1], rfl⟩
      · rw [if_neg h2] at h
        cases h
  · cases h
theorem xP_max {ix : Nat} (h1 : Cond.methodLink own ix Lib.Math.max.name ∈ lw_tbl) (h2 : Cond.static Lib.Math.max.name ∈ lw_tbl) (h3 : Cond.initialized "java/lang/Math" ∈ lw_tbl) (h4 : Cond.code Lib.Math.max.name Lib.Math.max.code 2 (some .int) ∈ lw_tbl) : xP1 L xs l own (4 * ix + 1, 3) := by
  intro ix' t vs rest v ig hq hn hg hi y cc nL ret G p e R s m args below meth c Q kc ks pc lv σ hy cx hdg hw h5 h200 hc hs kk
  have hq : 4 * ix + 1 = 4 * ix' + t := hq
  rcases hi with ⟨rfl, rfl⟩ | ⟨rfl, rfl⟩ | ⟨rfl, rfl⟩
  · omega
  · obtain rfl : ix = ix' := by omega
    obtain ⟨w, hw1, hw2⟩ := Option.map_eq_some_iff.mp (show (xp_f 3 vs).map some = some v from hg)
    cases hw2
    obtain ⟨a, b, rfl, rfl⟩ := xpf_3 hw1
    obtain ⟨hx, hml, hown, hret, hlk, hnm, hKs, hb⟩ := cx
    rw [hy] at hown
    intro H locs ls q1 q2 q3
    have hw2 : ((rest.map (mj_rv G)).map fun v => v.category).sum ≤ 8 := by simpa [Function.comp_def, mj_rv_cat] using hw
    exact va_mmax (rest := rest.map (mj_rv G)) hx.1 hx.2 (hml.trans q3.1.symm) hown (xK_w h1 rfl G s args hKs) (xK_w h2 rfl G s args hKs) (xK_w h3 rfl G s args hKs) (xK_w h4 rfl G s args hKs) (by omega) (by omega) hc hs hdg (kk H locs ls q1 q2 q3)
  · omega
theorem xP_min {ix : Nat} (h1 : Cond.methodLink own ix Lib.Math.min.name ∈ lw_tbl) (h2 : Cond.static Lib.Math.min.name ∈ lw_tbl) (h3 : Cond.initialized "java/lang/Math" ∈ lw_tbl) (h4 : Cond.code Lib.Math.min.name Lib.Math.min.code 2 (some .int) ∈ lw_tbl) : xP1 L xs l own (4 * ix + 1, 4) := by
  intro ix' t vs rest v ig hq hn hg hi y cc nL ret G p e R s m args below meth c Q kc ks pc lv σ hy cx hdg hw h5 h200 hc hs kk
  have hq : 4 * ix + 1 = 4 * ix' + t := hq
  rcases hi with ⟨rfl, rfl⟩ | ⟨rfl, rfl⟩ | ⟨rfl, rfl⟩
  · omega
  · obtain rfl : ix = ix' := by omega
    obtain ⟨w, hw1, hw2⟩ := Option.map_eq_some_iff.mp (show (xp_f 4 vs).map some = some v from hg)
    cases hw2
    obtain ⟨a, b, rfl, rfl⟩ := xpf_4 hw1
    obtain ⟨hx, hml, hown, hret, hlk, hnm, hKs, hb⟩ := cx
    rw [hy] at hown
    intro H locs ls q1 q2 q3
    have hw2 : ((rest.map (mj_rv G)).map fun v => v.category).sum ≤ 8 := by simpa [Function.comp_def, mj_rv_cat] using hw
    exact va_mmin (rest := rest.map (mj_rv G)) hx.1 hx.2 (hml.trans q3.1.symm) hown (xK_w h1 rfl G s args hKs) (xK_w h2 rfl G s args hKs) (xK_w h3 rfl G s args hKs) (xK_w h4 rfl G s args hKs) (by omega) (by omega) hc hs hdg (kk H locs ls q1 q2 q3)
  · omega
theorem xP_abs {ix : Nat} (h1 : Cond.methodLink own ix Lib.Math.abs.name ∈ lw_tbl) (h2 : Cond.static Lib.Math.abs.name ∈ lw_tbl) (h3 : Cond.initialized "java/lang/Math" ∈ lw_tbl) (h4 : Cond.code Lib.Math.abs.name Lib.Math.abs.code 1 (some .int) ∈ lw_tbl) : xP1 L xs l own (4 * ix + 1, 5) := by
  intro ix' t vs rest v ig hq hn hg hi y cc nL ret G p e R s m args below meth c Q kc ks pc lv σ hy cx hdg hw h5 h200 hc hs kk
  have hq : 4 * ix + 1 = 4 * ix' + t := hq
  rcases hi with ⟨rfl, rfl⟩ | ⟨rfl, rfl⟩ | ⟨rfl, rfl⟩
  · omega
  · obtain rfl : ix = ix' := by omega
    obtain ⟨w, hw1, hw2⟩ := Option.map_eq_some_iff.mp (show (xp_f 5 vs).map some = some v from hg)
    cases hw2
    obtain ⟨a, rfl, rfl⟩ := xpf_5 hw1
    obtain ⟨hx, hml, hown, hret, hlk, hnm, hKs, hb⟩ := cx
    rw [hy] at hown
    intro H locs ls q1 q2 q3
    have hw2 : ((rest.map (mj_rv G)).map fun v => v.category).sum ≤ 8 := by simpa [Function.comp_def, mj_rv_cat] using hw
    have e9 : (if a < 0 then -a else a) = (if 0 ≤ a then a else 0 - a) := by
      by_cases h9 : a < 0
      · rw [if_pos h9, if_neg (Int32.not_le.mpr h9), Int32.zero_sub]
      · rw [if_neg h9, if_pos (Int32.not_lt.mp h9)]
    rw [e9] at kk
    exact va_mabs (rest := rest.map (mj_rv G)) hx.1 hx.2 (hml.trans q3.1.symm) hown (xK_w h1 rfl G s args hKs) (xK_w h2 rfl G s args hKs) (xK_w h3 rfl G s args hKs) (xK_w h4 rfl G s args hKs) (by omega) (by omega) hc hs hdg (kk H locs ls q1 q2 q3)
  · omega
abbrev xyE : MethodName := ⟨"java/lang/Enum", "ordinal", "()I"⟩
theorem xdE0 : decode prog_14_method_2_code 0 = .ok (.aload_n 0, 1) := by decide +kernel
theorem xdE1 : decode prog_14_method_2_code 1 = .ok (.getfield 7, 3) := by decide +kernel
theorem xdE4 : decode prog_14_method_2_code 4 = .ok (.ireturn, 1) := by decide +kernel
/-- a constant's place -/
theorem xordW {C : String} {ix i : Nat} {x : Int32} {y : MethodName} {ret : Option FieldType} (h1 : Cond.methodLink own ix ⟨C, "ordinal", "()I"⟩ ∈ lw_tbl) (h2 : Cond.sameMethod C "java/lang/Enum" "ordinal" "()I" ∈ lw_tbl) (h3 : Cond.declares xyE ∈ lw_tbl) (h4 : Cond.selects C ⟨C, "ordinal", "()I"⟩ xyE ∈ lw_tbl) (h6 : Cond.instanceMethod xyE ∈ lw_tbl) (h7 : Cond.code xyE prog_14_method_2_code 1 (some .int) ∈ lw_tbl) (h8 : Cond.fieldLink "java/lang/Enum" 7 "java/lang/Enum" "ordinal" "I" ∈ lw_tbl)
    (hC : ∀ (s : State), xK L xs G s → va_O C (mj_ad G i) (mj_A G) s s.heap ∧ va_OF "java/lang/Enum" "ordinal" "I" (.int x) (mj_ad G i) (mj_A G) s s.heap) (hy : y.cls = own) (cx : mj_cx (xK L xs) G y cc nL ret p s m meth c) (hdg : decode cc pc = .ok (.invokevirtual ix, 3)) (hw : (rest.map fun v => v.category).sum ≤ 8) (h5 : 5 ≤ R.frames) (h200 : 200 ≤ R.locals) (hc : kc ≤ R.cells) (hs : ks ≤ R.slots)
    (kk : mj_W G xcl nL p l e R s m args below meth c Q kc ks (pc + 3) lv (.int x :: rest) σ) : mj_W G xcl nL p l e R s m args below meth c Q kc ks pc lv (.ref i :: rest) σ := by
  obtain ⟨hx, hml, hown, hret, hlk, hnm, hKs, hb⟩ := cx
  rw [hy] at hown
  obtain ⟨hO, -⟩ := hC s hKs
  have hcode := xK_w (L := L) (xs := xs) h7 rfl G s args hKs
  obtain ⟨mk, methM, hnamed, hmethM, hstM, habM⟩ := Cond.instanceMethod_spec (xK_w (L := L) (xs := xs) h6 rfl G s args hKs)
  obtain ⟨methk, ck, b1, b2, b3, b4, b5, b6, b7, b8⟩ := Cond.code_spec hnamed hcode
  cases hmethM.symm.trans b1
  refine mj_call0 (K := xK L xs) (R2 := ⟨0, 0, 0, 0⟩) (y2 := xyE) (cc2 := prog_14_method_2_code) (nL2 := 1) (ret2 := some .int) (vs := [.ref i]) (rest := rest) (o := .inl (some (.int x))) (σ' := σ) hx hml hb (xK_c L xs) hKs hdg hw hnamed b1 b2 b3 b4 b5 b6 (by decide +kernel) ⟨by show 0 + 1 ≤ _; omega, by show 8 + (1 + 11) + 0 ≤ _; omega, by show kc + 0 ≤ _; omega, by show ks + 0 ≤ _; omega⟩ (Nat.le_refl 1) ?_ ?_ ?_ (fun a ha => by cases ha)
  · intro T locs ls g1 gS X hls
    obtain ⟨r0, r, hn9, hrm, hstR, hsigR⟩ := va_Decl.abs (x := xyE) (hKs.2.1 _ (List.mem_filter.mpr ⟨h3, rfl⟩))
    obtain ⟨cn, ck9, r1, hcn, hck, hni, hf, hn1⟩ := Cond.sameMethod_found (xK_w (L := L) (xs := xs) h2 rfl G s args hKs)
    cases hn9.symm.trans hn1
    obtain ⟨c2, r2, m2, q1, q2, q3, q4, kP, hkP, hkPi⟩ := Cond.selects_spec (xK_w (L := L) (xs := xs) h4 rfl G s args hKs)
    obtain ⟨cell, o1, o2, o3, -⟩ := hO.kept gS.2.1
    cases o3.symm.trans q1
    cases hf.symm.trans q2
    cases hnamed.symm.trans q3
    have hdesc : parseMethodDescriptor "()I" = some ⟨[], some .int⟩ := by decide
    have hsg : some r.sig = some ⟨[], some .int⟩ := hsigR.symm.trans hdesc
    have hselP : selectMethod e.platform s.vm cell.cls r0 = .method mk := by rw [Launch.admits_selectMethod X.admits]; exact q4
    exact X.invokevirtualUp hx.1 hown (xK_w (L := L) (xs := xs) h1 rfl G s args hKs) (xK_w (L := L) (xs := xs) h2 rfl G s args hKs) ⟨by decide, by decide⟩ hn9 hrm hstR (a := mj_ad G i) (cell := cell) o1 (fun z h => by rw [h] at o2; cases o2) hselP hmethM habM hkP hkPi (g := F0 m pc ls (([Value.ref i].reverse ++ rest).map (mj_rv G))) rfl (argsL := []) (rest := rest.map (mj_rv G)) (by rw [Option.some.inj hsg]; rfl) rfl (by rw [hx.2]; exact hdg)
  · intro s2 args2 below2 cx2
    obtain ⟨hx2, hml2, hown2, hret2, hlk2, hnm2, hKs2, hb2⟩ := cx2
    refine mj_aload_n hx2 xdE0 (v := .ref i) rfl rfl ?_
    refine mj_getc hx2 hown2 (t := ("java/lang/Enum", "ordinal", "I", true)) (v := .int x) (hC s2 hKs2).2 (xK_FL (L := L) (xs := xs) h8 G s2 args2 hKs2) xdE1 ?_
    exact mj_iret hx2 hb2 hret2 hlk2 rfl xdE4
  · intro r hr
    cases hr
    exact kk
theorem xP_ordW {ix : Nat} (h1 : Cond.methodLink own ix ⟨xEW, "ordinal", "()I"⟩ ∈ lw_tbl) (h2 : Cond.sameMethod xEW "java/lang/Enum" "ordinal" "()I" ∈ lw_tbl) (h3 : Cond.declares xyE ∈ lw_tbl) (h4 : Cond.selects xEW ⟨xEW, "ordinal", "()I"⟩ xyE ∈ lw_tbl) (h6 : Cond.instanceMethod xyE ∈ lw_tbl) (h7 : Cond.code xyE prog_14_method_2_code 1 (some .int) ∈ lw_tbl) (h8 : Cond.fieldLink "java/lang/Enum" 7 "java/lang/Enum" "ordinal" "I" ∈ lw_tbl) : xP1 L xs l own (4 * ix, 2) := by
  intro ix' t vs rest v ig hq hn hg hi y cc nL ret G p e R s m args below meth c Q kc ks pc lv σ hy cx hdg hw h5 h200 hc hs kk
  have hq : 4 * ix = 4 * ix' + t := hq
  rcases hi with ⟨rfl, rfl⟩ | ⟨rfl, rfl⟩ | ⟨rfl, rfl⟩
  · obtain rfl : ix = ix' := by omega
    obtain ⟨w, hw1, hw2⟩ := Option.map_eq_some_iff.mp (show (xp_f 2 vs).map some = some v from hg)
    cases hw2
    obtain ⟨j, hj, rfl, rfl⟩ := xpf_2 hw1
    refine xordW h1 h2 h3 h4 h6 h7 h8 (fun s hK => ⟨(hK.2.2.2.1.1 j hj).2.1, ?_⟩) hy cx hdg hw h5 h200 hc hs kk
    have h9 := hK.2.2.2.1.2.2.1 j (Nat.lt_of_lt_of_le hj (by decide))
    rw [if_pos hj] at h9
    exact h9
  · omega
  · omega
theorem xP_ordF {ix : Nat} (h1 : Cond.methodLink own ix ⟨xEF, "ordinal", "()I"⟩ ∈ lw_tbl) (h2 : Cond.sameMethod xEF "java/lang/Enum" "ordinal" "()I" ∈ lw_tbl) (h3 : Cond.declares xyE ∈ lw_tbl) (h4 : Cond.selects xEF ⟨xEF, "ordinal", "()I"⟩ xyE ∈ lw_tbl) (h6 : Cond.instanceMethod xyE ∈ lw_tbl) (h7 : Cond.code xyE prog_14_method_2_code 1 (some .int) ∈ lw_tbl) (h8 : Cond.fieldLink "java/lang/Enum" 7 "java/lang/Enum" "ordinal" "I" ∈ lw_tbl) : xP1 L xs l own (4 * ix, 7) := by
  intro ix' t vs rest v ig hq hn hg hi y cc nL ret G p e R s m args below meth c Q kc ks pc lv σ hy cx hdg hw h5 h200 hc hs kk
  have hq : 4 * ix = 4 * ix' + t := hq
  rcases hi with ⟨rfl, rfl⟩ | ⟨rfl, rfl⟩ | ⟨rfl, rfl⟩
  · obtain rfl : ix = ix' := by omega
    obtain ⟨w, hw1, hw2⟩ := Option.map_eq_some_iff.mp (show (xp_f 7 vs).map some = some v from hg)
    cases hw2
    obtain ⟨j, hj, rfl, rfl⟩ := xpf_7 hw1
    refine xordW h1 h2 h3 h4 h6 h7 h8 (fun s hK => ⟨(hK.2.2.2.1.2.1 j hj).2, ?_⟩) hy cx hdg hw h5 h200 hc hs kk
    have h9 := hK.2.2.2.1.2.2.1 (55 + j) (Nat.add_lt_add_left hj 55)
    rw [if_neg (Nat.not_lt.mpr (Nat.le_add_right 55 j)), Nat.add_sub_cancel_left] at h9
    exact h9
  · omega
  · omega
end XP
