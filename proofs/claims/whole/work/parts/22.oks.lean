/-! Methods that only answer: a text's length and letters, by the library's own code -/
section XS
variable {p : Program} {l : Launch} {e : Env} {R : Room} {s : State} {m : MethodId} {args : Array Value} {below : List Frame} {meth : Method} {c : Code} {Q : State → Prop}
variable {G : mj_G} {nL kc ks : Nat} {cc : ByteArray} {ret : Option FieldType} {pc : Nat} {lv : List (Nat × Value)} {st rest : List Value} {σ : mj_S} {y1 : MethodName} {L : Nat} {xs : Nat → Int32}
theorem mj_bldc (hx : p.tables.exec = Jvm.exec ∧ c.code = cc) {a n : Nat} {f : Nat → Int32} (hT : va_T .byte (mj_ad G a) n (fun j => .int (f j)) (mj_A G) s s.heap) {i : Int32} (hin : vp_in i n) (hdg : decode cc pc = .ok (.baload, 1))
    (kk : mj_W G xcl nL p l e R s m args below meth c Q kc ks (pc + 1) lv (.int (f i.toNatClampNeg) :: st) σ) : mj_W G xcl nL p l e R s m args below meth c Q kc ks pc lv (.int i :: .ref a :: st) σ := by
  intro H locs ls h1 h2 h3
  exact va_tb hx.1 hx.2 hT h2 hin rfl hdg (kk H locs ls h1 h2 h3)
theorem mj_ishr (hx : p.tables.exec = Jvm.exec ∧ c.code = cc) {x y : Int32} (hdg : decode cc pc = .ok (.ishr, 1))
    (kk : mj_W G xcl nL p l e R s m args below meth c Q kc ks (pc + 1) lv (.int (x >>> (y &&& 31)) :: st) σ) : mj_W G xcl nL p l e R s m args below meth c Q kc ks pc lv (.int y :: .int x :: st) σ := by
  intro H locs ls h1 h2 h3
  exact lv_ishr hx.1 hx.2 hdg (kk H locs ls h1 h2 h3)
/-- a static call -/
theorem xcallS {y : MethodName} {cc2 : ByteArray} {nL2 ix d : Nat} {ret2 : Option FieldType} {vs : List Value} {o : Option Value} (cx : mj_cx (xK L xs) G y1 cc nL ret p s m meth c) (hdg : decode cc pc = .ok (.invokestatic ix, 3)) (w1 : Cond.methodLink y1.cls ix y ∈ lw_tbl) (w2 : Cond.static y ∈ lw_tbl) (w3 : Cond.initialized y.cls ∈ lw_tbl) (w4 : Cond.code y cc2 nL2 ret2 ∈ lw_tbl) (hp : plainName y.cls = true ∧ (y.cls ≠ "java/lang/invoke/MethodHandle" ∧ y.cls ≠ "java/lang/invoke/VarHandle")) (hn : (parseMethodDescriptor y.desc).map (fun d => d.parameters.length) = some vs.length) (h21 : nL2 ≤ 21) (hw : (rest.map fun v => v.category).sum ≤ 8) (hvs : (lg_sl vs).length ≤ nL2) (hd : d + 1 ≤ R.frames) (hd2 : 40 * (d + 1) ≤ R.locals) (hc : kc ≤ R.cells) (hs : ks ≤ R.slots)
    (hcal : ∀ (s2 : State) (m2 : MethodId) (args2 : Array Value) (below2 : List Frame) (meth2 : Method) (c2 : Code), mj_cx (xK L xs) G y cc2 nL2 ret2 p s2 m2 meth2 c2 → mj_W G xcl nL2 p l e ⟨d, 0, 0, 40 * d⟩ s2 m2 args2 below2 meth2 c2 (mj_MQ G xcl (.inl o) σ below2 s2 0 0) 0 0 0 (lv_args 0 vs) [] σ)
    (kk : mj_W G xcl nL p l e R s m args below meth c Q kc ks (pc + 3) lv (o.toList ++ rest) σ) : mj_W G xcl nL p l e R s m args below meth c Q kc ks pc lv (vs.reverse ++ rest) σ := by
  obtain ⟨hx, hml, hown, hret, hlk, hnm, hKs, hb⟩ := id cx
  obtain ⟨J, hJ⟩ : ∃ J : mx_I, J = (y, cc2, nL2, ret2, xb_L, [], false, 0, vs.length, 0, []) := ⟨_, rfl⟩
  have oM : mx_okM (xK L xs) xcl J := by
    rw [hJ]
    exact xoM_0 rfl hp (xoY_c rfl w4) w3 h21 w2 hn
  have oJ : mx_okJ (xK L xs) y1.cls ix J := by
    rw [hJ]
    exact Or.inl (xK_w w1 rfl)
  obtain ⟨mk, methk, ck, hnamed, b1, b2, b3, b4, b5, b6, b8, hEk⟩ := oM.2.2.1 G s hKs
  rw [hJ] at hnamed b3 b4 b5
  have hdg' : decode c.code pc = .ok (.invokestatic ix, 3) := by rw [hx.2]; exact hdg
  refine mj_call0 (K := xK L xs) (R2 := ⟨d, 0, 0, 40 * d⟩) (o := .inl o) (σ' := σ) hx hml hb (xK_c L xs) hKs hdg hw hnamed b1 b2 b3 b4 b5 b6 hp.1 ⟨hd, by show 8 + (nL2 + 11) + 40 * d ≤ _; omega, by show kc + 0 ≤ _; omega, by show ks + 0 ≤ _; omega⟩ hvs ?_ (fun s2 args2 below2 cx2 => hcal s2 mk args2 below2 methk ck cx2) ?_ (fun a ha => by cases ha)
  · intro T locs ls g1 _ X hls
    exact mx_invS (I := (y1, cc, nL, ret, xb_L, [], false, 0, 0, 0, [])) hx hown hKs oJ oM (by rw [hJ]) (by rw [hJ]) hdg (by rw [hJ]; exact hnamed) T locs ls g1 X hls
  · intro r hr
    cases hr
    exact kk
/-- a call by a constant's class -/
theorem xcallC {y : MethodName} {cc2 : ByteArray} {nL2 ix d i : Nat} {ret2 : Option FieldType} {As : List Value} {o : Option Value} (cx : mj_cx (xK L xs) G y1 cc nL ret p s m meth c) (hdg : decode cc pc = .ok (.invokevirtual ix, 3)) (w1 : Cond.methodLink y1.cls ix y ∈ lw_tbl) (w2 : Cond.instanceMethod y ∈ lw_tbl) (w3 : Cond.selects y.cls y y ∈ lw_tbl) (w4 : Cond.code y cc2 nL2 ret2 ∈ lw_tbl) (hp : plainName y.cls = true ∧ (y.cls ≠ "java/lang/invoke/MethodHandle" ∧ y.cls ≠ "java/lang/invoke/VarHandle")) (hn : (parseMethodDescriptor y.desc).map (fun d => d.parameters.length + 1) = some (Value.ref i :: As).length) (h21 : nL2 ≤ 21) (hO : va_O y.cls (mj_ad G i) (mj_A G) s s.heap) (hw : (rest.map fun v => v.category).sum ≤ 8) (hvs : (lg_sl (.ref i :: As)).length ≤ nL2) (hd : d + 1 ≤ R.frames) (hd2 : 40 * (d + 1) ≤ R.locals) (hc : kc ≤ R.cells) (hs : ks ≤ R.slots)
    (hcal : ∀ (s2 : State) (m2 : MethodId) (args2 : Array Value) (below2 : List Frame) (meth2 : Method) (c2 : Code), mj_cx (xK L xs) G y cc2 nL2 ret2 p s2 m2 meth2 c2 → mj_W G xcl nL2 p l e ⟨d, 0, 0, 40 * d⟩ s2 m2 args2 below2 meth2 c2 (mj_MQ G xcl (.inl o) σ below2 s2 0 0) 0 0 0 (lv_args 0 (.ref i :: As)) [] σ)
    (kk : mj_W G xcl nL p l e R s m args below meth c Q kc ks (pc + 3) lv (o.toList ++ rest) σ) : mj_W G xcl nL p l e R s m args below meth c Q kc ks pc lv ((Value.ref i :: As).reverse ++ rest) σ := by
  obtain ⟨hx, hml, hown, hret, hlk, hnm, hKs, hb⟩ := id cx
  obtain ⟨mk, methM, hnamed, hmethM, hstM, habM⟩ := Cond.instanceMethod_spec (xK_w (L := L) (xs := xs) w2 rfl G s args hKs)
  obtain ⟨methk, ck, b1, b2, b3, b4, b5, b6, b7, b8⟩ := Cond.code_spec hnamed (xK_w (L := L) (xs := xs) w4 rfl G s args hKs)
  cases hmethM.symm.trans b1
  refine mj_call0 (K := xK L xs) (R2 := ⟨d, 0, 0, 40 * d⟩) (o := .inl o) (σ' := σ) (vs := .ref i :: As) hx hml hb (xK_c L xs) hKs hdg hw hnamed b1 b2 b3 b4 b5 b6 hp.1 ⟨hd, by show 8 + (nL2 + 11) + 40 * d ≤ _; omega, by show kc + 0 ≤ _; omega, by show ks + 0 ≤ _; omega⟩ hvs ?_ (fun s2 args2 below2 cx2 => hcal s2 mk args2 below2 methM ck cx2) ?_ (fun a ha => by cases ha)
  · intro T locs ls g1 gS X hls
    obtain ⟨cell, o1, o2, o3, -⟩ := hO.kept gS.2.1
    obtain ⟨c2, r2, m2, q1, q2, q3, q4, kP, hkP, hkPi⟩ := Cond.selects_spec (xK_w (L := L) (xs := xs) w3 rfl G s args hKs)
    cases o3.symm.trans q1
    cases (State.methodFound?_of_named hnamed hp.2).symm.trans q2
    cases hnamed.symm.trans q3
    have hselP : selectMethod e.platform s.vm cell.cls mk = .method mk := by rw [Launch.admits_selectMethod X.admits]; exact q4
    have hlen : (As.map (mj_rv G)).length = methM.sig.parameters.length := by
      have h9 := mx_plen (k := 1) hn _ b8
      rw [List.length_cons] at h9
      rw [List.length_map]
      omega
    have hst : ((Value.ref i :: As).reverse ++ rest).map (mj_rv G) = (As.map (mj_rv G)).reverse ++ .ref (mj_ad G i) :: rest.map (mj_rv G) := by
      rw [List.reverse_cons, List.append_assoc, List.map_append, List.map_reverse]
      rfl
    exact X.invokevirtual hx.1 hown (xK_w (L := L) (xs := xs) w1 rfl G s args hKs) hnamed hmethM hstM hkP hkPi hp.2 (a := mj_ad G i) (cell := cell) o1 (fun z h => by rw [h] at o2; cases o2) hselP hmethM habM hkP hkPi (g := F0 m pc ls (((Value.ref i :: As).reverse ++ rest).map (mj_rv G))) rfl (argsL := As.map (mj_rv G)) (rest := rest.map (mj_rv G)) hlen hst (by rw [hx.2]; exact hdg)
  · intro r hr
    cases hr
    exact kk
abbrev xySP : MethodName := ⟨"jdk/internal/util/Preconditions", "checkIndex", "(IILjava/util/function/BiFunction;)I"⟩
theorem dSP0 : decode prog_27_method_11_code 0 = .ok (.iload_n 0, 1) := by decide +kernel
theorem dSP1 : decode prog_27_method_11_code 1 = .ok (.ifCond .lt 8, 3) := by decide +kernel
theorem dSP4 : decode prog_27_method_11_code 4 = .ok (.iload_n 0, 1) := by decide +kernel
theorem dSP5 : decode prog_27_method_11_code 5 = .ok (.iload_n 1, 1) := by decide +kernel
theorem dSP6 : decode prog_27_method_11_code 6 = .ok (.if_icmp .lt 10, 3) := by decide +kernel
theorem dSP9 : decode prog_27_method_11_code 9 = .ok (.aload_n 2, 1) := by decide +kernel
theorem dSP10 : decode prog_27_method_11_code 10 = .ok (.iload_n 0, 1) := by decide +kernel
theorem dSP11 : decode prog_27_method_11_code 11 = .ok (.iload_n 1, 1) := by decide +kernel
theorem dSP12 : decode prog_27_method_11_code 12 = .ok (.invokestatic 95, 3) := by decide +kernel
theorem dSP15 : decode prog_27_method_11_code 15 = .ok (.athrow, 1) := by decide +kernel
theorem dSP16 : decode prog_27_method_11_code 16 = .ok (.iload_n 0, 1) := by decide +kernel
theorem dSP17 : decode prog_27_method_11_code 17 = .ok (.ireturn, 1) := by decide +kernel
abbrev xySX : MethodName := ⟨"java/lang/String", "checkIndex", "(II)V"⟩
theorem dSX0 : decode prog_21_method_155_code 0 = .ok (.iload_n 0, 1) := by decide +kernel
theorem dSX1 : decode prog_21_method_155_code 1 = .ok (.iload_n 1, 1) := by decide +kernel
theorem dSX2 : decode prog_21_method_155_code 2 = .ok (.getstatic 1053, 3) := by decide +kernel
theorem dSX5 : decode prog_21_method_155_code 5 = .ok (.invokestatic 1059, 3) := by decide +kernel
theorem dSX8 : decode prog_21_method_155_code 8 = .ok (.pop, 1) := by decide +kernel
theorem dSX9 : decode prog_21_method_155_code 9 = .ok (.return_, 1) := by decide +kernel
abbrev xySB : MethodName := ⟨"java/lang/StringLatin1", "charAt", "([BI)C"⟩
theorem dSB0 : decode prog_22_method_2_code 0 = .ok (.iload_n 1, 1) := by decide +kernel
theorem dSB1 : decode prog_22_method_2_code 1 = .ok (.aload_n 0, 1) := by decide +kernel
theorem dSB2 : decode prog_22_method_2_code 2 = .ok (.arraylength, 1) := by decide +kernel
theorem dSB3 : decode prog_22_method_2_code 3 = .ok (.invokestatic 9, 3) := by decide +kernel
theorem dSB6 : decode prog_22_method_2_code 6 = .ok (.aload_n 0, 1) := by decide +kernel
theorem dSB7 : decode prog_22_method_2_code 7 = .ok (.iload_n 1, 1) := by decide +kernel
theorem dSB8 : decode prog_22_method_2_code 8 = .ok (.baload, 1) := by decide +kernel
theorem dSB9 : decode prog_22_method_2_code 9 = .ok (.sipush 255, 3) := by decide +kernel
theorem dSB12 : decode prog_22_method_2_code 12 = .ok (.iand, 1) := by decide +kernel
theorem dSB13 : decode prog_22_method_2_code 13 = .ok (.i2c, 1) := by decide +kernel
theorem dSB14 : decode prog_22_method_2_code 14 = .ok (.ireturn, 1) := by decide +kernel
abbrev xySI : MethodName := ⟨"java/lang/String", "isLatin1", "()Z"⟩
theorem dSI0 : decode prog_21_method_154_code 0 = .ok (.getstatic 38, 3) := by decide +kernel
theorem dSI3 : decode prog_21_method_154_code 3 = .ok (.ifCond .eq 14, 3) := by decide +kernel
theorem dSI6 : decode prog_21_method_154_code 6 = .ok (.aload_n 0, 1) := by decide +kernel
theorem dSI7 : decode prog_21_method_154_code 7 = .ok (.getfield 15, 3) := by decide +kernel
theorem dSI10 : decode prog_21_method_154_code 10 = .ok (.ifCond .ne 7, 3) := by decide +kernel
theorem dSI13 : decode prog_21_method_154_code 13 = .ok (.iconst 1, 1) := by decide +kernel
theorem dSI14 : decode prog_21_method_154_code 14 = .ok (.goto 4, 3) := by decide +kernel
theorem dSI17 : decode prog_21_method_154_code 17 = .ok (.iconst 0, 1) := by decide +kernel
theorem dSI18 : decode prog_21_method_154_code 18 = .ok (.ireturn, 1) := by decide +kernel
abbrev xySA : MethodName := ⟨"java/lang/String", "charAt", "(I)C"⟩
theorem dSA0 : decode prog_21_method_56_code 0 = .ok (.aload_n 0, 1) := by decide +kernel
theorem dSA1 : decode prog_21_method_56_code 1 = .ok (.invokevirtual 492, 3) := by decide +kernel
theorem dSA4 : decode prog_21_method_56_code 4 = .ok (.ifCond .eq 12, 3) := by decide +kernel
theorem dSA7 : decode prog_21_method_56_code 7 = .ok (.aload_n 0, 1) := by decide +kernel
theorem dSA8 : decode prog_21_method_56_code 8 = .ok (.getfield 9, 3) := by decide +kernel
theorem dSA11 : decode prog_21_method_56_code 11 = .ok (.iload_n 1, 1) := by decide +kernel
theorem dSA12 : decode prog_21_method_56_code 12 = .ok (.invokestatic 495, 3) := by decide +kernel
theorem dSA15 : decode prog_21_method_56_code 15 = .ok (.ireturn, 1) := by decide +kernel
theorem dSA16 : decode prog_21_method_56_code 16 = .ok (.aload_n 0, 1) := by decide +kernel
theorem dSA17 : decode prog_21_method_56_code 17 = .ok (.getfield 9, 3) := by decide +kernel
theorem dSA20 : decode prog_21_method_56_code 20 = .ok (.iload_n 1, 1) := by decide +kernel
theorem dSA21 : decode prog_21_method_56_code 21 = .ok (.invokestatic 498, 3) := by decide +kernel
theorem dSA24 : decode prog_21_method_56_code 24 = .ok (.ireturn, 1) := by decide +kernel
abbrev xySO : MethodName := ⟨"java/lang/String", "coder", "()B"⟩
theorem dSO0 : decode prog_21_method_152_code 0 = .ok (.getstatic 38, 3) := by decide +kernel
theorem dSO3 : decode prog_21_method_152_code 3 = .ok (.ifCond .eq 10, 3) := by decide +kernel
theorem dSO6 : decode prog_21_method_152_code 6 = .ok (.aload_n 0, 1) := by decide +kernel
theorem dSO7 : decode prog_21_method_152_code 7 = .ok (.getfield 15, 3) := by decide +kernel
theorem dSO10 : decode prog_21_method_152_code 10 = .ok (.goto 4, 3) := by decide +kernel
theorem dSO13 : decode prog_21_method_152_code 13 = .ok (.iconst 1, 1) := by decide +kernel
theorem dSO14 : decode prog_21_method_152_code 14 = .ok (.ireturn, 1) := by decide +kernel
abbrev xySN : MethodName := ⟨"java/lang/String", "length", "()I"⟩
theorem dSN0 : decode prog_21_method_54_code 0 = .ok (.aload_n 0, 1) := by decide +kernel
theorem dSN1 : decode prog_21_method_54_code 1 = .ok (.getfield 9, 3) := by decide +kernel
theorem dSN4 : decode prog_21_method_54_code 4 = .ok (.arraylength, 1) := by decide +kernel
theorem dSN5 : decode prog_21_method_54_code 5 = .ok (.aload_n 0, 1) := by decide +kernel
theorem dSN6 : decode prog_21_method_54_code 6 = .ok (.invokevirtual 335, 3) := by decide +kernel
theorem dSN9 : decode prog_21_method_54_code 9 = .ok (.ishr, 1) := by decide +kernel
theorem dSN10 : decode prog_21_method_54_code 10 = .ok (.ireturn, 1) := by decide +kernel
theorem xs_pre {fm : Value} {i n : Int32} (h0 : ¬ i < 0) (h1 : i < n) (cx : mj_cx (xK L xs) G xySP prog_27_method_11_code 3 (some .int) p s m meth c) : mj_W G xcl 3 p l e R s m args below meth c (mj_MQ G xcl (.inl (some (.int i))) σ below s kc ks) kc ks 0 (lv_args 0 [.int i, .int n, fm]) [] σ := by
  obtain ⟨hx, hml, hown, hret, hlk, hnm, hKs, hb⟩ := cx
  refine mj_iload_n hx dSP0 (x := i) rfl ?_
  refine mj_if_lt hx dSP1 (tgt := 9) rfl (fun q => absurd q h0) (fun _ => ?_)
  refine mj_iload_n hx dSP4 (x := i) rfl ?_
  refine mj_iload_n hx dSP5 (x := n) rfl ?_
  refine mj_icmp_lt hx dSP6 (tgt := 16) rfl (fun _ => ?_) (fun q => absurd h1 q)
  refine mj_iload_n hx dSP16 (x := i) rfl ?_
  exact mj_iret hx hb hret hlk rfl dSP17
theorem xs_chk {i n : Int32} (h0 : ¬ i < 0) (h1 : i < n) (hd : 1 ≤ R.frames) (hd2 : 40 ≤ R.locals) (hc : kc ≤ R.cells) (hs : ks ≤ R.slots) (cx : mj_cx (xK L xs) G xySX prog_21_method_155_code 2 none p s m meth c) : mj_W G xcl 2 p l e R s m args below meth c (mj_MQ G xcl (.inl none) σ below s kc ks) kc ks 0 (lv_args 0 [.int i, .int n]) [] σ := by
  obtain ⟨hx, hml, hown, hret, hlk, hnm, hKs, hb⟩ := id cx
  obtain ⟨-, -, -, -, -, -, -, -, -, -, -, -, c13, -, -⟩ := id hKs.2.2.2.1
  refine mj_iload_n hx dSX0 (x := i) rfl ?_
  refine mj_iload_n hx dSX1 (x := n) rfl ?_
  have key : ∀ fm : Value, fm.category = 1 → mj_W G xcl 2 p l e R s m args below meth c (mj_MQ G xcl (.inl none) σ below s kc ks) kc ks 5 (lv_args 0 [.int i, .int n]) ([.int i, .int n, fm].reverse ++ []) σ := fun fm hfm => by
    refine xcallS (d := 0) (o := some (.int i)) (rest := []) cx dSX5 (xm2 229 (by decide +kernel)) (xm2 230 (by decide +kernel)) (xm1 20 (by decide +kernel)) (xm2 231 (by decide +kernel)) (by decide +kernel) (by show _ = some 3; decide +kernel) (by decide) (by decide) ?_ hd (by omega) hc hs (fun s2 m2 args2 below2 meth2 c2 cx2 => xs_pre h0 h1 cx2) ?_
    · simp [lg_sl, hfm, show (Value.int i).category = 1 from rfl, show (Value.int n).category = 1 from rfl]
    refine mj_pop hx dSX8 rfl ?_
    exact mj_vret hx hb hret hlk dSX9
  rcases c13 with hz | hz
  · exact mj_gets hx hown (t := ("jdk/internal/util/Preconditions", "SIOOBE_FORMATTER", "Ljava/util/function/BiFunction;", true)) (v := .null) hz (xK_FL (L := L) (xs := xs) (xm2 227 (by decide +kernel)) G s args hKs) dSX2 (key .null rfl)
  · exact mj_gets hx hown (t := ("jdk/internal/util/Preconditions", "SIOOBE_FORMATTER", "Ljava/util/function/BiFunction;", true)) (v := .ref (xB + 85)) hz (xK_FL (L := L) (xs := xs) (xm2 227 (by decide +kernel)) G s args hKs) dSX2 (key (.ref (xB + 85)) rfl)
theorem xs_lat {i : Int32} {k n : Nat} {f : Nat → Int32} {r : Int32} (h0 : ¬ i < 0) (h1 : i < nI n) (hin : vp_in i n) (hT : ∀ s : State, xK L xs G s → va_T .byte (mj_ad G (xB + k)) n (fun j => .int (f j)) (mj_A G) s s.heap) (hr : ((f i.toNatClampNeg &&& (Int16.ofInt 255).toInt32).toUInt32 % 65536).toInt32 = r) (hn : narrow .char (.int r) = .int r) (hd : 2 ≤ R.frames) (hd2 : 80 ≤ R.locals) (hc : kc ≤ R.cells) (hs : ks ≤ R.slots) (cx : mj_cx (xK L xs) G xySB prog_22_method_2_code 2 (some .char) p s m meth c) : mj_W G xcl 2 p l e R s m args below meth c (mj_MQ G xcl (.inl (some (.int r))) σ below s kc ks) kc ks 0 (lv_args 0 [.ref (xB + k), .int i]) [] σ := by
  obtain ⟨hx, hml, hown, hret, hlk, hnm, hKs, hb⟩ := id cx
  refine mj_iload_n hx dSB0 (x := i) rfl ?_
  refine mj_aload_n hx dSB1 (v := .ref (xB + k)) rfl rfl ?_
  refine mj_alenc hx (hT s hKs) dSB2 ?_
  refine xcallS (vs := [.int i, .int (nI n)]) (d := 1) (o := none) (rest := []) cx dSB3 (xm2 224 (by decide +kernel)) (xm2 225 (by decide +kernel)) (xm1 17 (by decide +kernel)) (xm2 226 (by decide +kernel)) (by decide +kernel) (by show _ = some 2; decide +kernel) (by decide) (by decide) (Nat.le_refl 2) hd (by omega) hc hs (fun s2 m2 args2 below2 meth2 c2 cx2 => xs_chk h0 h1 (Nat.le_refl _) (Nat.le_refl _) (Nat.le_refl _) (Nat.le_refl _) cx2) ?_
  refine mj_aload_n hx dSB6 (v := .ref (xB + k)) rfl rfl ?_
  refine mj_iload_n hx dSB7 (x := i) rfl ?_
  refine mj_bldc hx (hT s hKs) hin dSB8 ?_
  refine mj_sipush hx dSB9 ?_
  refine mj_iand hx dSB12 ?_
  refine mj_i2c hx dSB13 ?_
  refine mj_topi hr ?_
  exact mj_iret hx hb hret hlk hn dSB14
/-- what is known of the text k -/
theorem xs_txt {k : Nat} (hk : k < 10) (hKs : xK L xs G s) : va_O "java/lang/String" (mj_ad G (xB + (65 + k))) (mj_A G) s s.heap ∧ va_OF "java/lang/String" "coder" "B" (.int 0) (mj_ad G (xB + (65 + k))) (mj_A G) s s.heap ∧ va_OF "java/lang/String" "value" "[B" (.ref (mj_ad G (xB + (75 + k)))) (mj_ad G (xB + (65 + k))) (mj_A G) s s.heap ∧ va_T .byte (mj_ad G (xB + (75 + k))) ((xw_str.map List.length).getD k 0) (fun j => .int ((xw_str.getD k []).getD j 0)) (mj_A G) s s.heap := by
  obtain ⟨-, -, -, -, -, -, -, -, -, -, c11, -, -, -, -⟩ := id hKs.2.2.2.1
  exact c11.1 k hk
theorem xs_cmp (hKs : xK L xs G s) : va_Z "java/lang/String" "COMPACT_STRINGS" "Z" (.int 1) (mj_A G) s s.heap := by
  obtain ⟨-, -, -, -, -, -, -, -, -, -, -, c12, -, -, -⟩ := id hKs.2.2.2.1
  exact c12
theorem xs_isl {k : Nat} (hk : k < 10) (cx : mj_cx (xK L xs) G xySI prog_21_method_154_code 1 (some .boolean) p s m meth c) : mj_W G xcl 1 p l e R s m args below meth c (mj_MQ G xcl (.inl (some (.int 1))) σ below s kc ks) kc ks 0 (lv_args 0 [.ref (xB + (65 + k))]) [] σ := by
  obtain ⟨hx, hml, hown, hret, hlk, hnm, hKs, hb⟩ := id cx
  refine mj_gets hx hown (t := ("java/lang/String", "COMPACT_STRINGS", "Z", true)) (v := .int 1) (xs_cmp hKs) (xK_FL (L := L) (xs := xs) (t := ("java/lang/String", "COMPACT_STRINGS", "Z", true)) (xm2 140 (by decide +kernel)) G s args hKs) dSI0 ?_
  refine mj_if_eq hx dSI3 (tgt := 17) rfl (fun q => absurd q (by decide)) (fun _ => ?_)
  refine mj_aload_n hx dSI6 (v := .ref (xB + (65 + k))) rfl rfl ?_
  refine mj_getc hx hown (t := ("java/lang/String", "coder", "B", true)) (v := .int 0) (xs_txt hk hKs).2.1 (xK_FL (L := L) (xs := xs) (t := ("java/lang/String", "coder", "B", true)) (xm5 224 (by decide +kernel)) G s args hKs) dSI7 ?_
  refine mj_if_ne hx dSI10 (tgt := 17) rfl (fun q => absurd rfl q) (fun _ => ?_)
  refine mj_iconst hx dSI13 ?_
  refine mj_goto hx dSI14 (tgt := 18) rfl ?_
  refine mj_topi (y := 1) (by decide) ?_
  exact mj_iret hx hb hret hlk rfl dSI18
theorem xs_cod {k : Nat} (hk : k < 10) (cx : mj_cx (xK L xs) G xySO prog_21_method_152_code 1 (some .byte) p s m meth c) : mj_W G xcl 1 p l e R s m args below meth c (mj_MQ G xcl (.inl (some (.int 0))) σ below s kc ks) kc ks 0 (lv_args 0 [.ref (xB + (65 + k))]) [] σ := by
  obtain ⟨hx, hml, hown, hret, hlk, hnm, hKs, hb⟩ := id cx
  refine mj_gets hx hown (t := ("java/lang/String", "COMPACT_STRINGS", "Z", true)) (v := .int 1) (xs_cmp hKs) (xK_FL (L := L) (xs := xs) (t := ("java/lang/String", "COMPACT_STRINGS", "Z", true)) (xm2 140 (by decide +kernel)) G s args hKs) dSO0 ?_
  refine mj_if_eq hx dSO3 (tgt := 13) rfl (fun q => absurd q (by decide)) (fun _ => ?_)
  refine mj_aload_n hx dSO6 (v := .ref (xB + (65 + k))) rfl rfl ?_
  refine mj_getc hx hown (t := ("java/lang/String", "coder", "B", true)) (v := .int 0) (xs_txt hk hKs).2.1 (xK_FL (L := L) (xs := xs) (t := ("java/lang/String", "coder", "B", true)) (xm5 224 (by decide +kernel)) G s args hKs) dSO7 ?_
  refine mj_goto hx dSO10 (tgt := 14) rfl ?_
  exact mj_iret hx hb hret hlk rfl dSO14
theorem xs_len {k n : Nat} (hk : k < 10) (hn : (xw_str.map List.length).getD k 0 = n) (hr : nI n >>> ((0 : Int32) &&& 31) = nI n) (hd : 1 ≤ R.frames) (hd2 : 40 ≤ R.locals) (hc : kc ≤ R.cells) (hs : ks ≤ R.slots) (cx : mj_cx (xK L xs) G xySN prog_21_method_54_code 1 (some .int) p s m meth c) : mj_W G xcl 1 p l e R s m args below meth c (mj_MQ G xcl (.inl (some (.int (nI n)))) σ below s kc ks) kc ks 0 (lv_args 0 [.ref (xB + (65 + k))]) [] σ := by
  obtain ⟨hx, hml, hown, hret, hlk, hnm, hKs, hb⟩ := id cx
  subst hn
  obtain ⟨t1, t2, t3, t4⟩ := xs_txt hk hKs
  refine mj_aload_n hx dSN0 (v := .ref (xB + (65 + k))) rfl rfl ?_
  refine mj_getc hx hown (t := ("java/lang/String", "value", "[B", true)) (v := .ref (xB + (75 + k))) t3 (xK_FL (L := L) (xs := xs) (t := ("java/lang/String", "value", "[B", true)) (xm5 223 (by decide +kernel)) G s args hKs) dSN1 ?_
  refine mj_alenc hx t4 dSN4 ?_
  refine mj_aload_n hx dSN5 (v := .ref (xB + (65 + k))) rfl rfl ?_
  refine xcallC (i := xB + (65 + k)) (As := []) (d := 0) (o := some (.int 0)) (rest := [.int (nI ((xw_str.map List.length).getD k 0))]) cx dSN6 (xm2 136 (by decide +kernel)) (xm2 137 (by decide +kernel)) (xm2 138 (by decide +kernel)) (xm2 139 (by decide +kernel)) (by decide +kernel) (by show _ = some 1; decide +kernel) (by decide) t1 (by simp [Value.category]) (Nat.le_refl 1) hd (by omega) hc hs (fun s2 m2 args2 below2 meth2 c2 cx2 => xs_cod hk cx2) ?_
  refine mj_ishr hx dSN9 ?_
  refine mj_topi hr ?_
  exact mj_iret hx hb hret hlk rfl dSN10
theorem xs_chr {i : Int32} {k n : Nat} {r : Int32} (hk : k < 10) (hn0 : (xw_str.map List.length).getD k 0 = n) (h0 : ¬ i < 0) (h1 : i < nI n) (hin : vp_in i n) (hr : (((xw_str.getD k []).getD i.toNatClampNeg 0 &&& (Int16.ofInt 255).toInt32).toUInt32 % 65536).toInt32 = r) (hn : narrow .char (.int r) = .int r) (hd : 3 ≤ R.frames) (hd2 : 120 ≤ R.locals) (hc : kc ≤ R.cells) (hs : ks ≤ R.slots) (cx : mj_cx (xK L xs) G xySA prog_21_method_56_code 2 (some .char) p s m meth c) : mj_W G xcl 2 p l e R s m args below meth c (mj_MQ G xcl (.inl (some (.int r))) σ below s kc ks) kc ks 0 (lv_args 0 [.ref (xB + (65 + k)), .int i]) [] σ := by
  obtain ⟨hx, hml, hown, hret, hlk, hnm, hKs, hb⟩ := id cx
  subst hn0
  obtain ⟨t1, t2, t3, t4⟩ := xs_txt hk hKs
  refine mj_aload_n hx dSA0 (v := .ref (xB + (65 + k))) rfl rfl ?_
  refine xcallC (i := xB + (65 + k)) (As := []) (d := 2) (o := some (.int 1)) (rest := []) cx dSA1 (xm2 217 (by decide +kernel)) (xm2 218 (by decide +kernel)) (xm2 219 (by decide +kernel)) (xm2 220 (by decide +kernel)) (by decide +kernel) (by show _ = some 1; decide +kernel) (by decide) t1 (by decide) (Nat.le_refl 1) hd (by omega) hc hs (fun s2 m2 args2 below2 meth2 c2 cx2 => xs_isl hk cx2) ?_
  refine mj_if_eq hx dSA4 (tgt := 16) rfl (fun q => absurd q (by decide)) (fun _ => ?_)
  refine mj_aload_n hx dSA7 (v := .ref (xB + (65 + k))) rfl rfl ?_
  refine mj_getc hx hown (t := ("java/lang/String", "value", "[B", true)) (v := .ref (xB + (75 + k))) t3 (xK_FL (L := L) (xs := xs) (t := ("java/lang/String", "value", "[B", true)) (xm5 223 (by decide +kernel)) G s args hKs) dSA8 ?_
  refine mj_iload_n hx dSA11 (x := i) rfl ?_
  refine xcallS (vs := [.ref (xB + (75 + k)), .int i]) (d := 2) (o := some (.int r)) (rest := []) cx dSA12 (xm2 221 (by decide +kernel)) (xm2 222 (by decide +kernel)) (xm1 19 (by decide +kernel)) (xm2 223 (by decide +kernel)) (by decide +kernel) (by show _ = some 2; decide +kernel) (by decide) (by decide) (Nat.le_refl 2) hd (by omega) hc hs (fun s2 m2 args2 below2 meth2 c2 cx2 => xs_lat h0 h1 hin (fun s hK => (xs_txt hk hK).2.2.2) hr hn (Nat.le_refl _) (Nat.le_refl _) (Nat.le_refl _) (Nat.le_refl _) cx2) ?_
  exact mj_iret hx hb hret hlk hn dSA15
theorem xs_tab : ∀ k, k < 10 → (xw_str.map List.length).getD k 0 = (xw_str.getD k []).length ∧ (xw_str.getD k []).length < 5 ∧ nI (xw_str.getD k []).length >>> ((0 : Int32) &&& 31) = nI (xw_str.getD k []).length := by decide +kernel
theorem xs_let : ∀ k, k < 10 → ∀ j, j < 5 → (((xw_str.getD k []).getD j 0 &&& (Int16.ofInt 255).toInt32).toUInt32 % 65536).toInt32 = (xw_str.getD k []).getD j 0 ∧ narrow .char (.int ((xw_str.getD k []).getD j 0)) = .int ((xw_str.getD k []).getD j 0) := by decide +kernel
theorem xs_lt {i : Int32} {n : Nat} (hn : n < 5) (h : mx_inb i n = true) : ¬ i < 0 ∧ i < nI n ∧ i.toNatClampNeg < n := by
  have h1 := mx_inb_s h
  have h0 : ¬ i < 0 := fun q => h1 (Or.inl q)
  have h2 : i.toNatClampNeg < n := Nat.not_le.mp fun q => h1 (Or.inr q)
  refine ⟨h0, ?_, h2⟩
  have h3 : (0 : Int) ≤ i.toInt := by simpa using Int32.le_iff_toInt_le.mp (Int32.not_lt.mp h0)
  have h4 : i.toInt = (i.toNatClampNeg : Int) := by
    show i.toInt = ((i.toInt.toNat : Nat) : Int)
    omega
  rw [Int32.lt_iff_toInt_lt, h4]
  show (i.toNatClampNeg : Int) < (Int32.ofNat n).toInt
  rw [Int32.toInt_ofNat_small (by omega)]
  omega
theorem xpf_0 {vs : List Value} {w : Value} (h : xp_f 0 vs = some w) : ∃ k, k < 10 ∧ vs = [.ref (xB + (65 + k))] ∧ w = .int (nI (xw_str.getD k []).length) := by
  unfold xp_f at h
  split at h
  all_goals first
    | (rename_i hk _; exact absurd hk (by decide))
    | (rename_i hk; exact absurd hk (by decide))
    | skip
  · rename_i i _
    replace h := mx_if h; obtain ⟨h1, h⟩ := h
    obtain ⟨t, ht, hw⟩ := Option.map_eq_some_iff.mp h
    have hl := (List.getElem?_eq_some_iff.mp ht).1
    have e1 : 1048641 + (i - 1048641) = i := Nat.add_sub_cancel' h1
    refine ⟨i - 1048641, hl, ?_, ?_⟩
    · show [Value.ref i] = [.ref (1048576 + (65 + (i - 1048641)))]
      rw [← Nat.add_assoc, e1]
    · rw [← hw, List.getD_eq_getElem?_getD, ht]
      rfl
  · cases h
theorem xpf_1 {vs : List Value} {w : Value} (h : xp_f 1 vs = some w) : ∃ k i, k < 10 ∧ vs = [.ref (xB + (65 + k)), .int i] ∧ mx_inb i (xw_str.getD k []).length = true ∧ w = .int ((xw_str.getD k []).getD i.toNatClampNeg 0) := by
  unfold xp_f at h
  split at h
  all_goals first
    | (rename_i hk _; exact absurd hk (by decide))
    | (rename_i hk; exact absurd hk (by decide))
    | skip
  · rename_i i j _
    replace h := mx_if h; obtain ⟨h1, h⟩ := h
    split at h
    · rename_i t ht
      replace h := mx_if h; obtain ⟨h2, h⟩ := h
      cases h
      have hl := (List.getElem?_eq_some_iff.mp ht).1
      have e1 : 1048641 + (i - 1048641) = i := Nat.add_sub_cancel' h1
      have e2 : xw_str.getD (i - 1048641) [] = t := by rw [List.getD_eq_getElem?_getD, ht]; rfl
      refine ⟨i - 1048641, j, hl, ?_, ?_, ?_⟩
      · show [Value.ref i, .int j] = [.ref (1048576 + (65 + (i - 1048641))), .int j]
        rw [← Nat.add_assoc, e1]
      · rw [e2]; exact h2
      · rw [e2]
    · cases h
  · cases h
theorem xP_len {own : String} {ix : Nat} (h1 : Cond.methodLink own ix xySN ∈ lw_tbl) : xP1 L xs l own (4 * ix, 0) := by
  intro ix' t vs rest v ig hq hn hg hi y cc nL ret G p e R s m args below meth c Q kc ks pc lv σ hy cx hdg hw h5 h200 hc hs kk
  have hq : 4 * ix = 4 * ix' + t := hq
  rcases hi with ⟨rfl, rfl⟩ | ⟨rfl, rfl⟩ | ⟨rfl, rfl⟩
  · obtain rfl : ix = ix' := by omega
    obtain ⟨w, hw1, hw2⟩ := Option.map_eq_some_iff.mp (show (xp_f 0 vs).map some = some v from hg)
    cases hw2
    obtain ⟨k, hk, rfl, rfl⟩ := xpf_0 hw1
    obtain ⟨t1, t2, t3⟩ := xs_tab k hk
    have hKs := cx.2.2.2.2.2.2.1
    exact xcallC (i := xB + (65 + k)) (As := []) (d := 1) (o := some (.int (nI (xw_str.getD k []).length))) cx hdg (by rw [hy]; exact h1) (xm2 133 (by decide +kernel)) (xm2 134 (by decide +kernel)) (xm2 135 (by decide +kernel)) (by decide +kernel) (by show _ = some 1; decide +kernel) (by decide) (xs_txt hk hKs).1 hw (Nat.le_refl 1) (by omega) (by omega) hc hs (fun s2 m2 args2 below2 meth2 c2 cx2 => xs_len hk t1 t3 (Nat.le_refl _) (Nat.le_refl _) (Nat.le_refl _) (Nat.le_refl _) cx2) kk
  · omega
  · omega
theorem xP_chr {own : String} {ix : Nat} (h1 : Cond.methodLink own ix xySA ∈ lw_tbl) : xP1 L xs l own (4 * ix, 1) := by
  intro ix' t vs rest v ig hq hn hg hi y cc nL ret G p e R s m args below meth c Q kc ks pc lv σ hy cx hdg hw h5 h200 hc hs kk
  have hq : 4 * ix = 4 * ix' + t := hq
  rcases hi with ⟨rfl, rfl⟩ | ⟨rfl, rfl⟩ | ⟨rfl, rfl⟩
  · obtain rfl : ix = ix' := by omega
    obtain ⟨w, hw1, hw2⟩ := Option.map_eq_some_iff.mp (show (xp_f 1 vs).map some = some v from hg)
    cases hw2
    obtain ⟨k, i, hk, rfl, hin, rfl⟩ := xpf_1 hw1
    obtain ⟨t1, t2, t3⟩ := xs_tab k hk
    obtain ⟨g0, g1, g2⟩ := xs_lt t2 hin
    obtain ⟨l1, l2⟩ := xs_let k hk i.toNatClampNeg (by omega)
    have hKs := cx.2.2.2.2.2.2.1
    exact xcallC (i := xB + (65 + k)) (As := [.int i]) (d := 3) (o := some (.int ((xw_str.getD k []).getD i.toNatClampNeg 0))) cx hdg (by rw [hy]; exact h1) (xm2 214 (by decide +kernel)) (xm2 215 (by decide +kernel)) (xm2 216 (by decide +kernel)) (by decide +kernel) (by show _ = some 2; decide +kernel) (by decide) (xs_txt hk hKs).1 hw (Nat.le_refl 2) (by omega) (by omega) hc hs (fun s2 m2 args2 below2 meth2 c2 cx2 => xs_chr hk t1 g0 g1 (mx_inb_s hin) l1 l2 (Nat.le_refl _) (Nat.le_refl _) (Nat.le_refl _) (Nat.le_refl _) cx2) kk
  · omega
  · omega
end XS
