/-! Exceptions in the small machine: 'throw new X()' -/
abbrev xnm : List String := ["java/lang/RuntimeException", "java/lang/Exception"]
section MJT
variable {K : mj_G → State → Prop} {p : Program} {l : Launch} {e : Env} {R : Room} {s : State} {m : MethodId} {args : Array Value} {below : List Frame} {meth : Method} {c : Code}
variable {G : mj_G} {cl : List vw_C} {nL kc ks : Nat} {cc : ByteArray} {pc : Nat} {lv : List (Nat × Value)} {st : List Value} {σ : mj_S}
set_option maxHeartbeats 1000000 in
theorem mj_throw0 (hx : p.tables.exec = Jvm.exec ∧ c.code = cc) (hml : c.maxLocals = nL) (hl : l.stackTraces = false) {own cls : String} {T0 : u_T} {ci ik ic : Nat} {tys : List (ClassId × FieldType)} (hcl : cl[ci]? = some (cls, T0, 0)) (hK : va_K G.1 cl tys s)
    (hown : s.vm.findClass own = some m.cls) (hcls : Bundle.fit cls = true)
    (hk : (Cond.classLink own ik cls).before args s = true) (hini : (Cond.initialized cls).before args s = true) (hat : ∀ w ∈ vx_at0 own ic cls xnm, w.before args s = true)
    (hgood : ∀ w ∈ Cond.classLink own ik cls :: Cond.initialized cls :: vx_at0 own ic cls xnm, vx_ot w = true)
    (hU : vx_Zq Bundle.tN "UNASSIGNED_STACK" Bundle.steD (mj_A G) s s.heap) (hN : vx_Zq Bundle.tN "SUPPRESSED_SENTINEL" Bundle.listD (mj_A G) s s.heap)
    (d0 : decode cc pc = .ok (.new ik, 3)) (d3 : decode cc (pc + 3) = .ok (.dup, 1)) (d4 : decode cc (pc + 4) = .ok (.invokespecial ic, 3)) (d7 : decode cc (pc + 7) = .ok (.athrow, 1))
    (hE : c.exceptionTable.toList = []) (hlen : σ.length < 1048576) (hw : (st.map fun v => v.category).sum ≤ 8)
    (hRframes : 6 ≤ R.frames) (hRlocals : 240 ≤ R.locals) (hRcells : kc + 1 ≤ R.cells) (hRslots : ks + 6 ≤ R.slots) (hlocks : meth.locks = false) (hb0 : mj_b G ≤ s.heap.size) :
    mj_W G cl nL p l e R s m args below meth c (mj_MQ G cl (.inr σ.length) (σ ++ [.inr (ci, [])]) below s (kc + 1) (ks + 6)) kc ks pc lv st σ := by
  intro H locs ls h1 h2 h3 T hT X
  obtain ⟨hexec, hb⟩ := hx
  have hsize : ls.size = c.maxLocals := by rw [hml]; exact h3.1
  have hout : ∀ x ∈ c.exceptionTable.toList, covers x (pc + 7) = false := fun x hx' => by rw [hE] at hx'; cases hx'
  have htr : e.platform.stackTraces = false := (show e.platform.stackTraces = l.stackTraces by rw [X.admits.platform]).trans hl
  have Y := vx_rebase X (R' := { frames := R.frames, locals := R.locals, cells := 1, slots := 6 }) (Nat.le_refl _) (Nat.le_refl _) hRcells hRslots
  obtain ⟨s', hA⟩ : ∃ z, z = (T.setVm s.vm).setFrames (.invoking m args :: below) := ⟨_, rfl⟩
  rw [← hA] at Y
  have hvm : s'.vm = s.vm := by rw [hA]; rfl
  have hhp : s'.heap = H := by rw [hA]; exact hT
  have hW0 : s.WarmedH s'.vm := by rw [hvm]; exact State.WarmedH.refl s
  have hat' : ∀ w ∈ vx_at0 own ic cls xnm, w.before args s' = true := fun w hw => vx_ot_at hW0 hvm.symm (hgood w (List.mem_cons_of_mem _ (List.mem_cons_of_mem _ hw))) (hat w hw)
  have hk' : (Cond.classLink own ik cls).before args s' = true := vx_ot_at hW0 hvm.symm (hgood _ List.mem_cons_self) hk
  have hini' : (Cond.initialized cls).before args s' = true := vx_ot_at hW0 hvm.symm (hgood _ (List.mem_cons_of_mem _ List.mem_cons_self)) hini
  have hU' : vx_Zq Bundle.tN "UNASSIGNED_STACK" Bundle.steD (mj_A G) s' s'.heap := by rw [hhp]; exact vx_Zq.moved hW0.alike (hU.kept h2.2.1)
  have hN' : vx_Zq Bundle.tN "SUPPRESSED_SENTINEL" Bundle.listD (mj_A G) s' s'.heap := by rw [hhp]; exact vx_Zq.moved hW0.alike (hN.kept h2.2.1)
  have h : ∀ w ∈ Bundle.ownAtoms0 own ic cls xnm, w.before args s' = true := vx_own hat' (vx_isRefq hU'.1) (vx_isRefq hN'.1) hU'.2.word hN'.2.word
  have hown' : s'.vm.findClass own = some m.cls := by rw [hvm]; exact hown
  have hins : (Cond.instantiable cls 6).before args s' = true := h _ (by simp [Bundle.ownAtoms0])
  obtain ⟨vm₁, cX, kX, hfX, hkX, -, -, X₁, st1⟩ := Y.newCold hexec (own := own) (C := cls) (index := ik) (n := 6) hown' hk' hins hini'
    (g := F0 m pc ls (st.map (mj_rv G))) rfl (by rw [hb]; exact d0) (Nat.le_refl _) (Nat.le_refl _)
  generalize hT1 : (T.setVm vm₁).pushCell { cls := cX, slots := kX.instanceTypes.map defaultValue, vm := .none } = T1 at X₁ st1
  have hcat : (Value.ref T.heap.size).category = 1 := rfl
  have hcellA : T1.heap[T.heap.size]? = some (freshCell cX kX) := by rw [← hT1]; exact State.heap_pushCell_size _ _
  have d3' : decode c.code (pc + 3) = .ok (.dup, 1) := by rw [hb]; exact d3
  have hw2 : ((st.map (mj_rv G)).map fun v => v.category).sum ≤ 8 := by simpa [Function.comp_def, mj_rv_cat] using hw
  obtain ⟨U, hsteps, hrun, hend, hW, hsame, ce, hce, hO⟩ := X₁.ctorThrow0 hexec htr (own := own) (cls := cls) (names := xnm) (ic := ic) hown' hcls (by decide +kernel) h (fun x hx => nomatch hx) hfX hkX hcellA (by rw [hhp, hT]; exact Nat.le_refl _)
    (g := { method := m, pc := pc + 4, locals := ls, stack := .ref T.heap.size :: .ref T.heap.size :: st.map (mj_rv G), locked := none }) rfl hsize rfl rfl (rest := st.map (mj_rv G)) rfl
    (by rw [hb]; exact d4) (by rw [hb]; exact d7) hout (show 2 + 3 < R.frames by omega) (by simp only [List.map_cons, List.sum_cons, hcat]; show 2 * 0 + (1 + ((st.map (mj_rv G)).map fun v => v.category).sum) + (13 * (2 + 1) + 41) ≤ R.locals; omega) hlocks
  obtain ⟨f1, f2⟩ := vx_frame hsame
  rw [hhp] at f1 f2
  have hsz : U.heap.size ≤ H.size + 1 := by
    have h9 := hsame.2.2.1
    rw [hhp] at h9
    exact h9
  have hlt : T.heap.size < U.heap.size := (Array.getElem?_eq_some_iff.mp hce).1
  have hTH : T.heap.size = H.size := by rw [hT]
  have hWs : s.WarmedH U.vm := State.WarmedH.trans hW0 hW
  have hcl9 : s.vm.findClass cls = some ce.cls := by
    have h9 := hO.cls
    rw [hvm] at h9
    exact h9
  have hall : s.sameButNew ({ U with vm := s.vm } : State) locs (kc + 1) (ks + 6) := by
    subst hA
    obtain ⟨e1, e2⟩ := hsame
    rw [State.setFrames_setFrames] at e1
    have h2 : (T.setVm s.vm).sameButNew ({ U with vm := s.vm } : State) [] (0 + 1) (0 + 6) := ⟨e1, e2⟩
    have h3 := X.same.trans h2
    rw [List.append_nil, Nat.zero_add, Nat.zero_add] at h3
    exact h3
  have had : mj_ad G σ.length = T.heap.size := by rw [mj_adS hlen, hTH, h1.1]
  have hcid : G.1.1 ci = ce.cls := by
    have h9 := (hK.1 ci _ hcl).2.1
    exact Option.some.inj (h9.symm.trans hcl9)
  refine ⟨U, ?_, hrun, ?_, ?_, ?_, ?_, hWs, locs, hall, h2.2.2⟩
  · refine st1 _ ?_
    show Steps p.tables e below (T1.setTop { method := m, pc := pc + 3, locals := ls, stack := .ref T.heap.size :: st.map (mj_rv G), locked := none }) _
    jvm_step X₁.here [X₁.here.top, hexec, d3', Value.category]
    exact hsteps
  · show Ended U below (.threw (mj_ad G σ.length))
    rw [had]
    exact hend
  · refine h1.push (H1 := U.heap) ?_ (by omega) (fun q hq => f2 q hq (fun z hz => nomatch hz))
    refine ⟨_, hcl, ce, ?_, hcid.symm, hO.vm, fun k hk => absurd hk (Nat.not_lt_zero _)⟩
    show U.heap[mj_b G + σ.length]? = some ce
    rw [← mj_adS hlen, had]
    exact hce
  · exact Nat.le_trans h2.1 f1
  · intro q hq
    have hq1 : q < s.heap.size := Nat.lt_of_lt_of_le hq hb0
    rw [f2 q (Nat.lt_of_lt_of_le hq1 h2.1) (fun z hz => nomatch hz)]
    exact h2.2.1 q hq1 (Nat.not_le.mpr hq)
end MJT
def xX1 (own : String) (q : Nat × Nat × Nat) : Bool := match xcl[q.2.1]? with
  | some (cls, _, 0) => Bundle.fit cls && (Cond.classLink own q.1 cls :: Cond.initialized cls :: vx_at0 own q.2.2 cls xnm).all fun w => (decide (w ∈ lw_tbl) && (goodWord w || xnest w)) || decide (w = Cond.castable cls cls)
  | _ => false
theorem xcast {args : Array Value} {s : State} {C : String} {c : ClassId} (h : s.vm.findClass C = some c) : (Cond.castable C C).before args s = true := by
  simp [Cond.before, Cond.holds, Cond.value, h, va_asg]
theorem xot {w : Cond} (h : (goodWord w || xnest w) = true) : vx_ot w = true := by
  unfold vx_ot
  cases hg : goodWord w with
  | true => rw [Bool.or_true]
  | false =>
    rw [hg, Bool.false_or] at h
    unfold xnest at h
    split at h <;> first | rfl | cases h
theorem xX_F : xe_F.all (xX1 "StackForth") = true := by decide +kernel
theorem xoX_l {l : Launch} (hl : l.stackTraces = false) {L : Nat} {xs : Nat → Int32} {I : mx_I} {le : List (Nat × Nat × Nat)} (he : I.2.2.2.2.1.2.2.2.2.2.2.2.2.1 = fun ix => le.lookup ix) (h : le.all (xX1 I.1.cls) = true) : mx_okX l (xK L xs) xcl I := by
  intro ix ci ic hix G p e R s m args below meth c kc ks pc lv st σ cx hE d0 d3 d4 d7 hlen hw h6 h240 hc hs
  rw [he] at hix
  have h1 := List.all_eq_true.mp h _ (mj_look hix)
  unfold xX1 at h1
  split at h1
  · rename_i cls T0 hcl
    rw [Bool.and_eq_true] at h1
    have h2 : ∀ w ∈ Cond.classLink I.1.cls ix cls :: Cond.initialized cls :: vx_at0 I.1.cls ic cls xnm, (w ∈ lw_tbl ∧ (goodWord w || xnest w) = true) ∨ w = Cond.castable cls cls := fun w hw' => by
      have h9 := List.all_eq_true.mp h1.2 w hw'
      rcases Bool.or_eq_true _ _ ▸ h9 with h9 | h9
      · rw [Bool.and_eq_true] at h9
        exact Or.inl ⟨of_decide_eq_true h9.1, h9.2⟩
      · exact Or.inr (of_decide_eq_true h9)
    obtain ⟨hx, hml, hown, hret, hlk, hnm, hKs, hb⟩ := cx
    have hw1 : ∀ w ∈ Cond.classLink I.1.cls ix cls :: Cond.initialized cls :: vx_at0 I.1.cls ic cls xnm, w.before args s = true := fun w hw' => (h2 w hw').elim (fun h9 => xK_a h9.1 h9.2 G s args hKs) (fun h9 => by rw [h9]; exact xcast (hKs.2.2.1.1 ci _ hcl).2.1)
    have hc15 := hKs.2.2.2.1
    obtain ⟨-, -, -, -, -, -, -, -, -, -, -, -, -, c14, c15⟩ := hc15
    exact mj_throw0 hx hml hl hcl hKs.2.2.1 hown h1.1 (hw1 _ List.mem_cons_self) (hw1 _ (List.mem_cons_of_mem _ List.mem_cons_self)) (fun w hw' => hw1 w (List.mem_cons_of_mem _ (List.mem_cons_of_mem _ hw'))) (fun w hw' => (h2 w hw').elim (fun h9 => xot h9.2) (fun h9 => by rw [h9]; rfl)) c14 c15 d0 d3 d4 d7 hE hlen hw h6 h240 hc hs hlk hb
  · cases h1
