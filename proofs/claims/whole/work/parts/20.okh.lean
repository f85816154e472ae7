/-! Exceptions in the small machine: handlers -/
def xH1 (own : String) (q : Nat × Nat) : Bool := decide (q.1 ≠ 0) && (match xcl[q.2]? with
  | some (cls, _, _) => decide (Cond.classLink own q.1 cls ∈ lw_tbl)
  | none => false)
theorem xH_L : xh_L.all (xH1 "StackForthLaw") = true := by decide +kernel
def xcn (ci : Nat) : String := match xcl[ci]? with
  | some q => q.1
  | none => ""
theorem xH_c : ∀ ci, ci < 14 → 8 ≤ ci → (xcl[ci]?).isSome = true := by decide +kernel
theorem xH_n0 : ((List.range 14).all fun ci => (List.range 13).all fun cj => !(decide (8 ≤ ci)) || !(decide (8 ≤ cj)) || decide (cj = ci) || decide ((xcn ci, xcn cj) ∈ xNc)) = true := by decide +kernel
theorem xH_n (ci : Nat) (h1 : ci < 14) (h2 : 8 ≤ ci) (cj : Nat) (h3 : cj < 13) (h4 : 8 ≤ cj) (h5 : cj ≠ ci) : (xcn ci, xcn cj) ∈ xNc := by
  have h6 := List.all_eq_true.mp (List.all_eq_true.mp xH_n0 ci (List.mem_range.mpr h1)) cj (List.mem_range.mpr h3)
  rw [decide_eq_true h2, decide_eq_true h4, decide_eq_false h5] at h6
  exact of_decide_eq_true h6
theorem xH_k : xh_L.all (fun q => decide (8 ≤ q.2)) = true := by decide +kernel
section XH
variable {L : Nat} {xs : Nat → Int32} {l : Launch} {I : mx_I} {lh : List (Nat × Nat)}
theorem xct_s {x ci : Nat} {b : Bool} (h : xct lh x ci = some b) : 8 ≤ ci ∧ ci < 14 ∧ ∃ cj, lh.lookup x = some cj ∧ ((b = true ∧ cj = ci) ∨ (b = false ∧ cj ≠ ci ∧ cj < 13)) := by
  unfold xct at h
  split at h
  · rename_i cj hj
    replace h := mx_if h; obtain ⟨h1, h⟩ := h
    refine ⟨h1.1, h1.2, cj, hj, ?_⟩
    by_cases e : cj = ci
    · rw [if_pos e] at h
      cases h
      exact Or.inl ⟨rfl, e⟩
    · rw [if_neg e] at h
      replace h := mx_if h; obtain ⟨h2, h⟩ := h
      cases h
      exact Or.inr ⟨rfl, e, h2⟩
  · cases h
theorem xH_split {G : mj_G} {s : State} {args : Array Value} {own : String} (hKs : xK L xs G s) (hh : lh.all (xH1 own) = true) (hk : lh.all (fun q => decide (8 ≤ q.2)) = true) {pc ci w : Nat} : ∀ (E : List ExceptionTableEntry), mx_hand (xct lh) pc ci (E.map fun h => (h.startPc, h.endPc, h.handlerPc, h.catchType)) = some w →
    ∃ (pre : List ExceptionTableEntry) (x : ExceptionTableEntry) (suf : List ExceptionTableEntry), E = pre ++ x :: suf ∧ (∀ z ∈ pre, covers z pc = false ∨ (z.catchType ≠ 0 ∧ ∃ nm : String, (Cond.classLink own z.catchType nm).before args s = true ∧ va_Nc (xcn ci) nm s)) ∧ covers x pc = true ∧ x.catchType ≠ 0 ∧ x.handlerPc = w ∧ (Cond.classLink own x.catchType (xcn ci)).before args s = true ∧ (Cond.castable (xcn ci) (xcn ci)).before args s = true
  | [], h => by cases h
  | y :: E, h => by
    have link : ∀ cj, lh.lookup y.catchType = some cj → y.catchType ≠ 0 ∧ 8 ≤ cj ∧ (Cond.classLink own y.catchType (xcn cj)).before args s = true := fun cj hj => by
      have h1 := List.all_eq_true.mp hh _ (mj_look hj)
      have h2 := List.all_eq_true.mp hk _ (mj_look hj)
      unfold xH1 at h1
      rw [Bool.and_eq_true] at h1
      refine ⟨of_decide_eq_true h1.1, of_decide_eq_true h2, ?_⟩
      have h3 := h1.2
      unfold xcn
      split at h3
      · rename_i hc
        rw [hc]
        exact xK_w (of_decide_eq_true h3) rfl G s args hKs
      · cases h3
    rw [List.map_cons, mx_hand] at h
    by_cases hcv : y.startPc ≤ pc ∧ pc < y.endPc
    · rw [if_pos hcv] at h
      split at h
      · rename_i hct
        cases h
        obtain ⟨c1, c2, cj, c3, c4⟩ := xct_s hct
        rcases c4 with ⟨-, rfl⟩ | ⟨c5, -⟩
        · obtain ⟨k1, k2, k3⟩ := link _ c3
          refine ⟨[], y, E, rfl, fun z hz => (by cases hz), (by simp [covers, hcv.1, hcv.2]), k1, rfl, k3, ?_⟩
          obtain ⟨q, hq⟩ := Option.isSome_iff_exists.mp (xH_c _ c2 c1)
          have h9 := (hKs.2.2.1.1 _ _ hq).2.1
          refine xcast (c := G.1.1 cj) ?_
          unfold xcn
          rw [hq]
          exact h9
        · cases c5
      · rename_i hct
        obtain ⟨c1, c2, cj, c3, c4⟩ := xct_s hct
        rcases c4 with ⟨c5, -⟩ | ⟨-, c5, c6⟩
        · cases c5
        · obtain ⟨k1, k2, k3⟩ := link _ c3
          obtain ⟨pre, x, suf, e1, e2, e3⟩ := xH_split hKs hh hk E h
          refine ⟨y :: pre, x, suf, by rw [e1]; rfl, fun z hz => ?_, e3⟩
          rcases List.mem_cons.mp hz with rfl | hz
          · exact Or.inr ⟨k1, _, k3, hKs.2.2.2.2.2.2.2 (xcn ci, xcn cj) (xH_n ci c2 c1 cj c6 k2 c5)⟩
          · exact e2 z hz
      · cases h
    · rw [if_neg hcv] at h
      obtain ⟨pre, x, suf, e1, e2, e3⟩ := xH_split hKs hh hk E h
      refine ⟨y :: pre, x, suf, by rw [e1]; rfl, fun z hz => ?_, e3⟩
      rcases List.mem_cons.mp hz with rfl | hz
      · refine Or.inl ?_
        cases hq : covers z pc with
        | false => rfl
        | true =>
          simp only [covers, Bool.and_eq_true, decide_eq_true_eq] at hq
          exact absurd hq hcv
      · exact e2 z hz
theorem xoH_l (ht : I.2.2.2.2.1.2.2.2.2.2.2.2.2.2.1 = xct lh) (hh : lh.all (xH1 I.1.cls) = true) (hk : lh.all (fun q => decide (8 ≤ q.2)) = true) : mx_okH l (xK L xs) xcl I := by
  intro pc a w σ hc G p e R s m args below meth c Q kc ks lv cx hE k
  intro T locs ls rest h1 h2 h3 X
  obtain ⟨hx, hml, hown, hret, hlk, hnm, hKs, hb⟩ := cx
  unfold mx_catch at hc
  split at hc
  · rename_i ci fs he
    replace hc := mx_if hc; obtain ⟨ha, hc⟩ := hc
    rw [ht, ← hE] at hc
    obtain ⟨pre, x, suf, e1, e2, e3, e4, e5, e6, e7⟩ := xH_split (args := args) hKs hh hk _ hc
    obtain ⟨r, hr, cell, hcell, hcls, hvm, -⟩ := h1.2 _ _ he
    have hr : xcl[ci]? = some r := hr
    have hcid : s.vm.findClass (xcn ci) = some cell.cls := by
      have h9 := (hKs.2.2.1.1 ci _ hr).2.1
      unfold xcn
      rw [hr, hcls]
      exact h9
    have hcell' : T.heap[mj_ad G a]? = some cell := by rw [mj_adS ha]; exact hcell
    refine vx_catch (H := T.heap) (locs := locs) (cells := kc) (slots := ks) (ls := ls) (rest := rest) hown pre x suf e1 e2 e3 e4 e6 e7 hcell' hvm hcid ?_ T rfl X
    rw [e5]
    exact k T.heap locs ls h1 h2 h3
  · cases hc
/-- a method without handlers -/
theorem xoH_0 (h : mx_hs I = []) : mx_okH l (xK L xs) xcl I := by
  intro pc a w σ hc
  exfalso
  unfold mx_catch at hc
  split at hc
  · replace hc := (mx_if hc).2
    rw [h] at hc
    cases hc
  · cases hc
theorem xoX_0 (h : I.2.2.2.2.1.2.2.2.2.2.2.2.2.1 = fun _ => none) : mx_okX l (xK L xs) xcl I := fun ix ci ic hix => by
  rw [h] at hix
  cases hix
end XH
