/-! definitions stay; a new one comes -/
theorem rDef.ex {nd nd' d : Nat} {M M' : xM} {D : xDf} {h : Nat → Nat} (k : rDef nd M d D h) (hn : nd ≤ nd') (e1 : M'.2.1 1 d = M.2.1 1 d) (e2 : ∀ i, i < 60 → M'.2.1 2 (60 * d + i) = M.2.1 2 (60 * d + i)) (e3 : ∀ i, i < 60 → M'.2.1 3 (60 * d + i) = M.2.1 3 (60 * d + i)) (e4 : ∀ i, i < 60 → M'.2.2.1 0 (60 * d + i) = M.2.2.1 0 (60 * d + i)) : rDef nd' M' d D h := by
  obtain ⟨k1, k2, k3, k4, k5⟩ := k
  refine ⟨by rw [e1]; exact k1, k2, k3, k4, fun i hi => ?_⟩
  obtain ⟨w, q1, q2, q3, q4, q5, q6, q7, q8, q9, q10, q11, q12, q13, q14⟩ := k5 i hi
  have hi6 : i < 60 := by omega
  refine ⟨w, q1, q2, q3, by rw [e2 i hi6]; exact q4, by rw [e3 i hi6]; exact q5, by rw [e3 i hi6]; exact q6, by rw [e3 i hi6]; exact q7, q8, fun z => by rw [e4 i hi6]; exact q9 z, fun z => ?_, fun z1 z2 z3 => ?_, q12, q13, q14⟩
  · obtain ⟨e, a1, a2, a3⟩ := q10 z
    exact ⟨e, Nat.lt_of_lt_of_le a1 hn, a2, by rw [e4 i hi6]; exact a3⟩
  · obtain ⟨t, a1, a2, a3, a4⟩ := q11 z1 z2 z3
    exact ⟨t, a1, a2, a3, by rw [e4 i hi6]; exact a4⟩
theorem xD.ap {C C' : xC} {a : Nat} {D : xDf} {T : mj_S} (k : xD C a D) (e : C'.2.2.2.2.2.2.1 = C.2.2.2.2.2.2.1 ++ T) : xD C' a D := by
  obtain ⟨k1, k2, k3, k4, k5, k6, k7, k8⟩ := k
  have ap : ∀ {n : Nat} {x : va_E}, C.2.2.2.2.2.2.1[n]? = some x → C'.2.2.2.2.2.2.1[n]? = some x := fun {n x} q => by
    have hn : n < C.2.2.2.2.2.2.1.length := by
      rcases Nat.lt_or_ge n C.2.2.2.2.2.2.1.length with z | z
      · exact z
      · rw [List.getElem?_eq_none z] at q; cases q
    rw [e, List.getElem?_append_left hn]
    exact q
  exact ⟨k1, k2, k3, ap k4, ap k5, ap k6, ap k7, ap k8⟩
/-- a name, packed on both sides -/
def rNm1 (k m : Int64) : Prop := ∃ (nf : Nat → Nat) (nl : Nat), 1 ≤ nl ∧ nl ≤ 7 ∧ (∀ j, j < nl → 1 ≤ nf j ∧ nf j < 128) ∧ k = Int64.ofNat (rle nf 0 nl) ∧ m = Int64.ofNat (rbe nf 0 nl)
def rNm (C : xC) (M : xM) : Prop := ∀ d, d < M.1 4 → ∃ a D, C.2.2.2.2.1 0 d = some a ∧ xD C a D ∧ rNm1 D.1 (M.2.2.2 d)
theorem rDs.h {C C' : xC} {M M' : xM} {H : Nat → Nat → Nat} (k : rDs C M H) (hc : rhC C C') (hm : rhM M M') : rDs C' M' H := by
  obtain ⟨k1, k2, k3⟩ := k
  have m4 : M'.1 4 = M.1 4 := hm.1 4 (by decide) (by decide) (by decide) (by decide)
  refine ⟨by rw [hc.1 4 (by decide), m4]; exact k1, by rw [m4]; exact k2, fun d hd => ?_⟩
  rw [m4] at hd ⊢
  obtain ⟨a, D, a1, a2, a3⟩ := k3 d hd
  refine ⟨a, D, by rw [hc.2.2.2.1 0 (Or.inl rfl)]; exact a1, a2.ap (T := []) (by rw [hc.2.2.2.2, List.append_nil]), a3.ex (Nat.le_refl _) (hm.2.2.1 d hd) (fun i hi => hm.2.2.2.1 2 (Or.inl rfl) _ (by omega)) (fun i hi => hm.2.2.2.1 3 (Or.inr rfl) _ (by omega)) (fun i hi => hm.2.2.2.2.2.1 _ (by omega))⟩
theorem rNm.h {C C' : xC} {M M' : xM} (k : rNm C M) (hc : rhC C C') (hm : rhM M M') : rNm C' M' := by
  have m4 : M'.1 4 = M.1 4 := hm.1 4 (by decide) (by decide) (by decide) (by decide)
  intro d hd
  rw [m4] at hd
  obtain ⟨a, D, a1, a2, a3⟩ := k d hd
  exact ⟨a, D, by rw [hc.2.2.2.1 0 (Or.inl rfl)]; exact a1, a2.ap (T := []) (by rw [hc.2.2.2.2, List.append_nil]), by rw [hm.2.2.2.2.2.2 d hd]; exact a3⟩
theorem rNm.g {C C' : xC} {M M' : xM} (k : rNm C M) (hc : rgC C C') (hm : rgM M M') : rNm C' M' := by
  have m4 : M'.1 4 = M.1 4 := hm.1 4 (by decide)
  intro d hd
  rw [m4] at hd
  obtain ⟨a, D, a1, a2, a3⟩ := k d hd
  exact ⟨a, D, by rw [hc.2.2.2.2.1 0 (by decide)]; exact a1, a2.ap (T := []) (by rw [hc.2.2.2.2.2, List.append_nil]), by rw [hm.2.2.2]; exact a3⟩
/-- the class's state behind finish -/
def rFn (X : xC) : xC := cN (cN (cR (cY X (xT5 X X.2.2.2.1 (X.1 6) (X.1 6)) (X.2.2.2.2.2.2.2 + 6 + X.1 6 + X.1 6 + X.1 6 + X.1 6)) 0 (X.1 4) (some (X.2.2.2.2.2.2.1.length + 38))) 4 (X.1 4 + 1)) 5 0
def rDn (X : xC) : xDf := (X.2.2.2.1, X.1 6, xcp (X.2.2.2.2.1 1) (X.1 6) none, xcp (X.2.2.1 0) (X.1 6) 0, xcp (X.2.1 1) (X.1 6) 0, xcp (X.2.1 2) (X.1 6) 0)
theorem xap {A T : mj_S} {k n : Nat} {x : va_E} (hn : n = A.length + k) (h : T[k]? = some x) : (A ++ T)[n]? = some x := by
  subst hn
  rw [List.getElem?_append_right (by omega), show A.length + k - A.length = k by omega]
  exact h
theorem xD_new {X : xC} (h6 : X.1 6 ≤ 60) (hl : X.2.2.2.2.2.2.1.length + 43 < 1048576) : xD (rFn X) (X.2.2.2.2.2.2.1.length + 38) (rDn X) := by
  refine ⟨by omega, by omega, h6, ?_, ?_, ?_, ?_, ?_⟩
  · exact xap (T := xT5 X X.2.2.2.1 (X.1 6) (X.1 6)) (k := 0) (by omega) rfl
  · exact xap (T := xT5 X X.2.2.2.1 (X.1 6) (X.1 6)) (k := 1) (by omega) rfl
  · exact xap (T := xT5 X X.2.2.2.1 (X.1 6) (X.1 6)) (k := 2) (by omega) rfl
  · refine xap (T := xT5 X X.2.2.2.1 (X.1 6) (X.1 6)) (k := 3) (by omega) ?_
    show some (Sum.inl (0, X.1 6, .inl (xcp (fun j => nI (X.2.1 1 j)) (X.1 6) (nI 0))) : va_E) = _
    rw [xcp_n]; rfl
  · refine xap (T := xT5 X X.2.2.2.1 (X.1 6) (X.1 6)) (k := 4) (by omega) ?_
    show some (Sum.inl (0, X.1 6, .inl (xcp (fun j => nI (X.2.1 2 j)) (X.1 6) (nI 0))) : va_E) = _
    rw [xcp_n]; rfl
theorem sfinC {C : xC} {Q : Nat → xC → Prop} (hs : C.1 6 ≤ 60) (hw : ∀ j, j < C.1 6 → ∃ w, w < 55 ∧ C.2.2.2.2.1 1 j = some (1048576 + w)) (h4 : C.1 4 < 40) (hl : C.2.2.2.2.2.2.1.length + 43 < 1048576) (hQ : Q 1 (rFn (rCf C))) : w_C_finish C Q := by
  unfold w_C_finish
  refine rflC hs ?_
  have ec : (rCf C).1 6 = C.1 6 ∧ (rCf C).1 4 = C.1 4 ∧ (rCf C).2.2.2.2 = C.2.2.2.2 := by unfold rCf; split <;> exact ⟨rfl, rfl, rfl⟩
  obtain ⟨c6, c4, cr⟩ := ec
  refine ⟨by omega, by rw [cr]; exact hl, by rw [c6, cr]; exact hw, ?_⟩
  unfold w_D_add
  refine ⟨(show (rCf C).1 4 < 2147483648 by omega), fun q => absurd (show 40 ≤ (rCf C).1 4 from q) (by omega), fun _ => ⟨(show (rCf C).1 4 < 40 by omega), ⟨by rw [cr]; omega, by omega, ?_⟩, hQ⟩⟩
  refine ⟨_, xap (T := xT5 (rCf C) (rCf C).2.2.2.1 ((rCf C).1 6) ((rCf C).1 6)) (k := 0) (by omega) rfl⟩
theorem rDef_new {X : xC} {M : xM} {nd : Nat} {h : Nat → Nat} (e6 : X.1 6 = M.2.1 1 nd) (h1 : 1 ≤ X.1 6) (h6 : X.1 6 ≤ 60) (h0 : h 0 = 0) (hop : ∀ i, i < X.1 6 → ∃ w, rOp (nd + 1) M nd (X.2.2.2.1, X.1 6, X.2.2.2.2.1 1, X.2.2.1 0, X.2.1 1, X.2.1 2) h i w) : rDef (nd + 1) M nd (rDn X) h := by
  refine ⟨e6, h1, h6, h0, fun i hi => ?_⟩
  have hi : i < X.1 6 := hi
  obtain ⟨w, q1, q2, q3, q4, q5, q6, q7, q8, q9, q10, q11, q12, q13, q14⟩ := hop i hi
  have x1 : (rDn X).2.2.1 i = X.2.2.2.2.1 1 i := if_pos hi
  have x2 : (rDn X).2.2.2.1 i = X.2.2.1 0 i := if_pos hi
  have x3 : (rDn X).2.2.2.2.1 i = X.2.1 1 i := if_pos hi
  have x4 : (rDn X).2.2.2.2.2 i = X.2.1 2 i := if_pos hi
  exact ⟨w, q1, q2, x1.trans q3, q4, x3.trans q5, x4.trans q6, q7, x3.trans q8, fun z => x2.trans (q9 z), fun z => by
    obtain ⟨e, a1, a2, a3⟩ := q10 z
    exact ⟨e, a1, x2.trans a2, a3⟩, fun z1 z2 z3 => by
    obtain ⟨t, a1, a2, a3, a4⟩ := q11 z1 z2 z3
    exact ⟨t, a1, a2, x2.trans a3, a4⟩, q12, q13, fun z => by
    rw [x3]; exact q14 z⟩
/-- one definition more, both sides -/
theorem rDs_new {C X : xC} {M M' : xM} {H : Nat → Nat → Nat} {h : Nat → Nat} (k : rDs C M H) (hc : rhC C X) (hm : rhM M M') (h40 : M.1 4 < 40) (hl : X.2.2.2.2.2.2.1.length + 43 < 1048576) (hd : rDef (M.1 4 + 1) M' (M.1 4) (rDn X) h) : rDs (rFn X) (dN M' 4 (M.1 4 + 1)) (xu H (M.1 4) h) := by
  have k' := k.h hc hm
  obtain ⟨k1, k2, k3⟩ := k'
  have m4 : M'.1 4 = M.1 4 := hm.1 4 (by decide) (by decide) (by decide) (by decide)
  rw [m4] at k1 k2 k3
  refine ⟨(show X.1 4 + 1 = M.1 4 + 1 by omega), (show M.1 4 + 1 ≤ 40 by omega), fun d hd' => ?_⟩
  have hd' : d < M.1 4 + 1 := hd'
  by_cases c : d = M.1 4
  · subst c
    refine ⟨X.2.2.2.2.2.2.1.length + 38, rDn X, ?_, xD_new hd.2.2.1 hl, ?_⟩
    · show xu (X.2.2.2.2.1 0) (X.1 4) _ (M.1 4) = _
      rw [k1]; simp [xu]
    · have e : xu H (M.1 4) h (M.1 4) = h := by simp [xu]
      rw [e]
      exact hd
  · obtain ⟨a, D, a1, a2, a3⟩ := k3 d (by omega)
    refine ⟨a, D, ?_, a2.ap (T := xT5 X X.2.2.2.1 (X.1 6) (X.1 6)) rfl, ?_⟩
    · show xu (X.2.2.2.2.1 0) (X.1 4) _ d = _
      simp only [xu]; rw [if_neg (by omega)]; exact a1
    · have e : xu H (M.1 4) h d = H d := by simp only [xu]; rw [if_neg c]
      rw [e]
      exact a3.ex (Nat.le_succ _) rfl (fun _ _ => rfl) (fun _ _ => rfl) (fun _ _ => rfl)
theorem rNm_new {C X : xC} {M M' : xM} (k : rNm C M) (hc : rhC C X) (hm : rhM M M') (e4 : C.1 4 = M.1 4) (h6 : X.1 6 ≤ 60) (hl : X.2.2.2.2.2.2.1.length + 43 < 1048576) (hn : rNm1 X.2.2.2.1 (M'.2.2.2 (M.1 4))) : rNm (rFn X) (dN M' 4 (M.1 4 + 1)) := by
  have k' := k.h hc hm
  have m4 : M'.1 4 = M.1 4 := hm.1 4 (by decide) (by decide) (by decide) (by decide)
  have c4 : X.1 4 = M.1 4 := by rw [hc.1 4 (by decide)]; exact e4
  intro d hd
  have hd : d < M.1 4 + 1 := hd
  by_cases c : d = M.1 4
  · subst c
    refine ⟨X.2.2.2.2.2.2.1.length + 38, rDn X, ?_, xD_new h6 hl, hn⟩
    show xu (X.2.2.2.2.1 0) (X.1 4) _ (M.1 4) = _
    rw [c4]; simp [xu]
  · obtain ⟨a, D, a1, a2, a3⟩ := k' d (by omega)
    refine ⟨a, D, ?_, a2.ap (T := xT5 X X.2.2.2.1 (X.1 6) (X.1 6)) rfl, a3⟩
    show xu (X.2.2.2.2.1 0) (X.1 4) _ d = _
    simp only [xu]; rw [if_neg (by omega)]; exact a1
