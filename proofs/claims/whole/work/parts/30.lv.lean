/-! locals: order, and what nobody reads, don't matter -/
def xnd : List Nat → Bool
  | [] => true
  | a :: l => !(l.contains a) && xnd l
def xle (lv lv' : List (Nat × Value)) : Prop := xnd (lv.map Prod.fst) = true ∧ xnd (lv'.map Prod.fst) = true ∧ ∀ i v, lv.lookup i = some v → lv'.lookup i = some v
theorem xlk_f {p : Nat × Value → Bool} {j : Nat} : ∀ {l : List (Nat × Value)}, (∀ q ∈ l, q.1 = j → p q = true) → (l.filter p).lookup j = l.lookup j
  | [], _ => rfl
  | (a, v) :: l, h => by
    have ih := xlk_f (p := p) (j := j) (l := l) fun q hq => h q (List.mem_cons_of_mem _ hq)
    by_cases ha : j = a
    · subst ha
      rw [List.filter_cons, if_pos (h (j, v) (List.mem_cons_self ..) rfl)]
      simp [List.lookup]
    · rw [List.filter_cons]
      split
      · simp only [List.lookup, beq_false_of_ne ha, ih]
      · simp only [List.lookup, beq_false_of_ne ha, ih]
theorem xlk_no {p : Nat × Value → Bool} {j : Nat} : ∀ {l : List (Nat × Value)}, (∀ q ∈ l, q.1 = j → p q = false) → (l.filter p).lookup j = none
  | [], _ => rfl
  | (a, v) :: l, h => by
    have ih := xlk_no (p := p) (j := j) (l := l) fun q hq => h q (List.mem_cons_of_mem _ hq)
    by_cases ha : j = a
    · subst ha
      rw [List.filter_cons, if_neg (by rw [h (j, v) (List.mem_cons_self ..) rfl]; simp)]
      exact ih
    · rw [List.filter_cons]
      split
      · simp only [List.lookup, beq_false_of_ne ha, ih]
      · exact ih
theorem xlk_mem {j : Nat} {v : Value} : ∀ {l : List (Nat × Value)}, xnd (l.map Prod.fst) = true → (j, v) ∈ l → l.lookup j = some v
  | [], _, h => by cases h
  | (a, u) :: l, hn, h => by
    simp only [List.map_cons, xnd, Bool.and_eq_true, Bool.not_eq_true'] at hn
    by_cases ha : j = a
    · subst ha
      rcases List.mem_cons.mp h with h | h
      · cases h; simp [List.lookup]
      · exfalso
        have : (l.map Prod.fst).contains j = true := by
          simp only [List.contains_eq_mem, decide_eq_true_eq, List.mem_map]
          exact ⟨_, h, rfl⟩
        rw [this] at hn
        cases hn.1
    · rcases List.mem_cons.mp h with h | h
      · cases h; exact absurd rfl ha
      · simp only [List.lookup, beq_false_of_ne ha]
        exact xlk_mem hn.2 h
theorem xnd_f {p : Nat × Value → Bool} : ∀ {l : List (Nat × Value)}, xnd (l.map Prod.fst) = true → xnd ((l.filter p).map Prod.fst) = true
  | [], _ => rfl
  | (a, u) :: l, hn => by
    simp only [List.map_cons, xnd, Bool.and_eq_true, Bool.not_eq_true'] at hn
    rw [List.filter_cons]
    split
    · simp only [List.map_cons, xnd, Bool.and_eq_true, Bool.not_eq_true']
      refine ⟨?_, xnd_f hn.2⟩
      have h1 := hn.1
      simp only [List.contains_eq_mem, decide_eq_false_iff_not, List.mem_map, not_exists, not_and] at h1 ⊢
      intro q hq
      exact h1 q (List.mem_filter.mp hq).1
    · exact xnd_f hn.2
theorem xnd_c {p : Nat × Value → Bool} {i : Nat} {v : Value} {l : List (Nat × Value)} (hn : xnd (l.map Prod.fst) = true) (hp : ∀ q, q.1 = i → p q = false) : xnd (((i, v) :: l.filter p).map Prod.fst) = true := by
  simp only [List.map_cons, xnd, Bool.and_eq_true, Bool.not_eq_true']
  refine ⟨?_, xnd_f hn⟩
  simp only [List.contains_eq_mem, decide_eq_false_iff_not, List.mem_map, not_exists, not_and]
  intro q hq he
  have := (List.mem_filter.mp hq).2
  rw [hp q he] at this
  cases this
theorem xle_f {p : Nat × Value → Bool} {i : Nat} {v : Value} {lv lv' : List (Nat × Value)} (h : xle lv lv') (hp : ∀ q, q.1 = i → p q = false) : xle ((i, v) :: lv.filter p) ((i, v) :: lv'.filter p) := by
  obtain ⟨h1, h2, h3⟩ := h
  refine ⟨xnd_c h1 hp, xnd_c h2 hp, fun j u hu => ?_⟩
  by_cases hj : j = i
  · subst hj
    simp only [List.lookup, beq_self_eq_true] at hu ⊢
    exact hu
  · simp only [List.lookup, beq_false_of_ne hj] at hu ⊢
    cases hl : lv.lookup j with
    | none =>
      have hno : ∀ q ∈ lv, q.1 ≠ j := by
        intro q hq he
        have := xlk_mem (j := j) (v := q.2) h1 (by rw [← he]; exact hq)
        rw [this] at hl; cases hl
      rw [xlk_no (fun q hq he => absurd he (hno q hq))] at hu
      cases hu
    | some w =>
      have hl' := h3 _ _ hl
      have hw : ∀ q ∈ lv, q.1 = j → q.2 = w := by
        intro q hq he
        have := xlk_mem (j := j) (v := q.2) h1 (by rw [← he]; exact hq)
        rw [this] at hl; cases hl; rfl
      have hw' : ∀ q ∈ lv', q.1 = j → q.2 = w := by
        intro q hq he
        have := xlk_mem (j := j) (v := q.2) h2 (by rw [← he]; exact hq)
        rw [this] at hl'; cases hl'; rfl
      cases hpj : p (j, w) with
      | true =>
        rw [xlk_f (fun q hq he => by rw [show q = (j, w) from Prod.ext he (hw q hq he)]; exact hpj), hl] at hu
        rw [xlk_f (fun q hq he => by rw [show q = (j, w) from Prod.ext he (hw' q hq he)]; exact hpj), hl']
        exact hu
      | false =>
        rw [xlk_no (fun q hq he => by rw [show q = (j, w) from Prod.ext he (hw q hq he)]; exact hpj)] at hu
        cases hu
theorem xle_s1 {i : Nat} {v : Value} {lv lv' : List (Nat × Value)} (h : xle lv lv') : xle (mj_s1 i v lv) (mj_s1 i v lv') := xle_f h (fun q hq => by simp [hq])
theorem xle_s2 {i : Nat} {v : Value} {lv lv' : List (Nat × Value)} (h : xle lv lv') : xle (mj_s2 i v lv) (mj_s2 i v lv') := xle_f h (fun q hq => by simp [hq])
/-- what a step of the frame alone does, with other locals -/
def xfR (_ : List (Nat × Value)) (r r' : Option mx_F) : Prop := ∀ f, r = some f → ∃ l, r' = some (f.1, l, f.2.2) ∧ xle f.2.1 l
theorem xfR_ld {ok : Value → Bool} {n i pc : Nat} {lv lv' : List (Nat × Value)} {st : List Value} (h : xle lv lv') : xfR lv' (mx_ld ok n i pc lv st) (mx_ld ok n i pc lv' st) := by
  intro f hf
  unfold mx_ld at hf ⊢
  split at hf
  · rename_i v hv
    obtain ⟨h1, h2⟩ := mx_if hf
    cases h2
    rw [h.2.2 _ _ hv]
    simp only [h1, if_true]
    exact ⟨_, rfl, h⟩
  · cases hf
theorem xfR_st {ok : Value → Bool} {n i nL pc : Nat} {lv lv' : List (Nat × Value)} {st : List Value} (h : xle lv lv') : xfR lv' (mx_st ok n i nL pc lv st) (mx_st ok n i nL pc lv' st) := by
  intro f hf
  unfold mx_st at hf ⊢
  split at hf
  · obtain ⟨h1, h2⟩ := mx_if hf
    obtain ⟨h3, h2⟩ := mx_if h2
    cases h2
    simp only [h1, h3, if_true]
    exact ⟨_, rfl, xle_s1 h⟩
  · cases hf
theorem xfR_st2 {n i nL pc : Nat} {lv lv' : List (Nat × Value)} {st : List Value} (h : xle lv lv') : xfR lv' (mx_st2 n i nL pc lv st) (mx_st2 n i nL pc lv' st) := by
  intro f hf
  unfold mx_st2 at hf ⊢
  split at hf
  · obtain ⟨h3, h2⟩ := mx_if hf
    cases h2
    simp only [h3, if_true]
    exact ⟨_, rfl, xle_s2 h⟩
  · cases hf
theorem xfR_if {c : Prop} {_ : Decidable c} {lv' : List (Nat × Value)} {r r' : Option mx_F} (h : xfR lv' r r') : xfR lv' (if c then r else none) (if c then r' else none) := by
  intro f hf
  obtain ⟨h1, h2⟩ := mx_if hf
  rw [if_pos h1]
  exact h f h2
theorem xfR_s {lv lv' : List (Nat × Value)} (h : xle lv lv') (pc : Nat) (st : List Value) : xfR lv' (some (pc, lv, st)) (some (pc, lv', st)) := fun f hf => by cases hf; exact ⟨_, rfl, h⟩
theorem xfR_br {lv lv' : List (Nat × Value)} (h : xle lv lv') (b : Bool) (off : Int) (pc : Nat) (st : List Value) : xfR lv' (mx_br b off pc lv st) (mx_br b off pc lv' st) := xfR_if (xfR_s h _ _)
set_option maxHeartbeats 4000000 in
theorem xfR_p {nC nL : Nat} {i : Instr} {len pc : Nat} {lv lv' : List (Nat × Value)} {st : List Value} (h : xle lv lv') : xfR lv' (mx_p nC nL i len pc lv st) (mx_p nC nL i len pc lv' st) := by
  cases i
  all_goals first
    | exact fun f hf => by cases hf
    | exact xfR_if (xfR_s h _ _)
    | exact xfR_if (xfR_ld h)
    | exact xfR_if (xfR_st h)
    | exact xfR_if (xfR_st2 h)
    | exact xfR_if (xfR_br h _ _ _ _)
    | skip
  all_goals
    intro f hf
    simp only [mx_p, mx_i1, mx_i2, mx_l1, mx_l2, mx_li, mx_b1, mx_b2, mx_ba, mx_bn, mx_br] at hf ⊢
    (repeat' split at hf) <;> first
      | (cases hf; done)
      | (cases hf; exact ⟨_, rfl, h⟩)
      | (cases hf; simp only [*, if_true, if_false]; exact ⟨_, rfl, h⟩)
      | (cases hf; simp [*]; exact h)
      | (cases hf; rename_i hx _; simp only [h.2.2 _ _ hx, *, if_true]; exact ⟨_, rfl, xle_s1 h⟩)
      | trace_state
def xsR (r r' : Option mx_Rs) : Prop := match r with
  | none => True
  | some (.inl (f, σ, z)) => ∃ l, r' = some (.inl ((f.1, l, f.2.2), σ, z)) ∧ xle f.2.1 l
  | some (.inr (.inl o)) => r' = some (.inr (.inl o))
  | some (.inr (.inr (y, vs, g))) => ∃ l, r' = some (.inr (.inr (y, vs, (g.1, l, g.2.2)))) ∧ xle g.2.1 l
theorem xv_F {lv' : List (Nat × Value)} {σ : mj_S} {z : Nat} {r r' : Option mx_F} (h : xfR lv' r r') : xsR (mx_ofF σ z r) (mx_ofF σ z r') := by
  cases r with
  | none => trivial
  | some f =>
    obtain ⟨l, h1, h2⟩ := h f rfl
    rw [h1]
    exact ⟨l, rfl, h2⟩
theorem xv_if {c : Prop} {_ : Decidable c} {r r' : Option mx_Rs} (h : xsR r r') : xsR (if c then r else none) (if c then r' else none) := by
  split
  · exact h
  · trivial
section XV
variable {mi : Nat → Option mx_I} {gt : mx_Gt} {nC : Nat} {I : mx_I} {pc : Nat} {lv lv' : List (Nat × Value)} {st : List Value} {σ : mj_S} {z : Nat}
theorem xv_get {tb : mx_Tb} {ix : Nat} (h : xle lv lv') : xfR lv' (mx_get tb ix pc lv st σ) (mx_get tb ix pc lv' st σ) := by
  intro f hf
  unfold mx_get at hf ⊢
  (repeat' split at hf) <;> first
    | (cases hf; done)
    | (cases hf; simp only [*, if_true, if_false]; exact ⟨_, rfl, h⟩)
theorem xv_ald {sel : Nat} (h : xle lv lv') : xfR lv' (mx_ald gt sel pc lv st σ) (mx_ald gt sel pc lv' st σ) := by
  intro f hf
  unfold mx_ald at hf ⊢
  (repeat' split at hf) <;> first
    | (cases hf; done)
    | (cases hf; simp only [*, if_true, if_false]; exact ⟨_, rfl, h⟩)
theorem xv_len (h : xle lv lv') : xfR lv' (mx_len gt pc lv st σ) (mx_len gt pc lv' st σ) := by
  intro f hf
  unfold mx_len at hf ⊢
  (repeat' split at hf) <;> first
    | (cases hf; done)
    | (cases hf; simp only [*, if_true, if_false]; exact ⟨_, rfl, h⟩)
theorem xv_put {tb : mx_Tb} {ini : Bool} {ix : Nat} (h : xle lv lv') : xsR (mx_of z (mx_put gt tb ini ix pc lv st σ)) (mx_of z (mx_put gt tb ini ix pc lv' st σ)) := by
  unfold mx_put
  repeat' split
  all_goals first
    | trivial
    | exact ⟨_, rfl, h⟩
theorem xv_ast {sel : Nat} (h : xle lv lv') : xsR (mx_of z (mx_ast gt sel pc lv st σ)) (mx_of z (mx_ast gt sel pc lv' st σ)) := by
  unfold mx_ast
  repeat' split
  all_goals first
    | trivial
    | exact ⟨_, rfl, h⟩
theorem xv_new {tb : mx_Tb} {ix : Nat} (h : xle lv lv') : xsR (mx_new tb ix pc lv st σ z) (mx_new tb ix pc lv' st σ z) := by
  unfold mx_new
  repeat' split
  all_goals first
    | trivial
    | exact ⟨_, rfl, h⟩
theorem xv_newa {t : ArrayType} (h : xle lv lv') : xsR (mx_newa t pc lv st σ z) (mx_newa t pc lv' st σ z) := by
  unfold mx_newa
  repeat' split
  all_goals first
    | trivial
    | exact ⟨_, rfl, h⟩
theorem xv_anew {tb : mx_Tb} {ix : Nat} (h : xle lv lv') : xsR (mx_anew tb ix pc lv st σ z) (mx_anew tb ix pc lv' st σ z) := by
  unfold mx_anew
  repeat' split
  all_goals first
    | trivial
    | exact ⟨_, rfl, h⟩
theorem xv_call {tb : mx_Tb} {kind ix : Nat} (h : xle lv lv') : xsR (mx_call mi tb kind ix pc lv st σ) (mx_call mi tb kind ix pc lv' st σ) := by
  unfold mx_call
  repeat' split
  all_goals first
    | trivial
    | exact ⟨_, rfl, h⟩
set_option maxHeartbeats 8000000 in
theorem xv_step (h : xle lv lv') : xsR (mx_step mi gt nC I (pc, lv, st) σ z) (mx_step mi gt nC I (pc, lv', st) σ z) := by
  unfold mx_step
  simp only
  cases hl : I.2.2.2.2.2.1.lookup pc with
  | none => trivial
  | some q =>
    obtain ⟨i, len⟩ := q
    cases i
    all_goals first
      | exact xv_F (xfR_p h)
      | exact xv_if (xv_F (xv_get h))
      | exact xv_if (xv_put h)
      | exact xv_if (xv_F (xv_ald h))
      | exact xv_if (xv_F (xv_len h))
      | exact xv_if (xv_ast h)
      | exact xv_if (xv_new h)
      | exact xv_if (xv_newa h)
      | exact xv_if (xv_anew h)
      | exact xv_if (xv_call h)
      | (refine xv_if ?_; repeat' split
         all_goals first
           | trivial
           | rfl
           | exact ⟨_, rfl, h⟩)
theorem xv_new0 {σ' : mj_S} (h : mx_exc I (pc, lv, st) σ = some σ') (hn : mx_step mi gt nC I (pc, lv, st) σ z = none) : mx_step mi gt nC I (pc, lv', st) σ z = none := by
  unfold mx_exc at h
  split at h
  · rename_i h1 _ _ _ _
    simp only [mx_step, h1, mx_new, if_true] at hn ⊢
    split at hn
    · obtain h2 | h2 := Classical.em (σ.length < 1048576)
      · rw [if_pos h2] at hn; cases hn
      · rw [if_neg h2]
    · rfl
  · cases h
theorem xv_callm {tb : mx_Tb} {kind ix : Nat} : mx_call mi tb kind ix pc lv' st σ = (mx_call mi tb kind ix pc lv st σ).map (fun r => match r with
    | .inr (.inr (y, vs, g)) => .inr (.inr (y, vs, (g.1, lv', g.2.2)))
    | r => r) := by
  unfold mx_call
  repeat' split
  all_goals rfl
theorem xv_call0 {tb : mx_Tb} {kind ix : Nat} (h : mx_call mi tb kind ix pc lv st σ = none) : mx_call mi tb kind ix pc lv' st σ = none := by
  rw [xv_callm (lv := lv), h]; rfl
theorem xv_prim0 {f : mx_F} (h : mx_prim I (pc, lv, st) = some f) (hn : mx_step mi gt nC I (pc, lv, st) σ z = none) : mx_step mi gt nC I (pc, lv', st) σ z = none := by
  unfold mx_prim at h
  split at h
  · rename_i h1
    simp only [mx_step, h1, if_true] at hn ⊢
    exact xv_call0 hn
  · rename_i h1
    simp only [mx_step, h1, if_true] at hn ⊢
    exact xv_call0 hn
  · rename_i h1
    simp only [mx_step, h1, if_true] at hn ⊢
    exact xv_call0 hn
  · cases h
theorem xv_run : ∀ {n d : Nat} {I : mx_I} {pc : Nat} {lv lv' : List (Nat × Value)} {st : List Value} {σ : mj_S} {z : Nat} {r : mj_O × mj_S × Nat}, xle lv lv' → mx_run mi gt nC n d I (pc, lv, st) σ z = some r → mx_run mi gt nC n d I (pc, lv', st) σ z = some r
  | 0, _, _, _, _, _, _, _, _, _, _, h => by cases h
  | n + 1, d, I, pc, lv, lv', st, σ, z, r, hle, h => by
    rw [mx_run] at h
    rw [mx_run]
    have hs := xv_step (mi := mi) (gt := gt) (nC := nC) (I := I) (pc := pc) (st := st) (σ := σ) (z := z) hle
    cases hq : mx_step mi gt nC I (pc, lv, st) σ z with
    | none =>
      rw [hq] at h
      simp only at h
      cases he : mx_exc I (pc, lv, st) σ with
      | some σ' =>
        rw [he] at h
        rw [xv_new0 (lv' := lv') he hq]
        simp only at h ⊢
        have he' : mx_exc I (pc, lv', st) σ = some σ' := he
        rw [he']
        exact h
      | none =>
        rw [he] at h
        simp only at h
        cases hp : mx_prim I (pc, lv, st) with
        | none => rw [hp] at h; cases h
        | some f' =>
          rw [hp] at h
          rw [xv_prim0 (lv' := lv') hp hq]
          simp only at h ⊢
          have he' : mx_exc I (pc, lv', st) σ = none := he
          rw [he']
          simp only
          have hp' : mx_prim I (pc, lv', st) = some (f'.1, lv', f'.2.2) ∧ f'.2.1 = lv := by
            unfold mx_prim at hp ⊢
            split at hp
            · rename_i h1
              simp only [h1]
              unfold mx_pr at hp ⊢
              (repeat' split at hp) <;> first
                | (cases hp; done)
                | (cases hp; simp only [*, if_true, and_self])
            · rename_i h1
              simp only [h1]
              unfold mx_pr at hp ⊢
              (repeat' split at hp) <;> first
                | (cases hp; done)
                | (cases hp; simp only [*, if_true, and_self])
            · rename_i h1
              simp only [h1]
              unfold mx_pr at hp ⊢
              (repeat' split at hp) <;> first
                | (cases hp; done)
                | (cases hp; simp only [*, if_true, and_self])
            · cases hp
          rw [hp'.1]
          simp only
          obtain ⟨h5, h⟩ := mx_if h
          rw [if_pos h5]
          obtain ⟨pc', lv1, st'⟩ := f'
          obtain rfl : lv1 = lv := hp'.2
          exact xv_run hle h
    | some x =>
      rw [hq] at h hs
      rcases x with ⟨f', σ', z'⟩ | o | ⟨y, vs, g⟩
      · obtain ⟨l, h1, h2⟩ := hs
        rw [h1]
        exact xv_run h2 h
      · have h1 : mx_step mi gt nC I (pc, lv', st) σ z = some (.inr (.inl o)) := hs
        rw [h1]
        exact h
      · obtain ⟨l, h1, h2⟩ := hs
        rw [h1]
        cases d with
        | zero => cases h
        | succ d' =>
          simp only at h ⊢
          cases hm : mi y with
          | none => rw [hm] at h; cases h
          | some J =>
            rw [hm] at h
            simp only at h ⊢
            cases hr : mx_run mi gt nC n d' J (0, lv_args 0 vs, []) σ z with
            | none => rw [hr] at h; cases h
            | some q =>
              obtain ⟨o, σ', z'⟩ := q
              rw [hr] at h
              cases o with
              | inl r' => exact xv_run h2 h
              | inr a =>
                simp only at h ⊢
                split at h
                · exact h
                · split at h
                  · exact xv_run h2 h
                  · cases h
end XV
theorem xle_of {lv lv' : List (Nat × Value)} (h1 : xnd (lv.map Prod.fst) = true) (h2 : xnd (lv'.map Prod.fst) = true) (h : lv.map (fun q => lv'.lookup q.1) = lv.map (fun q => some q.2)) : xle lv lv' := by
  refine ⟨h1, h2, fun i v hv => ?_⟩
  clear h1 h2
  induction lv with
  | nil => cases hv
  | cons q r ih =>
    simp only [List.map_cons, List.cons.injEq] at h
    by_cases hi : i = q.1
    · subst hi
      simp only [List.lookup, beq_self_eq_true] at hv
      cases hv
      exact h.1
    · simp only [List.lookup, beq_false_of_ne hi] at hv
      exact ih h.2 hv
