/-! The interpreter is sound: growth, ends, whole runs -/
section MXE
variable {K : mj_G → State → Prop} {p : Program} {l : Launch} {e : Env} {R : Room} {s : State} {m : MethodId} {args : Array Value} {below : List Frame} {meth : Method} {c : Code} {Q : State → Prop}
variable {G : mj_G} {cl : List vw_C} {EW ED : String} {kc ks nC : Nat} {σ : mj_S} {gt : mx_Gt} {mi : Nat → Option mx_I} {I J : mx_I}
theorem mx_grow_F {σ σ' : mj_S} {z z' : Nat} {r : Option mx_F} {f : mx_F} (h : mx_ofF σ z r = some (.inl (f, σ', z'))) : σ.length ≤ σ'.length ∧ z ≤ z' := by
  obtain ⟨-, rfl, rfl⟩ := mx_ofF_s h
  exact ⟨Nat.le_refl _, Nat.le_refl _⟩
theorem mx_grow_new {tb : mx_Tb} {ix pc : Nat} {lv : List (Nat × Value)} {st : List Value} {σ σ' : mj_S} {z z' : Nat} {f : mx_F} (h : mx_new tb ix pc lv st σ z = some (.inl (f, σ', z'))) : σ.length ≤ σ'.length ∧ z ≤ z' := by
  unfold mx_new at h
  split at h
  · replace h := (mx_if h).2
    cases h
    exact ⟨by simp, by omega⟩
  · cases h
theorem mx_grow_newa {t : ArrayType} {pc : Nat} {lv : List (Nat × Value)} {st : List Value} {σ σ' : mj_S} {z z' : Nat} {f : mx_F} (h : mx_newa t pc lv st σ z = some (.inl (f, σ', z'))) : σ.length ≤ σ'.length ∧ z ≤ z' := by
  unfold mx_newa at h
  split at h
  · split at h
    · replace h := (mx_if (mx_if (mx_if h).2).2).2
      cases h
      exact ⟨by simp, by omega⟩
    · cases h
  · cases h
theorem mx_grow_anew {tb : mx_Tb} {ix pc : Nat} {lv : List (Nat × Value)} {st : List Value} {σ σ' : mj_S} {z z' : Nat} {f : mx_F} (h : mx_anew tb ix pc lv st σ z = some (.inl (f, σ', z'))) : σ.length ≤ σ'.length ∧ z ≤ z' := by
  unfold mx_anew at h
  split at h
  · split at h
    · replace h := (mx_if (mx_if (mx_if h).2).2).2
      cases h
      exact ⟨by simp, by omega⟩
    · cases h
  · cases h
set_option maxHeartbeats 800000 in
theorem mx_grow1 {f f' : mx_F} {σ' : mj_S} {z z' : Nat} (h : mx_step mi gt nC I f σ z = some (.inl (f', σ', z'))) : σ.length ≤ σ'.length ∧ z ≤ z' := by
  unfold mx_step at h
  split at h
  · rename_i i len hlook
    cases i
    case putfield ix =>
      replace h := (mx_if h).2
      replace h := mx_of_s h; obtain ⟨h, rfl⟩ := h
      exact ⟨Nat.le_of_eq (mx_put_len h).symm, Nat.le_refl _⟩
    case iastore =>
      replace h := (mx_if h).2
      replace h := mx_of_s h; obtain ⟨h, rfl⟩ := h
      exact ⟨Nat.le_of_eq (mx_ast_len h).symm, Nat.le_refl _⟩
    case lastore =>
      replace h := (mx_if h).2
      replace h := mx_of_s h; obtain ⟨h, rfl⟩ := h
      exact ⟨Nat.le_of_eq (mx_ast_len h).symm, Nat.le_refl _⟩
    case castore =>
      replace h := (mx_if h).2
      replace h := mx_of_s h; obtain ⟨h, rfl⟩ := h
      exact ⟨Nat.le_of_eq (mx_ast_len h).symm, Nat.le_refl _⟩
    case aastore =>
      replace h := (mx_if h).2
      replace h := mx_of_s h; obtain ⟨h, rfl⟩ := h
      exact ⟨Nat.le_of_eq (mx_ast_len h).symm, Nat.le_refl _⟩
    case getfield ix => exact mx_grow_F (mx_if h).2
    case iaload => exact mx_grow_F (mx_if h).2
    case laload => exact mx_grow_F (mx_if h).2
    case caload => exact mx_grow_F (mx_if h).2
    case aaload => exact mx_grow_F (mx_if h).2
    case arraylength => exact mx_grow_F (mx_if h).2
    case new ix => exact mx_grow_new (mx_if h).2
    case newarray t => exact mx_grow_newa (mx_if h).2
    case anewarray ix => exact mx_grow_anew (mx_if h).2
    case getstatic ix =>
      replace h := (mx_if h).2
      split at h
      · cases h; exact ⟨Nat.le_refl _, Nat.le_refl _⟩
      · cases h
    case ldc ix =>
      replace h := (mx_if h).2
      split at h
      · cases h; exact ⟨Nat.le_refl _, Nat.le_refl _⟩
      · cases h
    case ldc2_w ix =>
      replace h := (mx_if h).2
      split at h
      · cases h; exact ⟨Nat.le_refl _, Nat.le_refl _⟩
      · cases h
    case invokestatic ix => exact (mx_call_ne (mx_if h).2).elim
    case invokevirtual ix => exact (mx_call_ne (mx_if h).2).elim
    case invokespecial ix => exact (mx_call_ne (mx_if h).2).elim
    case ireturn =>
      replace h := (mx_if h).2
      repeat' split at h
      all_goals cases h
    case lreturn =>
      replace h := (mx_if h).2
      repeat' split at h
      all_goals cases h
    case areturn =>
      replace h := (mx_if h).2
      repeat' split at h
      all_goals cases h
    case return_ =>
      replace h := (mx_if h).2
      repeat' split at h
      all_goals cases h
    case athrow =>
      replace h := (mx_if h).2
      repeat' split at h
      all_goals cases h
    all_goals exact mx_grow_F h
  · cases h
theorem mx_exc_s {f : mx_F} {σ' : mj_S} (h : mx_exc I f σ = some σ') : ∃ ix ic ci, I.2.2.2.2.2.1.lookup f.1 = some (.new ix, 3) ∧ I.2.2.2.2.2.1.lookup (f.1 + 3) = some (.dup, 1) ∧ I.2.2.2.2.2.1.lookup (f.1 + 4) = some (.invokespecial ic, 3) ∧ I.2.2.2.2.2.1.lookup (f.1 + 7) = some (.athrow, 1) ∧ mx_hs I = [] ∧ I.2.2.2.2.1.2.2.2.2.2.2.2.2.1 ix = some (ci, ic) ∧ σ.length < 1048576 ∧ (f.2.2.map fun v => v.category).sum ≤ 8 ∧ σ' = σ ++ [.inr (ci, [])] := by
  unfold mx_exc at h
  split at h
  · rename_i ix ic h1 h2 h3 h7 hh
    split at h
    · rename_i ci jc h4
      replace h := mx_if h; obtain ⟨rfl, h⟩ := h
      replace h := mx_if h; obtain ⟨h5, h⟩ := h
      replace h := mx_if h; obtain ⟨h6, h⟩ := h
      cases h
      exact ⟨ix, _, ci, h1, h2, h3, h7, hh, h4, h5, h6, rfl⟩
    · cases h
  · cases h
theorem mx_prim_s {f f' : mx_F} (h : mx_prim I f = some f') : ∃ (ix t k : Nat) (g : List Value → Option (Option Value)) (vs rest : List Value) (v : Option Value) (ig : Instr), I.2.2.2.2.2.1.lookup f.1 = some (ig, 3) ∧ ((t = 0 ∧ ig = .invokevirtual ix) ∨ (t = 1 ∧ ig = .invokestatic ix) ∨ (t = 2 ∧ ig = .invokespecial ix)) ∧ I.2.2.2.2.1.2.2.2.2.2.2.2.2.2.2 (4 * ix + t) = some (k, g) ∧ f.2.2 = vs.reverse ++ rest ∧ vs.length = k ∧ g vs = some v ∧ (rest.map fun v => v.category).sum ≤ 8 ∧ f' = (f.1 + 3, f.2.1, v.toList ++ rest) := by
  have key : ∀ ix, mx_pr I ix f = some f' → ∃ (k : Nat) (g : List Value → Option (Option Value)) (vs rest : List Value) (v : Option Value), I.2.2.2.2.1.2.2.2.2.2.2.2.2.2.2 ix = some (k, g) ∧ f.2.2 = vs.reverse ++ rest ∧ vs.length = k ∧ g vs = some v ∧ (rest.map fun v => v.category).sum ≤ 8 ∧ f' = (f.1 + 3, f.2.1, v.toList ++ rest) := by
    intro ix h
    unfold mx_pr at h
    split at h
    · rename_i k g hk
      replace h := mx_if h; obtain ⟨h1, h⟩ := h
      replace h := mx_if h; obtain ⟨h2, h⟩ := h
      split at h
      · rename_i v hv
        cases h
        exact ⟨k, g, (f.2.2.take k).reverse, f.2.2.drop k, v, hk, by rw [List.reverse_reverse, List.take_append_drop], by rw [List.length_reverse, List.length_take]; omega, hv, h2, rfl⟩
      · cases h
    · cases h
  unfold mx_prim at h
  split at h
  · rename_i ix hl
    obtain ⟨k, g, vs, rest, v, w1, w2, w3, w4, w5, w6⟩ := key (4 * ix) h
    exact ⟨ix, 0, k, g, vs, rest, v, _, hl, Or.inl ⟨rfl, rfl⟩, w1, w2, w3, w4, w5, w6⟩
  · rename_i ix hl
    obtain ⟨k, g, vs, rest, v, w1, w2, w3, w4, w5, w6⟩ := key (4 * ix + 1) h
    exact ⟨ix, 1, k, g, vs, rest, v, _, hl, Or.inr (Or.inl ⟨rfl, rfl⟩), w1, w2, w3, w4, w5, w6⟩
  · rename_i ix hl
    obtain ⟨k, g, vs, rest, v, w1, w2, w3, w4, w5, w6⟩ := key (4 * ix + 2) h
    exact ⟨ix, 2, k, g, vs, rest, v, _, hl, Or.inr (Or.inr ⟨rfl, rfl⟩), w1, w2, w3, w4, w5, w6⟩
  · cases h
theorem mx_grow : ∀ {n d : Nat} {I : mx_I} {f : mx_F} {σ : mj_S} {z : Nat} {o : mj_O} {σ' : mj_S} {z' : Nat}, mx_run mi gt nC n d I f σ z = some (o, σ', z') → σ.length ≤ σ'.length ∧ z ≤ z'
  | 0, d, I, f, σ, z, o, σ', z', h => by cases h
  | n + 1, d, I, f, σ, z, o, σ', z', h => by
    rw [mx_run] at h
    cases hs : mx_step mi gt nC I f σ z with
    | none =>
      rw [hs] at h
      simp only at h
      cases he : mx_exc I f σ with
      | none =>
        rw [he] at h
        simp only at h
        cases hp : mx_prim I f with
        | none => rw [hp] at h; cases h
        | some f' =>
          rw [hp] at h
          simp only at h
          exact mx_grow (mx_if h).2
      | some q =>
        rw [he] at h
        simp only at h
        obtain ⟨h6, h⟩ := mx_if h
        cases h
        obtain ⟨ix, ic, ci, -, -, -, -, -, -, -, -, e2⟩ := mx_exc_s he
        rw [e2, List.length_append]
        exact ⟨by omega, by omega⟩
    | some x =>
      rw [hs] at h
      rcases x with ⟨f', σ1, z1⟩ | o1 | ⟨y, vs, g⟩
      · have h1 := mx_grow1 hs
        have h2 := mx_grow h
        exact ⟨Nat.le_trans h1.1 h2.1, Nat.le_trans h1.2 h2.2⟩
      · cases h
        exact ⟨Nat.le_refl _, Nat.le_refl _⟩
      · cases d with
        | zero => cases h
        | succ d' =>
          simp only at h
          cases hm : mi y with
          | none => rw [hm] at h; cases h
          | some J =>
            rw [hm] at h
            simp only at h
            cases hr : mx_run mi gt nC n d' J (0, lv_args 0 vs, []) σ z with
            | none => rw [hr] at h; cases h
            | some q =>
              obtain ⟨o1, σ1, z1⟩ := q
              rw [hr] at h
              have h1 := mx_grow hr
              cases o1 with
              | inl r' =>
                have h2 := mx_grow h
                exact ⟨Nat.le_trans h1.1 h2.1, Nat.le_trans h1.2 h2.2⟩
              | inr a =>
                simp only at h
                split at h
                · cases h
                  exact h1
                · split at h
                  · have h2 := mx_grow h
                    exact ⟨Nat.le_trans h1.1 h2.1, Nat.le_trans h1.2 h2.2⟩
                  · cases h
theorem mx_ret_i {rt : Option FieldType} {x : Int32} (h : mx_ret rt (.int x) = true) : ∃ t, rt = some t ∧ narrow t (.int x) = .int x := by
  unfold mx_ret at h
  split at h
  · exact ⟨_, rfl, rfl⟩
  · rename_i hz
    cases hz
    rcases Bool.or_eq_true _ _ ▸ h with h | h
    · have hx : x = 0 := by simpa using h
      subst hx
      exact ⟨_, rfl, rfl⟩
    · have hx : x = 1 := by simpa using h
      subst hx
      exact ⟨_, rfl, rfl⟩
  · rename_i hz; cases hz
  · rename_i hz; cases hz
  · rename_i hz; cases hz
  · cases h
theorem mx_ret_l {rt : Option FieldType} {x : Int64} (h : mx_ret rt (.long x) = true) : rt = some .long := by
  unfold mx_ret at h
  split at h
  · rename_i hz; cases hz
  · rename_i hz; cases hz
  · rfl
  · rename_i hz; cases hz
  · rename_i hz; cases hz
  · cases h
theorem mx_ret_a {rt : Option FieldType} {v : Value} (hv : mj_isr v = true) (h : mx_ret rt v = true) : ∃ n, rt = some (.object n) := by
  cases v with
  | ref a =>
    unfold mx_ret at h
    split at h
    · rename_i hz; cases hz
    · rename_i hz; cases hz
    · rename_i hz; cases hz
    · exact ⟨_, rfl⟩
    · exact ⟨_, rfl⟩
    · cases h
  | null =>
    unfold mx_ret at h
    split at h
    · rename_i hz; cases hz
    · rename_i hz; cases hz
    · rename_i hz; cases hz
    · exact ⟨_, rfl⟩
    · exact ⟨_, rfl⟩
    · cases h
  | _ => cases hv
theorem mx_end_p {z : Nat} {r : Option mx_F} {o : mj_O} (h : mx_ofF σ z r = some (.inr (.inl o))) : False := by
  unfold mx_ofF at h
  split at h <;> cases h
theorem mx_end_q {z : Nat} {r : Option (mx_F × mj_S)} {o : mj_O} (h : mx_of z r = some (.inr (.inl o))) : False := by
  unfold mx_of at h
  split at h <;> cases h
theorem mx_end_c {tb : mx_Tb} {kind ix pc : Nat} {lv : List (Nat × Value)} {st : List Value} {o : mj_O} (h : mx_call mi tb kind ix pc lv st σ = some (.inr (.inl o))) : False := by
  unfold mx_call at h
  split at h
  · split at h
    · replace h := (mx_if (mx_if (mx_if (mx_if (mx_if h).2).2).2).2).2
      cases h
    · cases h
  · cases h
set_option maxHeartbeats 800000 in
theorem mx_end_s (oT : mx_okT K cl EW ED gt I) (cx : mj_cx K G I.1 I.2.1 I.2.2.1 I.2.2.2.1 p s m meth c) (hE : c.exceptionTable.toList.map (fun h => (h.startPc, h.endPc, h.handlerPc, h.catchType)) = mx_hs I) {f : mx_F} {o : mj_O} {z : Nat} (h : mx_step mi gt nC I f σ z = some (.inr (.inl o))) :
    mj_W G cl I.2.2.1 p l e R s m args below meth c (mj_MQ G cl o σ below s kc ks) kc ks f.1 f.2.1 f.2.2 σ := by
  obtain ⟨tF, tZ, tK, tN, tR, tL, tD, tI⟩ := oT
  obtain ⟨hx, hml, hown, hret, hlk, hnm, hKs, hb⟩ := cx
  unfold mx_step at h
  split at h
  · rename_i i len hlook
    have hdg : decode I.2.1 f.1 = .ok (i, len) := tD (f.1, i, len) (mj_look hlook)
    cases i
    case putfield ix => exact (mx_end_q (mx_if h).2).elim
    case iastore => exact (mx_end_q (mx_if h).2).elim
    case lastore => exact (mx_end_q (mx_if h).2).elim
    case castore => exact (mx_end_q (mx_if h).2).elim
    case aastore => exact (mx_end_q (mx_if h).2).elim
    case getfield ix => exact (mx_end_p (mx_if h).2).elim
    case iaload => exact (mx_end_p (mx_if h).2).elim
    case laload => exact (mx_end_p (mx_if h).2).elim
    case caload => exact (mx_end_p (mx_if h).2).elim
    case aaload => exact (mx_end_p (mx_if h).2).elim
    case arraylength => exact (mx_end_p (mx_if h).2).elim
    case invokestatic ix => exact (mx_end_c (mx_if h).2).elim
    case invokevirtual ix => exact (mx_end_c (mx_if h).2).elim
    case invokespecial ix => exact (mx_end_c (mx_if h).2).elim
    case new ix =>
      replace h := (mx_if h).2
      unfold mx_new at h
      split at h
      · cases (mx_if h).2
      · cases h
    case newarray t =>
      replace h := (mx_if h).2
      unfold mx_newa at h
      split at h
      · split at h
        · cases (mx_if (mx_if (mx_if h).2).2).2
        · cases h
      · cases h
    case anewarray ix =>
      replace h := (mx_if h).2
      unfold mx_anew at h
      split at h
      · split at h
        · cases (mx_if (mx_if (mx_if h).2).2).2
        · cases h
      · cases h
    case getstatic ix =>
      replace h := (mx_if h).2
      split at h <;> cases h
    case ldc ix =>
      replace h := (mx_if h).2
      split at h <;> cases h
    case ldc2_w ix =>
      replace h := (mx_if h).2
      split at h <;> cases h
    case ireturn =>
      replace h := mx_if h; obtain ⟨rfl, h⟩ := h
      split at h
      · rename_i x hst
        replace h := mx_if h; obtain ⟨h1, h⟩ := h
        cases h
        obtain ⟨t, ht, hn⟩ := mx_ret_i h1
        rw [hst]
        exact mj_iret hx hb (hret.trans ht) hlk hn hdg
      · cases h
    case lreturn =>
      replace h := mx_if h; obtain ⟨rfl, h⟩ := h
      split at h
      · rename_i x hst
        replace h := mx_if h; obtain ⟨h1, h⟩ := h
        cases h
        rw [hst]
        exact mj_lret hx hb (hret.trans (mx_ret_l h1)) hlk hdg
      · cases h
    case areturn =>
      replace h := mx_if h; obtain ⟨rfl, h⟩ := h
      split at h
      · rename_i v hst
        replace h := mx_if h; obtain ⟨h1, h⟩ := h
        replace h := mx_if h; obtain ⟨h2, h⟩ := h
        cases h
        obtain ⟨n, hn⟩ := mx_ret_a h1 h2
        rw [hst]
        exact mj_aret hx hb (hret.trans hn) (Or.inl ⟨n, rfl⟩) hlk h1 hdg
      · cases h
    case return_ =>
      replace h := mx_if h; obtain ⟨rfl, h⟩ := h
      split at h
      · rename_i hst hrt
        cases h
        rw [hst]
        exact mj_vret hx hb (hret.trans hrt) hlk hdg
      · cases h
    case athrow =>
      replace h := mx_if h; obtain ⟨rfl, h⟩ := h
      split at h
      · rename_i a t hst hh
        cases h
        rw [hst]
        exact mj_athrow hx hb hlk (fun x hx' => by rw [List.map_eq_nil_iff.mp (hE.trans hh)] at hx'; cases hx') hdg
      · cases h
    all_goals exact (mx_end_p h).elim
  · cases h
end MXE
