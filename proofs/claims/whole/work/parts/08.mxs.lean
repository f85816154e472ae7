/-! The interpreter is sound -/
/-- what the pool's entries for new classes, rows and numbers say of the machine -/
def mx_okN (K : mj_G → State → Prop) (cl : List vw_C) (own : String) (gt : mx_Gt) (tb : mx_Tb) : Prop := ∀ ix ci fs n, tb.2.2.2.1 ix = some (ci, fs, n) → ∃ (C : String) (T : u_T) (N : Nat), cl[ci]? = some (C, T, N) ∧ mj_w K (.classLink own ix C) ∧ mj_w K (.instantiable C n) ∧ mj_w K (.initialized C) ∧ ∀ (G : mj_G) (j : Nat), j < N → defaultValue (gt.1 ci j) = vp_V (fs.map (mj_rv G)) j
def mx_okR (K : mj_G → State → Prop) (own EW ED : String) (tb : mx_Tb) : Prop := ∀ ix k, tb.2.2.2.2.1 ix = some k → (k = 3 ∧ mj_w K (.classLink own ix EW) ∧ ∀ G s, K G s → va_AO EW s) ∨ (k = 4 ∧ mj_w K (.classLink own ix ED) ∧ ∀ G s, K G s → va_AO ED s)
def mx_okL (K : mj_G → State → Prop) (own : String) (tb : mx_Tb) : Prop := (∀ ix v, tb.2.2.2.2.2.1 ix = some v → mj_w K (.constant own ix v)) ∧ ∀ ix v, tb.2.2.2.2.2.2.1 ix = some v → mj_w K (.constantLong own ix v)
/-- what all rests on -/
def mx_okG (K : mj_G → State → Prop) (cl : List vw_C) (EW ED : String) (gt : mx_Gt) (nC : Nat) : Prop := mj_Kc K ∧ mx_okC K cl gt ∧ mx_okA K gt ∧ mx_okW K EW gt ∧ mx_okD cl ED gt ∧ (∀ G s, K G s → va_K G.1 cl (mj_T G (mx_tk EW ED)) s) ∧ (∀ G s, K G s → mx_inj G nC) ∧ mj_w K (.arrayClass .int) ∧ mj_w K (.arrayClass .long) ∧ mj_w K (.arrayClass .char)
/-- what a method rests on: its class's tables, its instructions, its code in the machine's tables -/
def mx_okT (K : mj_G → State → Prop) (cl : List vw_C) (EW ED : String) (gt : mx_Gt) (I : mx_I) : Prop := mx_okF K cl I.1.cls I.2.2.2.2.1 ∧ mx_okZ K I.1.cls I.2.2.2.2.1 ∧ mx_okK K I.1.cls I.2.2.2.2.1 ∧ mx_okN K cl I.1.cls gt I.2.2.2.2.1 ∧ mx_okR K I.1.cls EW ED I.2.2.2.2.1 ∧ mx_okL K I.1.cls I.2.2.2.2.1 ∧ (∀ q ∈ I.2.2.2.2.2.1, decode I.2.1 q.1 = .ok q.2) ∧ (I.2.2.2.2.2.2.1 = true → I.1.name = "<init>" ∧ mx_okE cl I.1.cls I.2.2.2.2.1)
section MXS
variable {K : mj_G → State → Prop} {p : Program} {l : Launch} {e : Env} {R : Room} {s : State} {m : MethodId} {args : Array Value} {below : List Frame} {meth : Method} {c : Code} {Q : State → Prop}
variable {G : mj_G} {cl : List vw_C} {EW ED : String} {kc ks nC : Nat} {σ : mj_S} {gt : mx_Gt} {mi : Nat → Option mx_I} {I : mx_I}
theorem mx_ofF_s {σ σ' : mj_S} {z z' : Nat} {r : Option mx_F} {f : mx_F} (h : mx_ofF σ z r = some (.inl (f, σ', z'))) : r = some f ∧ σ' = σ ∧ z' = z := by
  unfold mx_ofF at h
  split at h
  · cases h; exact ⟨rfl, rfl, rfl⟩
  · cases h
theorem mx_of_s {σ' : mj_S} {z z' : Nat} {r : Option (mx_F × mj_S)} {f : mx_F} (h : mx_of z r = some (.inl (f, σ', z'))) : r = some (f, σ') ∧ z' = z := by
  unfold mx_of at h
  split at h
  · cases h; exact ⟨rfl, rfl⟩
  · cases h
theorem mx_put_len {gt : mx_Gt} {tb : mx_Tb} {ini : Bool} {ix pc : Nat} {lv : List (Nat × Value)} {st : List Value} {σ σ' : mj_S} {f : mx_F} (h : mx_put gt tb ini ix pc lv st σ = some (f, σ')) : σ'.length = σ.length := by
  unfold mx_put at h
  repeat' split at h
  all_goals first
    | cases h; exact List.length_set
    | cases h
theorem mx_ast_len {gt : mx_Gt} {sel pc : Nat} {lv : List (Nat × Value)} {st : List Value} {σ σ' : mj_S} {f : mx_F} (h : mx_ast gt sel pc lv st σ = some (f, σ')) : σ'.length = σ.length := by
  unfold mx_ast at h
  repeat' split at h
  all_goals first
    | cases h; exact List.length_set
    | cases h
/-- a step within the method: what it makes, and that the machine makes it too -/
def mx_good (G : mj_G) (cl : List vw_C) (p : Program) (l : Launch) (e : Env) (R : Room) (s : State) (m : MethodId) (args : Array Value) (below : List Frame) (meth : Method) (c : Code) (nL : Nat) (f : mx_F) (σ : mj_S) (z : Nat) (f' : mx_F) (σ' : mj_S) (z' : Nat) : Prop :=
  σ.length ≤ σ'.length ∧ z ≤ z' ∧ ∀ (kc ks : Nat) (Q : State → Prop), kc + (σ'.length - σ.length) ≤ R.cells → ks + (z' - z) ≤ R.slots → mj_W G cl nL p l e R s m args below meth c Q (kc + (σ'.length - σ.length)) (ks + (z' - z)) f'.1 f'.2.1 f'.2.2 σ' → mj_W G cl nL p l e R s m args below meth c Q kc ks f.1 f.2.1 f.2.2 σ
theorem mx_good.same {nL : Nat} {f f' : mx_F} {σ σ' : mj_S} {z : Nat} (hl : σ'.length = σ.length) (h : ∀ (kc ks : Nat) (Q : State → Prop), mj_W G cl nL p l e R s m args below meth c Q kc ks f'.1 f'.2.1 f'.2.2 σ' → mj_W G cl nL p l e R s m args below meth c Q kc ks f.1 f.2.1 f.2.2 σ) : mx_good G cl p l e R s m args below meth c nL f σ z f' σ' z := by
  refine ⟨by omega, Nat.le_refl _, fun kc ks Q _ _ k => h kc ks Q ?_⟩
  rw [hl, Nat.sub_self, Nat.sub_self] at k
  exact k
theorem mx_look2 {α : Type} {i : Nat} {v : α} {lv : List (Nat × α)} (h : lv.lookup i = some v) : (i, v) ∈ lv := mj_look h
theorem mx_cellI (cA : ClassId) (N : Nat) : vp_cell cA (N, .inl (fun _ => 0)) = arrV cA N (fun _ => defaultValue .int) := rfl
theorem mx_cellC (cA : ClassId) (N : Nat) : vp_cell cA (N, .inl (fun _ => 0)) = arrV cA N (fun _ => defaultValue .char) := rfl
theorem mx_cellL (cA : ClassId) (N : Nat) : vp_cell cA (N, .inr (.inl (fun _ => 0))) = arrV cA N (fun _ => defaultValue .long) := rfl
theorem mx_call_ne {tb : mx_Tb} {kind ix pc : Nat} {lv : List (Nat × Value)} {st : List Value} {σ : mj_S} {x : mx_F × mj_S × Nat} (h : mx_call mi tb kind ix pc lv st σ = some (.inl x)) : False := by
  unfold mx_call at h
  split at h
  · split at h
    · replace h := (mx_if h).2
      replace h := (mx_if h).2
      replace h := (mx_if h).2
      replace h := (mx_if h).2
      replace h := (mx_if h).2
      cases h
    · cases h
  · cases h
set_option maxHeartbeats 400000 in
theorem mx_newa_s (oV : va_K G.1 cl (mj_T G (mx_tk EW ED)) s) (hx : p.tables.exec = Jvm.exec ∧ c.code = I.2.1) (w1 : (Cond.arrayClass .int).before args s = true) (w2 : (Cond.arrayClass .long).before args s = true) (w3 : (Cond.arrayClass .char).before args s = true) {t : ArrayType} {pc : Nat} {lv : List (Nat × Value)} {st : List Value} {f' : mx_F} {σ' : mj_S} {z z' : Nat} (hdg : decode I.2.1 pc = .ok (.newarray t, 2)) (h : mx_newa t pc lv st σ z = some (.inl (f', σ', z'))) :
    mx_good G cl p l e R s m args below meth c I.2.2.1 (pc, lv, st) σ z f' σ' z' := by
  unfold mx_newa at h
  split at h
  · rename_i n r
    split at h
    · rename_i k0 f0 hz
      replace h := mx_if h; obtain ⟨h0, h⟩ := h
      replace h := mx_if h; obtain ⟨h1, h⟩ := h
      replace h := mx_if h; obtain ⟨hlen, h⟩ := h
      cases h
      refine ⟨by simp, by omega, fun kc ks Q hc hs k => ?_⟩
      rw [List.length_append, Nat.add_sub_cancel_left, Nat.add_sub_cancel_left] at k
      rw [List.length_append, Nat.add_sub_cancel_left] at hc
      rw [Nat.add_sub_cancel_left] at hs
      have hn : ¬ n < 0 := Int32.not_lt.mpr h0
      generalize hN : n.toNatClampNeg = N' at h1 hs k
      cases t <;> cases hz
      · exact mj_newa (atype := .char) hx oV w3 (k := 2) rfl (fun cA _ => mx_cellC cA N') rfl hn hN (show N' * 2 ≤ 536870912 by omega) hc hs hlen hdg k
      · exact mj_newa (atype := .int) hx oV w1 (k := 0) rfl (fun cA _ => mx_cellI cA N') rfl hn hN (show N' * 4 ≤ 536870912 by omega) hc hs hlen hdg k
      · exact mj_newa (atype := .long) hx oV w2 (k := 1) rfl (fun cA _ => mx_cellL cA N') rfl hn hN (show N' * 8 ≤ 536870912 by omega) hc hs hlen hdg k
    · cases h
  · cases h
set_option maxHeartbeats 400000 in
theorem mx_anew_s (oV : va_K G.1 cl (mj_T G (mx_tk EW ED)) s) (hKs : K G s) (hown : s.vm.findClass I.1.cls = some m.cls) (hx : p.tables.exec = Jvm.exec ∧ c.code = I.2.1) (tR : mx_okR K I.1.cls EW ED I.2.2.2.2.1) {ix pc : Nat} {lv : List (Nat × Value)} {st : List Value} {f' : mx_F} {σ' : mj_S} {z z' : Nat} (hdg : decode I.2.1 pc = .ok (.anewarray ix, 3)) (h : mx_anew I.2.2.2.2.1 ix pc lv st σ z = some (.inl (f', σ', z'))) :
    mx_good G cl p l e R s m args below meth c I.2.2.1 (pc, lv, st) σ z f' σ' z' := by
  unfold mx_anew at h
  split at h
  · rename_i n r
    split at h
    · rename_i k0 hz
      replace h := mx_if h; obtain ⟨h0, h⟩ := h
      replace h := mx_if h; obtain ⟨h1, h⟩ := h
      replace h := mx_if h; obtain ⟨hlen, h⟩ := h
      cases h
      refine ⟨by simp, by omega, fun kc ks Q hc hs k => ?_⟩
      rw [List.length_append, Nat.add_sub_cancel_left, Nat.add_sub_cancel_left] at k
      rw [List.length_append, Nat.add_sub_cancel_left] at hc
      rw [Nat.add_sub_cancel_left] at hs
      have hn : ¬ n < 0 := Int32.not_lt.mpr h0
      generalize hN : n.toNatClampNeg = N' at h1 hs k
      rcases tR _ _ hz with ⟨rfl, w1, w2⟩ | ⟨rfl, w1, w2⟩
      · exact mj_anew hx hown oV (w1 G s args hKs) (w2 G s hKs) (k := 3) rfl hn hN (by omega) hc hs hlen hdg k
      · exact mj_anew hx hown oV (w1 G s args hKs) (w2 G s hKs) (k := 4) rfl hn hN (by omega) hc hs hlen hdg k
    · cases h
  · cases h
set_option maxHeartbeats 800000 in
theorem mx_step_s (oG : mx_okG K cl EW ED gt nC) (oT : mx_okT K cl EW ED gt I) (cx : mj_cx K G I.1 I.2.1 I.2.2.1 I.2.2.2.1 p s m meth c) {f f' : mx_F} {σ' : mj_S} {z z' : Nat} (h : mx_step mi gt nC I f σ z = some (.inl (f', σ', z'))) :
    mx_good G cl p l e R s m args below meth c I.2.2.1 f σ z f' σ' z' := by
  obtain ⟨oKc, oC, oA, oW, oD, oV, oJ, oI1, oI2, oI3⟩ := oG
  obtain ⟨tF, tZ, tK, tN, tR, tL, tD, tI⟩ := oT
  obtain ⟨hx, hml, hown, hret, hlk, hnm, hKs, hb⟩ := cx
  unfold mx_step at h
  split at h
  · rename_i i len hlook
    have hdg : decode I.2.1 f.1 = .ok (i, len) := tD (f.1, i, len) (mj_look hlook)
    cases i
    case getfield ix =>
      replace h := mx_if h; obtain ⟨rfl, h⟩ := h
      replace h := mx_ofF_s h; obtain ⟨h, rfl, rfl⟩ := h
      exact mx_good.same rfl fun kc ks Q k => mx_get_s hx hown hKs (oV G s hKs) oC tF tK hdg h k
    case putfield ix =>
      replace h := mx_if h; obtain ⟨rfl, h⟩ := h
      replace h := mx_of_s h; obtain ⟨h, rfl⟩ := h
      exact mx_good.same (mx_put_len h) fun kc ks Q k => mx_put_s hx hown hKs (oV G s hKs) oC tF (fun q => ⟨hnm.trans (tI q).1, (tI q).2⟩) hdg h k
    case iaload =>
      replace h := mx_if h; obtain ⟨rfl, h⟩ := h
      replace h := mx_ofF_s h; obtain ⟨h, rfl, rfl⟩ := h
      exact mx_good.same rfl fun kc ks Q k => mx_ald_s (sel := 0) hx hKs (oV G s hKs) oA hdg h k
    case laload =>
      replace h := mx_if h; obtain ⟨rfl, h⟩ := h
      replace h := mx_ofF_s h; obtain ⟨h, rfl, rfl⟩ := h
      exact mx_good.same rfl fun kc ks Q k => mx_ald_s (sel := 1) hx hKs (oV G s hKs) oA hdg h k
    case caload =>
      replace h := mx_if h; obtain ⟨rfl, h⟩ := h
      replace h := mx_ofF_s h; obtain ⟨h, rfl, rfl⟩ := h
      exact mx_good.same rfl fun kc ks Q k => mx_ald_s (sel := 2) hx hKs (oV G s hKs) oA hdg h k
    case aaload =>
      replace h := mx_if h; obtain ⟨rfl, h⟩ := h
      replace h := mx_ofF_s h; obtain ⟨h, rfl, rfl⟩ := h
      exact mx_good.same rfl fun kc ks Q k => mx_ald_s (sel := 3) hx hKs (oV G s hKs) oA hdg h k
    case arraylength =>
      replace h := mx_if h; obtain ⟨rfl, h⟩ := h
      replace h := mx_ofF_s h; obtain ⟨h, rfl, rfl⟩ := h
      exact mx_good.same rfl fun kc ks Q k => mx_len_s hx hKs (oV G s hKs) oA hdg h k
    case iastore =>
      replace h := mx_if h; obtain ⟨rfl, h⟩ := h
      replace h := mx_of_s h; obtain ⟨h, rfl⟩ := h
      exact mx_good.same (mx_ast_len h) fun kc ks Q k => mx_ast_s (sel := 0) hx hKs (oV G s hKs) oW oD hdg h k
    case lastore =>
      replace h := mx_if h; obtain ⟨rfl, h⟩ := h
      replace h := mx_of_s h; obtain ⟨h, rfl⟩ := h
      exact mx_good.same (mx_ast_len h) fun kc ks Q k => mx_ast_s (sel := 1) hx hKs (oV G s hKs) oW oD hdg h k
    case castore =>
      replace h := mx_if h; obtain ⟨rfl, h⟩ := h
      replace h := mx_of_s h; obtain ⟨h, rfl⟩ := h
      exact mx_good.same (mx_ast_len h) fun kc ks Q k => mx_ast_s (sel := 2) hx hKs (oV G s hKs) oW oD hdg h k
    case aastore =>
      replace h := mx_if h; obtain ⟨rfl, h⟩ := h
      replace h := mx_of_s h; obtain ⟨h, rfl⟩ := h
      exact mx_good.same (mx_ast_len h) fun kc ks Q k => mx_ast_s (sel := 3) hx hKs (oV G s hKs) oW oD hdg h k
    case getstatic ix =>
      replace h := mx_if h; obtain ⟨rfl, h⟩ := h
      split at h
      · rename_i hz
        cases h
        obtain ⟨t, ht⟩ := tZ _ _ hz
        exact mx_good.same rfl fun kc ks Q k => mj_gets hx hown (ht G s args hKs).2 (ht G s args hKs).1 hdg k
      · cases h
    case ldc ix =>
      replace h := mx_if h; obtain ⟨rfl, h⟩ := h
      split at h
      · rename_i hz
        cases h
        exact mx_good.same rfl fun kc ks Q k => mj_ldc hx hown (tL.1 _ _ hz G s args hKs) hdg k
      · cases h
    case ldc2_w ix =>
      replace h := mx_if h; obtain ⟨rfl, h⟩ := h
      split at h
      · rename_i hz
        cases h
        exact mx_good.same rfl fun kc ks Q k => mj_ldc2 hx hown (tL.2 _ _ hz G s args hKs) hdg k
      · cases h
    case new ix =>
      replace h := mx_if h; obtain ⟨rfl, h⟩ := h
      unfold mx_new at h
      split at h
      · rename_i hz
        replace h := mx_if h; obtain ⟨hlen, h⟩ := h
        cases h
        obtain ⟨C, T, N, hcl, w1, w2, w3, hd⟩ := tN _ _ _ _ hz
        obtain ⟨o1, o2, o3, o4⟩ := oC _ _ _ _ hcl
        refine ⟨by simp, by omega, fun kc ks Q hc hs k => ?_⟩
        rw [List.length_append, Nat.add_sub_cancel_left, Nat.add_sub_cancel_left] at k
        rw [List.length_append, Nat.add_sub_cancel_left] at hc
        rw [Nat.add_sub_cancel_left] at hs
        exact mj_newc hx hown (oV G s hKs) (o1 G s args hKs) o2 hcl (w1 G s args hKs) (w2 G s args hKs) (w3 G s args hKs) (hd G) hc hs hb hlen hdg k
      · cases h
    case newarray t =>
      replace h := mx_if h; obtain ⟨rfl, h⟩ := h
      exact mx_newa_s (oV G s hKs) hx (oI1 G s args hKs) (oI2 G s args hKs) (oI3 G s args hKs) hdg h
    case anewarray ix =>
      replace h := mx_if h; obtain ⟨rfl, h⟩ := h
      exact mx_anew_s (oV G s hKs) hKs hown hx tR hdg h
    case invokestatic ix =>
      replace h := mx_if h; obtain ⟨rfl, h⟩ := h
      exact (mx_call_ne h).elim
    case invokevirtual ix =>
      replace h := mx_if h; obtain ⟨rfl, h⟩ := h
      exact (mx_call_ne h).elim
    case invokespecial ix =>
      replace h := mx_if h; obtain ⟨rfl, h⟩ := h
      exact (mx_call_ne h).elim
    case ireturn =>
      replace h := mx_if h; obtain ⟨rfl, h⟩ := h
      repeat' split at h
      all_goals cases h
    case lreturn =>
      replace h := mx_if h; obtain ⟨rfl, h⟩ := h
      repeat' split at h
      all_goals cases h
    case areturn =>
      replace h := mx_if h; obtain ⟨rfl, h⟩ := h
      repeat' split at h
      all_goals cases h
    case return_ =>
      replace h := mx_if h; obtain ⟨rfl, h⟩ := h
      repeat' split at h
      all_goals cases h
    case athrow =>
      replace h := mx_if h; obtain ⟨rfl, h⟩ := h
      repeat' split at h
      all_goals cases h
    all_goals
      replace h := mx_ofF_s h; obtain ⟨h, rfl, rfl⟩ := h
      exact mx_good.same rfl fun kc ks Q k => mx_p_s hx (oJ G s hKs) hdg h k
  · cases h
end MXS
