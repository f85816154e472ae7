/-! The interpreter is sound: whole runs -/
/-- a method's own tables, and that what its pool names are methods of the list -/
def mx_okI (K : mj_G → State → Prop) (cl : List vw_C) (EW ED : String) (gt : mx_Gt) (mi : Nat → Option mx_I) (I : mx_I) : Prop := mx_okT K cl EW ED gt I ∧ ∀ ix y J, I.2.2.2.2.1.2.2.2.2.2.2.2.1 ix = some y → mi y = some J → mx_okJ K I.1.cls ix J
abbrev mx_tabE (c : Code) : List (Nat × Nat × Nat × Nat) := c.exceptionTable.toList.map (fun h => (h.startPc, h.endPc, h.handlerPc, h.catchType))
/-- exceptions are made, and caught, as the tables say -/
def mx_okX (l : Launch) (K : mj_G → State → Prop) (cl : List vw_C) (I : mx_I) : Prop := ∀ ix ci ic, I.2.2.2.2.1.2.2.2.2.2.2.2.2.1 ix = some (ci, ic) → ∀ (G : mj_G) (p : Program) (e : Env) (R : Room) (s : State) (m : MethodId) (args : Array Value) (below : List Frame) (meth : Method) (c : Code) (kc ks pc : Nat) (lv : List (Nat × Value)) (st : List Value) (σ : mj_S), mj_cx K G I.1 I.2.1 I.2.2.1 I.2.2.2.1 p s m meth c → c.exceptionTable.toList = [] → decode I.2.1 pc = .ok (.new ix, 3) → decode I.2.1 (pc + 3) = .ok (.dup, 1) → decode I.2.1 (pc + 4) = .ok (.invokespecial ic, 3) → decode I.2.1 (pc + 7) = .ok (.athrow, 1) → σ.length < 1048576 → (st.map fun v => v.category).sum ≤ 8 → 6 ≤ R.frames → 240 ≤ R.locals → kc + 1 ≤ R.cells → ks + 6 ≤ R.slots →
  mj_W G cl I.2.2.1 p l e R s m args below meth c (mj_MQ G cl (.inr σ.length) (σ ++ [.inr (ci, [])]) below s (kc + 1) (ks + 6)) kc ks pc lv st σ
/-- methods that only answer, answer so -/
def mx_okP (l : Launch) (K : mj_G → State → Prop) (cl : List vw_C) (I : mx_I) : Prop := ∀ (ix t k : Nat) (g : List Value → Option (Option Value)) (vs rest : List Value) (v : Option Value) (ig : Instr), I.2.2.2.2.1.2.2.2.2.2.2.2.2.2.2 (4 * ix + t) = some (k, g) → vs.length = k → g vs = some v → ((t = 0 ∧ ig = .invokevirtual ix) ∨ (t = 1 ∧ ig = .invokestatic ix) ∨ (t = 2 ∧ ig = .invokespecial ix)) → ∀ (G : mj_G) (p : Program) (e : Env) (R : Room) (s : State) (m : MethodId) (args : Array Value) (below : List Frame) (meth : Method) (c : Code) (Q : State → Prop) (kc ks pc : Nat) (lv : List (Nat × Value)) (σ : mj_S), mj_cx K G I.1 I.2.1 I.2.2.1 I.2.2.2.1 p s m meth c → decode I.2.1 pc = .ok (ig, 3) → (rest.map fun v => v.category).sum ≤ 8 → 5 ≤ R.frames → 200 ≤ R.locals → kc ≤ R.cells → ks ≤ R.slots →
  mj_W G cl I.2.2.1 p l e R s m args below meth c Q kc ks (pc + 3) lv (v.toList ++ rest) σ → mj_W G cl I.2.2.1 p l e R s m args below meth c Q kc ks pc lv (vs.reverse ++ rest) σ
def mx_okH (l : Launch) (K : mj_G → State → Prop) (cl : List vw_C) (I : mx_I) : Prop := ∀ (pc a w : Nat) (σ : mj_S), mx_catch I pc a σ = some w → ∀ (G : mj_G) (p : Program) (e : Env) (R : Room) (s : State) (m : MethodId) (args : Array Value) (below : List Frame) (meth : Method) (c : Code) (Q : State → Prop) (kc ks : Nat) (lv : List (Nat × Value)), mj_cx K G I.1 I.2.1 I.2.2.1 I.2.2.2.1 p s m meth c → mx_tabE c = mx_hs I →
  mj_W G cl I.2.2.1 p l e R s m args below meth c Q kc ks w lv [.ref a] σ → mj_Th G cl I.2.2.1 p l e R s m args below meth c Q kc ks pc lv a σ
def mx_okA2 (l : Launch) (K : mj_G → State → Prop) (cl : List vw_C) (EW ED : String) (gt : mx_Gt) (mi : Nat → Option mx_I) : Prop := ∀ y J, mi y = some J → mx_okI K cl EW ED gt mi J ∧ mx_okM K cl J ∧ mx_okX l K cl J ∧ mx_okH l K cl J ∧ mx_okP l K cl J
section MXT
variable {K : mj_G → State → Prop} {l : Launch}
variable {G : mj_G} {cl : List vw_C} {EW ED : String} {nC : Nat} {gt : mx_Gt} {mi : Nat → Option mx_I}
theorem mx_if_call {z : Nat} {σ : mj_S} {r : Option mx_F} {x : Nat × List Value × mx_F} (h : mx_ofF σ z r = some (.inr (.inr x))) : False := by
  unfold mx_ofF at h
  split at h <;> cases h
theorem mx_if_call2 {z : Nat} {r : Option (mx_F × mj_S)} {x : Nat × List Value × mx_F} (h : mx_of z r = some (.inr (.inr x))) : False := by
  unfold mx_of at h
  split at h <;> cases h
set_option maxHeartbeats 800000 in
/-- which instructions call -/
theorem mx_calls {I : mx_I} {f g : mx_F} {σ : mj_S} {z y : Nat} {vs : List Value} (oT : mx_okT K cl EW ED gt I) (h : mx_step mi gt nC I f σ z = some (.inr (.inr (y, vs, g)))) :
    ∃ (kind ix : Nat) (ig : Instr), mx_call mi I.2.2.2.2.1 kind ix f.1 f.2.1 f.2.2 σ = some (.inr (.inr (y, vs, g))) ∧ decode I.2.1 f.1 = .ok (ig, 3) ∧ ((kind = 0 ∧ ig = .invokestatic ix) ∨ (kind = 1 ∧ ig = .invokevirtual ix) ∨ (kind = 2 ∧ ig = .invokespecial ix)) := by
  obtain ⟨tF, tZ, tK, tN, tR, tL, tD, tI⟩ := oT
  unfold mx_step at h
  split at h
  · rename_i i len hlook
    have hdg : decode I.2.1 f.1 = .ok (i, len) := tD (f.1, i, len) (mj_look hlook)
    cases i
    case invokestatic ix =>
      replace h := mx_if h; obtain ⟨rfl, h⟩ := h
      exact ⟨0, ix, _, h, hdg, Or.inl ⟨rfl, rfl⟩⟩
    case invokevirtual ix =>
      replace h := mx_if h; obtain ⟨rfl, h⟩ := h
      exact ⟨1, ix, _, h, hdg, Or.inr (Or.inl ⟨rfl, rfl⟩)⟩
    case invokespecial ix =>
      replace h := mx_if h; obtain ⟨rfl, h⟩ := h
      exact ⟨2, ix, _, h, hdg, Or.inr (Or.inr ⟨rfl, rfl⟩)⟩
    case putfield ix => exact (mx_if_call2 (mx_if h).2).elim
    case iastore => exact (mx_if_call2 (mx_if h).2).elim
    case lastore => exact (mx_if_call2 (mx_if h).2).elim
    case castore => exact (mx_if_call2 (mx_if h).2).elim
    case aastore => exact (mx_if_call2 (mx_if h).2).elim
    case getfield ix => exact (mx_if_call (mx_if h).2).elim
    case iaload => exact (mx_if_call (mx_if h).2).elim
    case laload => exact (mx_if_call (mx_if h).2).elim
    case caload => exact (mx_if_call (mx_if h).2).elim
    case aaload => exact (mx_if_call (mx_if h).2).elim
    case arraylength => exact (mx_if_call (mx_if h).2).elim
    case new ix =>
      replace h := (mx_if h).2
      unfold mx_new at h
      split at h
      · cases (mx_if h).2
      · cases h
    case newarray t =>
      replace h := (mx_if h).2
      unfold mx_newa at h
      split at h
      · split at h
        · cases (mx_if (mx_if (mx_if h).2).2).2
        · cases h
      · cases h
    case anewarray ix =>
      replace h := (mx_if h).2
      unfold mx_anew at h
      split at h
      · split at h
        · cases (mx_if (mx_if (mx_if h).2).2).2
        · cases h
      · cases h
    case getstatic ix =>
      replace h := (mx_if h).2
      split at h <;> cases h
    case ldc ix =>
      replace h := (mx_if h).2
      split at h <;> cases h
    case ldc2_w ix =>
      replace h := (mx_if h).2
      split at h <;> cases h
    case ireturn =>
      replace h := (mx_if h).2
      split at h
      · cases (mx_if h).2
      · cases h
    case lreturn =>
      replace h := (mx_if h).2
      split at h
      · cases (mx_if h).2
      · cases h
    case areturn =>
      replace h := (mx_if h).2
      split at h
      · cases (mx_if (mx_if h).2).2
      · cases h
    case return_ =>
      replace h := (mx_if h).2
      split at h <;> cases h
    case athrow =>
      replace h := (mx_if h).2
      split at h <;> cases h
    all_goals exact (mx_if_call h).elim
  · cases h
set_option maxHeartbeats 1000000 in
theorem mx_sound (oG : mx_okG K cl EW ED gt nC) (oL : mx_okA2 l K cl EW ED gt mi) : ∀ (n d : Nat) (I : mx_I) (f : mx_F) (σ : mj_S) (z : Nat) (o : mj_O) (σ' : mj_S) (z' : Nat), mx_run mi gt nC n d I f σ z = some (o, σ', z') → mx_okI K cl EW ED gt mi I ∧ mx_okX l K cl I ∧ mx_okH l K cl I ∧ mx_okP l K cl I →
    ∀ (p : Program) (e : Env) (R : Room) (s : State) (m : MethodId) (args : Array Value) (below : List Frame) (meth : Method) (c : Code) (kc ks : Nat), mj_cx K G I.1 I.2.1 I.2.2.1 I.2.2.2.1 p s m meth c → mx_tabE c = mx_hs I → d ≤ R.frames → 40 * d ≤ R.locals → kc + (σ'.length - σ.length) ≤ R.cells → ks + (z' - z) ≤ R.slots →
    mj_W G cl I.2.2.1 p l e R s m args below meth c (mj_MQ G cl o σ' below s (kc + (σ'.length - σ.length)) (ks + (z' - z))) kc ks f.1 f.2.1 f.2.2 σ := by
  intro n
  induction n with
  | zero => intro d I f σ z o σ' z' h; cases h
  | succ n ih =>
    intro d I f σ z o σ' z' h hI' p e R s m args below meth c kc ks cx hE hd1 hd2 hc hs
    obtain ⟨hI, hX, hH, hPr⟩ := id hI'
    rw [mx_run] at h
    cases hst : mx_step mi gt nC I f σ z with
    | none =>
      rw [hst] at h
      simp only at h
      cases he : mx_exc I f σ with
      | none =>
        rw [he] at h
        simp only at h
        cases hp : mx_prim I f with
        | none => rw [hp] at h; cases h
        | some f' =>
          rw [hp] at h
          simp only at h
          obtain ⟨h5, h⟩ := mx_if h
          obtain ⟨ix, t, k, g, vs, rest, v, ig, a1, a2, a3, a4, a5, a6, a7, a8⟩ := mx_prim_s hp
          have tD := hI.1.2.2.2.2.2.2.1
          have h3 := ih d I f' σ z o σ' z' h hI' p e R s m args below meth c kc ks cx hE hd1 hd2 hc hs
          rw [a8] at h3
          rw [a4]
          exact hPr ix t k g vs rest v ig a3 a5 a6 a2 G p e R s m args below meth c _ kc ks f.1 f.2.1 σ cx (tD (_, _, _) (mj_look a1)) a7 (by omega) (by omega) (by omega) (by omega) h3
      | some q =>
        rw [he] at h
        simp only at h
        obtain ⟨h6, h⟩ := mx_if h
        cases h
        obtain ⟨ix, ic, ci, a1, a2, a3, a7, a0, a4, a5, a6, a8⟩ := mx_exc_s he
        have tD := hI.1.2.2.2.2.2.2.1
        have hl1 : σ'.length = σ.length + 1 := by rw [a8, List.length_append]; rfl
        have e1 : kc + (σ'.length - σ.length) = kc + 1 := by omega
        have e2 : ks + (z + 6 - z) = ks + 6 := by omega
        have h3 := hX ix ci ic a4 G p e R s m args below meth c kc ks f.1 f.2.1 f.2.2 σ cx (List.map_eq_nil_iff.mp (hE.trans a0)) (tD (_, _, _) (mj_look a1)) (tD (_, _, _) (mj_look a2)) (tD (_, _, _) (mj_look a3)) (tD (_, _, _) (mj_look a7)) a5 a6 (by omega) (by omega) (by omega) (by omega)
        rw [e1, e2, a8]
        exact h3
    | some x =>
      rw [hst] at h
      rcases x with ⟨f', σ1, z1⟩ | o1 | ⟨y, vs, g⟩
      · obtain ⟨g1, g2, g3⟩ := mx_step_s (l := l) (e := e) (R := R) (args := args) (below := below) oG hI.1 cx hst
        have h2 := mx_grow h
        have e1 : kc + (σ1.length - σ.length) + (σ'.length - σ1.length) = kc + (σ'.length - σ.length) := by omega
        have e2 : ks + (z1 - z) + (z' - z1) = ks + (z' - z) := by omega
        refine g3 kc ks _ (by omega) (by omega) ?_
        have h3 := ih d I f' σ1 z1 o σ' z' h hI' p e R s m args below meth c (kc + (σ1.length - σ.length)) (ks + (z1 - z)) cx hE hd1 hd2 (by omega) (by omega)
        rw [e1, e2] at h3
        exact h3
      · cases h
        have h3 := mx_end_s (l := l) (e := e) (R := R) (args := args) (below := below) (kc := kc) (ks := ks) hI.1 cx hE hst
        rw [Nat.sub_self, Nat.sub_self]
        exact h3
      · cases d with
        | zero => cases h
        | succ d' =>
          simp only at h
          cases hm : mi y with
          | none => rw [hm] at h; cases h
          | some J =>
            rw [hm] at h
            simp only at h
            cases hr : mx_run mi gt nC n d' J (0, lv_args 0 vs, []) σ z with
            | none => rw [hr] at h; cases h
            | some q =>
              obtain ⟨o1, σ1, z1⟩ := q
              rw [hr] at h
              have h1 := mx_grow hr
              obtain ⟨oKc, oC, oA, oW, oD, oV, oJ, oI1, oI2, oI3⟩ := id oG
              obtain ⟨hx, hml, hown, hret, hlk, hnm, hKs, hb⟩ := id cx
              obtain ⟨kind, ix, ig, hcall, hdg, hkind⟩ := mx_calls hI.1 hst
              obtain ⟨J2, rest, c1, c2, c3, c4, c5, c6, c7, c8, c9⟩ := mx_call_s hcall
              cases hm.symm.trans c2
              subst c4
              obtain ⟨hJ, hM, hJX, hJH, hJP⟩ := oL y J hm
              have hlink := hI.2 ix y J c1 hm
              obtain ⟨mk, methk, ck, hnamed, b1, b2, b3, b4, b5, b6, b8, hEk⟩ := hM.2.2.1 G s hKs
              have hinv : mx_Inv G cl p l e R s m args below meth c I.2.2.1 kc ks f.1 σ f.2.2 rest vs mk := by
                rw [c5]
                rcases hkind with ⟨rfl, rfl⟩ | ⟨rfl, rfl⟩ | ⟨rfl, rfl⟩
                · exact mx_invS hx hown hKs hlink hM c3 c6 hdg hnamed
                · exact mx_invV hx hown hKs (oV G s hKs) hlink hM c3 c6 c8 hdg hnamed
                · exact mx_invI hx hown hKs hlink hM c3 c6 c8 hdg hnamed
              have hcal : ∀ (s2 : State) (args2 : Array Value) (below2 : List Frame), mj_cx K G J.1 J.2.1 J.2.2.1 J.2.2.2.1 p s2 mk methk ck → mj_W G cl J.2.2.1 p l e ⟨d', σ1.length - σ.length, z1 - z, 40 * d'⟩ s2 mk args2 below2 methk ck (mj_MQ G cl o1 σ1 below2 s2 (σ1.length - σ.length) (z1 - z)) 0 0 0 (lv_args 0 vs) [] σ := by
                intro s2 args2 below2 cx2
                have h3 := ih d' J (0, lv_args 0 vs, []) σ z o1 σ1 z1 hr ⟨hJ, hJX, hJH, hJP⟩ p e ⟨d', σ1.length - σ.length, z1 - z, 40 * d'⟩ s2 mk args2 below2 methk ck 0 0 cx2 hEk (Nat.le_refl _) (Nat.le_refl _) (Nat.le_of_eq (Nat.zero_add _)) (Nat.le_of_eq (Nat.zero_add _))
                rw [Nat.zero_add, Nat.zero_add] at h3
                exact h3
              have hnl := hM.2.2.2.2.1
              cases o1 with
              | inl r =>
                have h2 := mx_grow h
                have e1 : kc + (σ1.length - σ.length) + (σ'.length - σ1.length) = kc + (σ'.length - σ.length) := by omega
                have e2 : ks + (z1 - z) + (z' - z1) = ks + (z' - z) := by omega
                refine mj_call0 (R2 := ⟨d', σ1.length - σ.length, z1 - z, 40 * d'⟩) hx hml hb oKc hKs hdg c7 hnamed b1 b2 b3 b4 b5 b6 hM.1 ⟨by show d' + 1 ≤ _; omega, by show 8 + (J.2.2.1 + 11) + 40 * d' ≤ _; omega, by show kc + (σ1.length - σ.length) ≤ _; omega, by show ks + (z1 - z) ≤ _; omega⟩ c9 (fun T locs ls g1 _ X hls => hinv T locs ls g1 X hls) hcal (fun r' hr' => ?_) (fun a ha => by cases ha)
                cases hr'
                have h3 := ih (d' + 1) I (f.1 + 3, f.2.1, r.toList ++ rest) σ1 z1 o σ' z' h hI' p e R s m args below meth c (kc + (σ1.length - σ.length)) (ks + (z1 - z)) cx hE hd1 hd2 (by omega) (by omega)
                rw [e1, e2] at h3
                exact h3
              | inr a =>
                simp only at h
                split at h
                · rename_i hh
                  cases h
                  refine mj_call0 (R2 := ⟨d', σ'.length - σ.length, z' - z, 40 * d'⟩) hx hml hb oKc hKs hdg c7 hnamed b1 b2 b3 b4 b5 b6 hM.1 ⟨by show d' + 1 ≤ _; omega, by show 8 + (J.2.2.1 + 11) + 40 * d' ≤ _; omega, by show kc + (σ'.length - σ.length) ≤ _; omega, by show ks + (z' - z) ≤ _; omega⟩ c9 (fun T locs ls g1 _ X hls => hinv T locs ls g1 X hls) hcal (fun r' hr' => by cases hr') (fun a' ha' => ?_)
                  cases ha'
                  exact mj_Th.out hb hlk (fun x hx' => by rw [List.map_eq_nil_iff.mp (hE.trans hh)] at hx'; cases hx')
                · split at h
                  · rename_i w hw
                    have h2 := mx_grow h
                    have e1 : kc + (σ1.length - σ.length) + (σ'.length - σ1.length) = kc + (σ'.length - σ.length) := by omega
                    have e2 : ks + (z1 - z) + (z' - z1) = ks + (z' - z) := by omega
                    refine mj_call0 (R2 := ⟨d', σ1.length - σ.length, z1 - z, 40 * d'⟩) hx hml hb oKc hKs hdg c7 hnamed b1 b2 b3 b4 b5 b6 hM.1 ⟨by show d' + 1 ≤ _; omega, by show 8 + (J.2.2.1 + 11) + 40 * d' ≤ _; omega, by show kc + (σ1.length - σ.length) ≤ _; omega, by show ks + (z1 - z) ≤ _; omega⟩ c9 (fun T locs ls g1 _ X hls => hinv T locs ls g1 X hls) hcal (fun r' hr' => by cases hr') (fun a' ha' => ?_)
                    cases ha'
                    have h3 := ih (d' + 1) I (w, f.2.1, [.ref a]) σ1 z1 o σ' z' h hI' p e R s m args below meth c (kc + (σ1.length - σ.length)) (ks + (z1 - z)) cx hE hd1 hd2 (by omega) (by omega)
                    rw [e1, e2] at h3
                    exact hH f.1 a w σ1 hw G p e R s m args below meth c _ _ _ f.2.1 cx hE h3
                  · cases h
end MXT
