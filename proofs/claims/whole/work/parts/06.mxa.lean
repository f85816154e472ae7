/-! The interpreter is sound: arrays -/
section MXA
variable {K : mj_G → State → Prop} {p : Program} {l : Launch} {e : Env} {R : Room} {s : State} {m : MethodId} {args : Array Value} {below : List Frame} {meth : Method} {c : Code} {Q : State → Prop}
variable {G : mj_G} {cl : List vw_C} {EW ED : String} {nL kc ks : Nat} {cc : ByteArray} {pc : Nat} {lv : List (Nat × Value)} {st : List Value} {σ : mj_S} {own : String} {gt : mx_Gt} {tb : mx_Tb}
theorem mj_rc {tk : List FieldType} {C : String} {T : u_T} {N ci b : Nat} {fs : List Value} (hK : va_K G.1 cl (mj_T G tk) s) (hc : cl[ci]? = some (C, T, N)) (hb : b < 1048576) (he : σ[b]? = some (.inr (ci, fs))) : ∀ H : Heap, mj_H G cl σ H → ∃ cellB : Cell, H[mj_ad G b]? = some cellB ∧ cellB.vm.isStatics = false ∧ s.vm.findClass C = some cellB.cls := by
  intro H h1
  rw [mj_adS hb]
  exact va_recv (ws := [(mj_b G + b, .inr (ci, fs.map (mj_rv G)))]) (q0 := 0) hK (mj_P1 (h1.2 b _ he)) hc rfl
def mx_ldi (sel : Nat) : Instr := match sel with
  | 0 => .iaload
  | 1 => .laload
  | 2 => .caload
  | _ => .aaload
def mx_sti (sel : Nat) : Instr := match sel with
  | 0 => .iastore
  | 1 => .lastore
  | 2 => .castore
  | _ => .aastore
set_option maxHeartbeats 1000000 in
theorem mx_ald_s (hx : p.tables.exec = Jvm.exec ∧ c.code = cc) (hKs : K G s) (hK : va_K G.1 cl (mj_T G (mx_tk EW ED)) s) (oA : mx_okA K gt) {sel : Nat} {f : mx_F} (hdg : decode cc pc = .ok (mx_ldi sel, 1)) (h : mx_ald gt sel pc lv st σ = some f)
    (k : mj_W G cl nL p l e R s m args below meth c Q kc ks f.1 f.2.1 f.2.2 σ) : mj_W G cl nL p l e R s m args below meth c Q kc ks pc lv st σ := by
  unfold mx_ald at h
  split at h
  · split at h
    · rename_i ha
      split at h
      · rename_i he
        replace h := mx_if h; obtain ⟨h1, h⟩ := h
        replace h := mx_if h; obtain ⟨h2, h⟩ := h
        cases h
        rcases h2 with ⟨rfl, rfl⟩ | ⟨rfl, rfl⟩
        · exact mj_iald hx hK ha he rfl (mx_inb_s h1) hdg k
        · exact mj_cald hx hK ha he rfl (mx_inb_s h1) hdg k
      · rename_i he
        replace h := mx_if h; obtain ⟨h1, h⟩ := h
        replace h := mx_if h; obtain ⟨⟨rfl, rfl⟩, h⟩ := h
        cases h
        exact mj_lald hx hK ha he rfl (mx_inb_s h1) hdg k
      · rename_i he
        replace h := mx_if h; obtain ⟨h1, h⟩ := h
        replace h := mx_if h; obtain ⟨⟨h2, rfl⟩, h⟩ := h
        cases h
        rcases h2 with rfl | rfl
        · exact mj_aald hx hK ha he rfl (mx_inb_s h1) hdg k
        · exact mj_aald hx hK ha he rfl (mx_inb_s h1) hdg k
      · cases h
    · split at h
      · rename_i hf
        replace h := mx_if h; obtain ⟨h1, h⟩ := h
        replace h := mx_if h; obtain ⟨h2, h⟩ := h
        cases h
        obtain ⟨ty, hT, t1, t2⟩ := oA _ _ _ _ hf G s hKs
        rcases h2 with ⟨rfl, rfl⟩ | ⟨rfl, rfl⟩
        · cases t1 rfl
          exact mj_ildc hx hT (mx_inb_s h1) rfl hdg k
        · exact mj_aaldc hx hT (t2 rfl) (mx_inb_s h1) rfl hdg k
      · cases h
  · cases h
theorem mx_len_s (hx : p.tables.exec = Jvm.exec ∧ c.code = cc) (hKs : K G s) (hK : va_K G.1 cl (mj_T G (mx_tk EW ED)) s) (oA : mx_okA K gt) {f : mx_F} (hdg : decode cc pc = .ok (.arraylength, 1)) (h : mx_len gt pc lv st σ = some f)
    (k : mj_W G cl nL p l e R s m args below meth c Q kc ks f.1 f.2.1 f.2.2 σ) : mj_W G cl nL p l e R s m args below meth c Q kc ks pc lv st σ := by
  unfold mx_len at h
  split at h
  · split at h
    · rename_i ha
      split at h
      · rename_i he
        replace h := mx_if h; obtain ⟨h1, h⟩ := h
        cases h
        have hk : ∃ ft, (mx_tk EW ED)[_]? = some ft := ⟨_, List.getElem?_eq_getElem (l := mx_tk EW ED) h1⟩
        obtain ⟨ft, hft⟩ := hk
        exact mj_alen hx hK ha he hft hdg k
      · cases h
    · split at h
      · rename_i hf
        cases h
        obtain ⟨ty, hT, t1, t2⟩ := oA _ _ _ _ hf G s hKs
        exact mj_alenc hx hT hdg k
      · cases h
  · cases h
set_option maxHeartbeats 1000000 in
theorem mx_ast_s (hx : p.tables.exec = Jvm.exec ∧ c.code = cc) (hKs : K G s) (hK : va_K G.1 cl (mj_T G (mx_tk EW ED)) s) (oW : mx_okW K EW gt) (oD : mx_okD cl ED gt) {sel : Nat} {f : mx_F} {σ' : mj_S} (hdg : decode cc pc = .ok (mx_sti sel, 1)) (h : mx_ast gt sel pc lv st σ = some (f, σ'))
    (k : mj_W G cl nL p l e R s m args below meth c Q kc ks f.1 f.2.1 f.2.2 σ') : mj_W G cl nL p l e R s m args below meth c Q kc ks pc lv st σ := by
  unfold mx_ast at h
  split at h
  · split at h
    · rename_i ha
      split at h
      · rename_i he
        replace h := mx_if h; obtain ⟨h1, h⟩ := h
        split at h
        · rename_i h2
          obtain ⟨rfl, rfl⟩ := h2
          cases h
          exact mj_iast hx hK ha he rfl (mx_inb_s h1) hdg k
        · replace h := mx_if h; obtain ⟨⟨rfl, rfl⟩, h⟩ := h
          cases h
          exact mj_cast hx hK ha he rfl (mx_inb_s h1) hdg k
      · cases h
    · cases h
  · split at h
    · rename_i ha
      split at h
      · rename_i he
        replace h := mx_if h; obtain ⟨h1, h⟩ := h
        replace h := mx_if h; obtain ⟨⟨rfl, rfl⟩, h⟩ := h
        cases h
        exact mj_last hx hK ha he rfl (mx_inb_s h1) hdg k
      · cases h
    · cases h
  · split at h
    · rename_i ha
      split at h
      · rename_i he
        replace h := mx_if h; obtain ⟨h1, h⟩ := h
        split at h
        · rename_i h2
          obtain ⟨rfl, rfl, h3, h4⟩ := h2
          cases h
          refine mj_aast hx hK ha he rfl (mx_inb_s h1) (fun H locs q1 q2 => ?_) hdg k
          obtain ⟨⟨cellV, g1, g2, g3, g4⟩, hn⟩ := oW _ h3 h4 G s hKs
          exact ⟨cellV, by rw [q2.2.1 _ (Array.getElem?_eq_some_iff.mp g1).1 hn]; exact g1, g2, g3, g4⟩
        · replace h := mx_if h; obtain ⟨⟨rfl, rfl, hv⟩, h⟩ := h
          split at h
          · rename_i hev
            replace h := mx_if h; obtain ⟨hc, h⟩ := h
            subst hc
            cases h
            obtain ⟨T, N, hcl⟩ := oD
            refine mj_aast hx hK ha he rfl (mx_inb_s h1) (fun H locs q1 q2 => ?_) hdg k
            obtain ⟨cellB, b1, b2, b3⟩ := mj_rc hK hcl hv hev H q1
            obtain ⟨kC, hkC, -⟩ := Vm.findClass_spec b3
            exact ⟨cellB, b1, b2, ⟨kC, hkC⟩, fun comp hcomp => by
              have e1 : comp = cellB.cls := Option.some.inj (hcomp.symm.trans b3)
              rw [e1]
              exact va_asg _ _⟩
          · cases h
      · cases h
    · cases h
  · cases h
end MXA
