/-! THE CLAIM OUT OF ONE RUN OF THE LAW. From here on the kit's skeleton, with two premises more: the launch records no stack traces, the law's method has no handlers. -/
/-- the law's run ends with true, within the claim's room -/
theorem tc_run (L : Nat) (xs : Nat → Int32) (hL : L ≤ 2048) : ∃ (σ' : mj_S) (z' : Nat), mx_R xMi (xgt L xs) 61 13 xi_L_law (0, [(0, .ref 1048640)], []) [] 0 (.inl (some (.int 1))) σ' z' ∧ σ'.length ≤ 601024 ∧ z' ≤ 7293034 := by
  have hw := slaw (z0 := tp_z) (L := L) (xs := xs) (Q := fun r s => r = 1 ∧ ∃ e, 4 * e ≤ L ∧ rB tp_z e s.1 s.2) (by omega) (fun s e he hB => ⟨rfl, e, he, hB⟩) (L / 4 + 1) 0 0 (tp_C, tp_M) tp_rB (Nat.zero_le _) (Nat.zero_le _) (by omega)
  have hg := p_L_law_23 L xs (by omega) 0 _ _ 0 (tp_C, tp_M) hw
  obtain ⟨o, x', h1, r, ho, hr, e, he, hB⟩ := xG.lv (lv' := [(4, .int 0), (3, .ref 37), (2, .ref 22), (1, .ref 0), (0, .ref 1048640)]) rfl rfl rfl hg
  subst hr
  subst ho
  have h2 := h1 ()
  have h3 : mx_R xMi (xgt L xs) 61 13 xi_L_law (23, [(4, .int 0), (3, .ref 37), (2, .ref 22), (1, .ref 0), (0, .ref 1048640)], []) tp_41 8533 (.inl (some (.int 1))) (xel x' ()).1 (xel x' ()).2 := by
    rw [← tp_st]
    exact h2
  obtain ⟨k1, k2⟩ := hB.1.2.2.2.2.2.2.1
  obtain ⟨H, k5⟩ := hB.1.2.2.2.2.1
  have k3 := k5.1
  have k4 := k5.2.1
  have hz : tp_z = 8533 := rfl
  refine ⟨(xel x' ()).1, (xel x' ()).2, tr_law L xs h3, ?_, ?_⟩
  · show x'.1.2.2.2.2.2.2.1.length + 38 ≤ 601024
    omega
  · show x'.1.2.2.2.2.2.2.2 ≤ 7293034
    omega
def R_law : String := "StackForthLaw"
def lw_P (b : Addr) (xs : List Int32) (args : Array Value) (s : State) : Prop := args = #[.ref b] ∧ s.IntsAt b xs ∧ xs.length ≤ 2048 ∧ (Jvm.Cond.and given_1 narrow_1).before args s = true
def lw_Q (_ : Array Value) (s : State) (o : Outcome) (t : State) : Prop := o = .returned (some (.int 1)) ∧ Framed s o t [] 601024 7293034
def lw_Z (below : List Frame) (a : Array Value) (s : State) : State → Prop := fun t => ∃ o, t.status = .running ∧ Ended t below o ∧ lw_Q a s o t
def lw_At (p : Program) (s : State) (m : MethodId) (meth : Method) (c : Code) (b L : Nat) (xs : Nat → Int32) : Prop :=
  p.tables.exec = Jvm.exec ∧ c.code = code ∧ meth.sig.returnType = ret ∧ c.maxLocals = 7 ∧ s.vm.findClass R_law = some m.cls ∧ (∀ w ∈ lw_tbl, w.before #[Value.ref b] s = true) ∧ va_X b L xs s s.heap ∧ b < s.heap.size ∧ meth.locks = false ∧ (Jvm.Cond.and given_1 narrow_1).before #[Value.ref b] s = true
theorem whole_start {p : Program} {e : Env} {s : State} {m : MethodId} {below : List Frame} {meth : Method} {c : Code} (l : Launch) (hl : l.stackTraces = false) {b L : Nat} {xs : Nat → Int32} (hL : L ≤ 2048) (C0 : lw_At p s m meth c b L xs) (hnm : meth.name = "law") (hE : c.exceptionTable.toList = []) : W p l e room_1 s m #[Value.ref b] below meth c s.heap [] 0 0 (lw_Z below #[Value.ref b] s) (entryFrame m ([Value.ref b] : List Value).toArray 7) := by
  obtain ⟨hx, hb, hr, hml, hown, hts, hX, hbl, hlk, hgv⟩ := C0
  obtain ⟨G, g1, g2, hK⟩ := xK_start hts (flat_of_before _ hgv) hX hbl
  obtain ⟨σ', z', ⟨n, hn⟩, hc, hz⟩ := tc_run L xs hL
  have h := mx_sound (G := G) (xoG L xs) (xoA2 (l := l) (L := L) (xs := xs) hl) n 13 xi_L_law (0, [(0, .ref 1048640)], []) [] 0 (.inl (some (.int 1))) σ' z' hn (xo_L_law hl) p e room_1 s m #[Value.ref b] below meth c 0 0 ⟨⟨hx, hb⟩, hml, hown, hr, hlk, hnm, hK, by rw [g1]; exact Nat.le_refl _⟩ (by show List.map _ _ = []; rw [hE]; rfl) (by decide) (by decide) (by show 0 + (σ'.length - 0) ≤ 601024; omega) (by show 0 + (z' - 0) ≤ 7293034; omega)
  have hlv : lv_has ((lg_sl [Value.ref b] ++ List.replicate (7 - (lg_sl [Value.ref b]).length) Slot.unset).toArray) 7 (mj_L G [(0, .ref 1048640)]) := by
    show lv_has _ 7 [(0, mj_rv G (.ref 1048640))]
    rw [g2]
    exact lv_entry [Value.ref b] (show 1 ≤ 7 by decide)
  have h1 := h s.heap [] _ ⟨by rw [g1]; rfl, fun i e hi => by simp at hi⟩ ⟨Nat.le_refl _, fun q _ _ => rfl, fun l hl => by simp at hl⟩ hlv
  rw [lg_entry_eq]
  intro T hT X
  obtain ⟨t, a1, m1, m2, m3, m4, m5, m6, Lc, m7, m8⟩ := h1 T hT X
  refine ⟨t, a1, .returned (some (.int 1)), m1, m2, rfl, ⟨_, rfl⟩, m6, m7.weaken (fun x hx hlt => ?_) (by show 0 + (σ'.length - 0) ≤ 601024; omega) (by show 0 + (z' - 0) ≤ 7293034; omega)⟩
  have q : mj_b G ≤ x.base := m8 x hx
  rw [g1] at q
  exact absurd hlt (Nat.not_lt.mpr q)
