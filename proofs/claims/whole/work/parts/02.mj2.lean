/-! The small machine: stores of chars and references, new cells, statics and constants, ends, calls -/
section MN
variable {p : Program} {l : Launch} {e : Env} {R : Room} {s : State} {m : MethodId} {args : Array Value} {below : List Frame} {meth : Method} {c : Code} {Q : State → Prop}
variable {G : mj_G} {cl : List vw_C} {tk : List FieldType} {nL kc ks : Nat} {cc : ByteArray} {pc : Nat} {lv : List (Nat × Value)} {st : List Value} {σ : mj_S} {own : String}
variable {C : String} {T : u_T} {N ci ix : Nat} {ty0 : Nat → FieldType}
theorem mj_cast (hx : p.tables.exec = Jvm.exec ∧ c.code = cc) (hK : va_K G.1 cl (mj_T G tk) s) {a k n : Nat} {f : Nat → Int32} {i : Int32} {x : Int32} (ha : a < 1048576) (he : σ[a]? = some (.inl (k, n, .inl f))) (ht : tk[k]? = some .char) (hin : vp_in i n) (hdg : decode cc pc = .ok (.castore, 1))
    (kk : mj_W G cl nL p l e R s m args below meth c Q kc ks (pc + 1) lv st (σ.set a (.inl (k, n, .inl (upd f i.toNatClampNeg (vp_nar .char x)))))) : mj_W G cl nL p l e R s m args below meth c Q kc ks pc lv (.int x :: .int i :: .ref a :: st) σ := by
  intro H locs ls h1 h2 h3
  show W p l e R s m args below meth c H locs kc ks Q (F0 m pc ls (.int x :: .int i :: mj_rv G (.ref a) :: st.map (mj_rv G)))
  rw [mj_rv_ref ha]
  have h4 : H[mj_b G + a]? = some (vp_cell (G.2.1 k) (n, .inl f)) := h1.2 a _ he
  refine W.cast hx.1 hx.2 h4 ((hK.2 k _ (mj_T_at ht)).1 n (fun j => .int (f j))) (fun q => by cases q) (by show ¬ (i < 0 ∨ (arrV _ _ _).slots.size ≤ _); rw [arrV_size]; exact hin) rfl rfl hdg fun H1 e z oq => ?_
  refine kk H1 _ ls (h1.set he ?_ z oq) (h2.put z oq (Nat.le_add_right _ _)) h3
  show H1[mj_b G + a]? = some (vp_cell _ _)
  rw [e]
  rw [vp_cell_i, vp_cell_i, arrV_store]
  congr 2
  funext q
  by_cases hq : q = i.toNatClampNeg
  · subst hq
    simp [updV, upd, vp_nar]
    try rfl
  · simp [updV, upd, hq]
theorem mj_aast (hx : p.tables.exec = Jvm.exec ∧ c.code = cc) (hK : va_K G.1 cl (mj_T G tk) s) {a k n v : Nat} {E : String} {f : Nat → Option Nat} {i : Int32} (ha : a < 1048576) (he : σ[a]? = some (.inl (k, n, .inr (.inr (.inr (.inr f)))))) (ht : tk[k]? = some (.object E)) (hin : vp_in i n) (hr : ∀ (H : Heap) (locs : List Loc), mj_H G cl σ H → va_S (mj_A G) s.heap H locs → va_Any E s H (mj_ad G v)) (hdg : decode cc pc = .ok (.aastore, 1))
    (kk : mj_W G cl nL p l e R s m args below meth c Q kc ks (pc + 1) lv st (σ.set a (.inl (k, n, .inr (.inr (.inr (.inr (va_up f i.toNatClampNeg (some v))))))))) : mj_W G cl nL p l e R s m args below meth c Q kc ks pc lv (.ref v :: .int i :: .ref a :: st) σ := by
  intro H locs ls h1 h2 h3
  show W p l e R s m args below meth c H locs kc ks Q (F0 m pc ls (.ref (mj_ad G v) :: .int i :: mj_rv G (.ref a) :: st.map (mj_rv G)))
  rw [mj_rv_ref ha]
  have h4 : H[mj_b G + a]? = some (vp_cell (G.2.1 k) (n, .inr (.inr (.inr (.inr (fun j => (f j).map (mj_ad G))))))) := h1.2 a _ he
  have hlt : i.toNatClampNeg < n := Nat.not_le.mp fun q => hin (Or.inr q)
  have h0 : ¬ i < 0 := fun q => hin (Or.inl q)
  obtain ⟨cellV, g1, g3, ⟨kC, hkC⟩, hasg⟩ := hr H locs h1 h2
  obtain ⟨kA, comp, k1, k2, k3, -⟩ := (hK.2 k _ (mj_T_at ht)).2
  obtain ⟨kE, hkE, -⟩ := Vm.findClass_spec k3
  refine W.aast hx.1 hx.2 h4 (fun q h => by cases h) (fun h => by cases h) k1 k2 rfl hkE ⟨h0, by show _ < (arrV _ _ _).slots.size; rw [arrV_size]; exact hlt⟩ g1 (fun q h => by rw [h] at g3; cases g3) hkC (hasg _ k3) rfl rfl hdg fun H1 e z oq => ?_
  refine kk H1 _ ls (h1.set he ?_ z oq) (h2.put z oq (Nat.le_add_right _ _)) h3
  show H1[mj_b G + a]? = some (vp_cell _ _)
  rw [e]
  rw [vp_cell_q, vp_cell_q, arrV_store]
  congr 2
  funext q
  by_cases hq : q = i.toNatClampNeg
  · subst hq
    simp [updV, va_up, va_rf]
  · simp [updV, va_up, hq]
theorem mj_newc (hx : p.tables.exec = Jvm.exec ∧ c.code = cc) (hown : s.vm.findClass own = some m.cls) (hK : va_K G.1 cl (mj_T G tk) s) (hu : ∀ w ∈ u_ws C T N, w.before args s = true) (hty : ∀ k, k < N → parseFieldDescriptor (T k).2.2.1 = some (ty0 k)) (hc : cl[ci]? = some (C, T, N)) (hcl : (Cond.classLink own ix C).before args s = true) {n : Nat} (hinst : (Cond.instantiable C n).before args s = true) (hini : (Cond.initialized C).before args s = true) {fs : List Value} (hfs : ∀ j, j < N → defaultValue (ty0 j) = vp_V (fs.map (mj_rv G)) j) (hcells : kc + 1 ≤ R.cells) (hslots : ks + n ≤ R.slots) (hb : mj_b G ≤ s.heap.size) (hlen : σ.length < 1048576) (hdg : decode cc pc = .ok (.new ix, 3))
    (kk : mj_W G cl nL p l e R s m args below meth c Q (kc + 1) (ks + n) (pc + 3) lv (.ref σ.length :: st) (σ ++ [.inr (ci, fs)])) : mj_W G cl nL p l e R s m args below meth c Q kc ks pc lv st σ := by
  intro H locs ls h1 h2 h3
  have hKn := hK.1 ci _ hc
  refine W.newcK hx.1 hx.2 hown hcl hinst hini rfl hdg hcells hslots hKn.2.1 rfl fun H1 kC hkC e1 z1 o1 => ?_
  have e0 : H.size = mj_b G + σ.length := h1.1
  have h4 := kk H1 locs ls (h1.push ?_ z1 o1) ⟨Nat.le_trans h2.1 (by omega), fun x h1 h2' => (o1 x (Nat.lt_of_lt_of_le h1 h2.1)).trans (h2.2.1 x h1 h2'), h2.2.2⟩ h3
  · rw [List.map_cons, mj_rv_ref hlen, ← e0] at h4
    exact h4
  · rw [← e0]
    exact ⟨_, hc, (u_born ty0 hu (fun w h => h) hKn hkC e1 hty).to hfs⟩
theorem mj_newa (hx : p.tables.exec = Jvm.exec ∧ c.code = cc) (hK : va_K G.1 cl (mj_T G tk) s) {atype : ArrayType} (harr : (Cond.arrayClass (newarray.typeOf atype)).before args s = true) {k : Nat} (ht : tk[k]? = some (newarray.typeOf atype)) {n : Int32} {N' : Nat} {f : (Nat → Int32) ⊕ (Nat → Int64) ⊕ (Nat → UInt32) ⊕ (Nat → UInt64) ⊕ (Nat → Option Nat)} (hf : ∀ cA : ClassId, va_at G.1 cl = va_at G.1 cl → vp_cell cA (N', f) = arrV cA N' (fun _ => defaultValue (newarray.typeOf atype))) (hre : mj_re G (.inl (k, N', f)) = .inl (G.2.1 k, N', f)) (hn : ¬ n < 0) (hN : n.toNatClampNeg = N') (hbytes : N' * componentBytes (newarray.typeOf atype) ≤ 536870912) (hcells : kc + 1 ≤ R.cells) (hslots : ks + N' ≤ R.slots) (hlen : σ.length < 1048576) (hdg : decode cc pc = .ok (.newarray atype, 2))
    (kk : mj_W G cl nL p l e R s m args below meth c Q (kc + 1) (ks + N') (pc + 2) lv (.ref σ.length :: st) (σ ++ [.inl (k, N', f)])) : mj_W G cl nL p l e R s m args below meth c Q kc ks pc lv (.int n :: st) σ := by
  intro H locs ls h1 h2 h3
  refine va_newaK hx.1 hx.2 harr rfl hdg rfl hn hN hbytes hcells hslots rfl fun H1 cA e1 z1 o1 hAr hNm => ?_
  have e0 : H.size = mj_b G + σ.length := h1.1
  have hcA : G.2.1 k = cA := by
    have h9 : s.vm.findClass ("[" ++ (newarray.typeOf atype).toString) = some (G.2.1 k) := by
      have h8 := (hK.2 k _ (mj_T_at ht)).2
      cases atype <;> exact h8
    exact Option.some.inj (h9.symm.trans hNm)
  have h4 := kk H1 locs ls (h1.push ?_ z1 o1) ⟨Nat.le_trans h2.1 (by omega), fun x h1 h2' => (o1 x (Nat.lt_of_lt_of_le h1 h2.1)).trans (h2.2.1 x h1 h2'), h2.2.2⟩ h3
  · rw [List.map_cons, mj_rv_ref hlen, ← e0] at h4
    exact h4
  · rw [← e0, hre, hcA]
    show H1[H.size]? = some (vp_cell _ _)
    rw [hf _ rfl]
    exact e1
theorem mj_anew (hx : p.tables.exec = Jvm.exec ∧ c.code = cc) (hown : s.vm.findClass own = some m.cls) (hK : va_K G.1 cl (mj_T G tk) s) {E : String} (hclink : (Cond.classLink own ix E).before args s = true) (hover : va_AO E s) {k : Nat} (ht : tk[k]? = some (.object E)) {n : Int32} {N' : Nat} (hn : ¬ n < 0) (hN : n.toNatClampNeg = N') (hbytes : N' * 4 ≤ 536870912) (hcells : kc + 1 ≤ R.cells) (hslots : ks + N' ≤ R.slots) (hlen : σ.length < 1048576) (hdg : decode cc pc = .ok (.anewarray ix, 3))
    (kk : mj_W G cl nL p l e R s m args below meth c Q (kc + 1) (ks + N') (pc + 3) lv (.ref σ.length :: st) (σ ++ [.inl (k, N', .inr (.inr (.inr (.inr (fun _ => none)))))])) : mj_W G cl nL p l e R s m args below meth c Q kc ks pc lv (.int n :: st) σ := by
  subst hN
  intro H locs ls h1 h2 h3
  refine W.anew hx.1 hx.2 hown hclink (va_AO.use hover) rfl hdg rfl hn hbytes hcells hslots fun cA kA comp f1 f2 f3 f4 => ?_
  have e0 : H.size = mj_b G + σ.length := h1.1
  have hcA : G.2.1 k = cA := by
    obtain ⟨kA2, comp2, k1, k2, k3, k4⟩ := (hK.2 k _ (mj_T_at ht)).2
    exact Option.some.inj (k4.symm.trans f1)
  generalize hH1 : H.push ({ cls := cA, slots := Array.replicate n.toNatClampNeg .null, vm := .none } : Cell) = H1
  have z1 : H1.size = H.size + 1 := by rw [← hH1, Array.size_push]
  have e1 : H1[H.size]? = some (arrV cA n.toNatClampNeg (fun _ => .null)) := by rw [← hH1, Array.getElem?_push_size, ← arrV_new]
  have o1 : ∀ q : Nat, q < H.size → H1[q]? = H[q]? := fun q hq => by rw [← hH1, Array.getElem?_push, if_neg (Nat.ne_of_lt hq)]
  have h4 := kk H1 locs ls (h1.push ?_ z1 o1) ⟨Nat.le_trans h2.1 (by omega), fun x h1 h2' => (o1 x (Nat.lt_of_lt_of_le h1 h2.1)).trans (h2.2.1 x h1 h2'), h2.2.2⟩ h3
  · rw [List.map_cons, mj_rv_ref hlen, ← e0] at h4
    exact h4
  · rw [← e0]
    show H1[H.size]? = some (vp_cell (G.2.1 k) _)
    rw [hcA, e1, vp_cell_q]
    rfl
/-- statics that nobody writes; fields and places of constants -/
theorem mj_gets (hx : p.tables.exec = Jvm.exec ∧ c.code = cc) (hown : s.vm.findClass own = some m.cls) {t : String × String × String × Bool} {v : Value} (hZ : va_Z t.1 t.2.1 t.2.2.1 (mj_rv G v) (mj_A G) s s.heap) (hl : mj_FL s args own ix t) (hdg : decode cc pc = .ok (.getstatic ix, 3))
    (kk : mj_W G cl nL p l e R s m args below meth c Q kc ks (pc + 3) lv (v :: st) σ) : mj_W G cl nL p l e R s m args below meth c Q kc ks pc lv st σ := by
  intro H locs ls h1 h2 h3
  obtain ⟨ref, hsame, h | ⟨host, h⟩⟩ := hl
  · exact va_gets hx.1 hx.2 hZ h2 hown h hsame hdg (kk H locs ls h1 h2 h3)
  · exact va_getsN hx.1 hx.2 hZ h2 hown h hsame hdg (kk H locs ls h1 h2 h3)
theorem mj_getc (hx : p.tables.exec = Jvm.exec ∧ c.code = cc) (hown : s.vm.findClass own = some m.cls) {t : String × String × String × Bool} {i : Nat} {v : Value} (hZ : va_OF t.1 t.2.1 t.2.2.1 (mj_rv G v) (mj_ad G i) (mj_A G) s s.heap) (hl : mj_FL s args own ix t) (hdg : decode cc pc = .ok (.getfield ix, 3))
    (kk : mj_W G cl nL p l e R s m args below meth c Q kc ks (pc + 3) lv (v :: st) σ) : mj_W G cl nL p l e R s m args below meth c Q kc ks pc lv (.ref i :: st) σ := by
  intro H locs ls h1 h2 h3
  obtain ⟨ref, hsame, h | ⟨host, h⟩⟩ := hl
  · exact vk_getf hx.1 hx.2 hZ h2 hown h hsame hdg (kk H locs ls h1 h2 h3)
  · obtain ⟨cf, k, fi, f, cell, g1, g2, g3, g4, g5, g6⟩ := hZ.kept h2.2.1
    exact va_Wgetf hx.1 hx.2 hown h (hsame _ g1) g2 g3 g4 (v := mj_rv G v) g5 rfl rfl hdg (kk H locs ls h1 h2 h3)
theorem mj_ildc (hx : p.tables.exec = Jvm.exec ∧ c.code = cc) {a n : Nat} {f : Nat → Value} (hT : va_T .int (mj_ad G a) n (fun j => mj_rv G (f j)) (mj_A G) s s.heap) {i : Int32} (hin : vp_in i n) {v : Value} (hv : f i.toNatClampNeg = v) (hdg : decode cc pc = .ok (.iaload, 1))
    (kk : mj_W G cl nL p l e R s m args below meth c Q kc ks (pc + 1) lv (v :: st) σ) : mj_W G cl nL p l e R s m args below meth c Q kc ks pc lv (.int i :: .ref a :: st) σ := by
  intro H locs ls h1 h2 h3
  exact va_ti hx.1 hx.2 hT h2 hin (congrArg (mj_rv G) hv) hdg (kk H locs ls h1 h2 h3)
theorem mj_alenc (hx : p.tables.exec = Jvm.exec ∧ c.code = cc) {a n : Nat} {f : Nat → Value} {ty : FieldType} (hT : va_T ty (mj_ad G a) n f (mj_A G) s s.heap) (hdg : decode cc pc = .ok (.arraylength, 1))
    (kk : mj_W G cl nL p l e R s m args below meth c Q kc ks (pc + 1) lv (.int (nI n) :: st) σ) : mj_W G cl nL p l e R s m args below meth c Q kc ks pc lv (.ref a :: st) σ := by
  intro H locs ls h1 h2 h3
  exact va_tlen hx.1 hx.2 hT h2 rfl hdg (kk H locs ls h1 h2 h3)
theorem mj_aaldc (hx : p.tables.exec = Jvm.exec ∧ c.code = cc) {a n : Nat} {f : Nat → Value} {ty : FieldType} (hT : va_T ty (mj_ad G a) n (fun j => mj_rv G (f j)) (mj_A G) s s.heap) (hty : ty.isReference = true) {i : Int32} (hin : vp_in i n) {v : Value} (hv : f i.toNatClampNeg = v) (hdg : decode cc pc = .ok (.aaload, 1))
    (kk : mj_W G cl nL p l e R s m args below meth c Q kc ks (pc + 1) lv (v :: st) σ) : mj_W G cl nL p l e R s m args below meth c Q kc ks pc lv (.int i :: .ref a :: st) σ := by
  intro H locs ls h1 h2 h3
  obtain ⟨cell, g1, g2, g3, g4, g5, g6, g7⟩ := hT
  have hlt : i.toNatClampNeg < n := Nat.not_le.mp fun q => hin (Or.inr q)
  have hin' : ¬ (i < 0 ∨ cell.slots.size ≤ i.toNatClampNeg) := by
    intro q
    rcases q with q | q
    · exact hin (Or.inl q)
    · omega
  exact W.aald (v := mj_rv G v) hx.1 hx.2 (by rw [h2.2.1 _ (Array.getElem?_eq_some_iff.mp g1).1 g7]; exact g1) g2 hty g3 hin' (by rw [g6 _ hlt]; exact congrArg (fun x => some (mj_rv G x)) hv) rfl rfl hdg (kk H locs ls h1 h2 h3)
theorem mj_ldc (hx : p.tables.exec = Jvm.exec ∧ c.code = cc) (hown : s.vm.findClass own = some m.cls) {v : Int32} (hk : (Cond.constant own ix v).before args s = true) (hdg : decode cc pc = .ok (.ldc ix, 2))
    (kk : mj_W G cl nL p l e R s m args below meth c Q kc ks (pc + 2) lv (.int v :: st) σ) : mj_W G cl nL p l e R s m args below meth c Q kc ks pc lv st σ := fun H locs ls h1 h2 h3 => lv_ldc hx.1 hx.2 hown hk hdg (kk H locs ls h1 h2 h3)
theorem mj_ldc2 (hx : p.tables.exec = Jvm.exec ∧ c.code = cc) (hown : s.vm.findClass own = some m.cls) {v : Int64} (hk : (Cond.constantLong own ix v).before args s = true) (hdg : decode cc pc = .ok (.ldc2_w ix, 3))
    (kk : mj_W G cl nL p l e R s m args below meth c Q kc ks (pc + 3) lv (.long v :: st) σ) : mj_W G cl nL p l e R s m args below meth c Q kc ks pc lv st σ := fun H locs ls h1 h2 h3 => lv_ldc2 hx.1 hx.2 hown hk hdg (kk H locs ls h1 h2 h3)
end MN
