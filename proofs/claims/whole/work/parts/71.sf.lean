/-! ";", and the definitions of variables and constants -/
/-- what the end of a definition leaves, and does -/
def rEn (C : xC) (M : xM) (C' : xC) (M' : xM) : Prop := (∃ H, rDs C' M' H) ∧ rNm C' M' ∧ C'.1 5 = 0 ∧ M'.1 1 = 0 ∧ C'.1 4 = C.1 4 + 1 ∧ M'.1 4 = M.1 4 + 1 ∧ (∀ i, i < 4 ∨ 9 ≤ i → C'.1 i = C.1 i) ∧ (∀ k, k = 0 ∨ k = 4 → C'.2.1 k = C.2.1 k) ∧ (∀ k, k ≠ 0 → C'.2.2.1 k = C.2.2.1 k) ∧ C'.2.2.2.2.2.1 = C.2.2.2.2.2.1 ∧ C'.2.2.2.2.2.2.1.length = C.2.2.2.2.2.2.1.length + 5 ∧ C'.2.2.2.2.2.2.2 ≤ C.2.2.2.2.2.2.2 + 246 ∧ (∀ i, i ≠ 1 → i ≠ 4 → i ≠ 6 → i ≠ 7 → i ≠ 8 → M'.1 i = M.1 i) ∧ (∀ k, k = 0 ∨ 6 ≤ k → M'.2.1 k = M.2.1 k) ∧ (∀ k, k ≠ 0 → M'.2.2.1 k = M.2.2.1 k)
theorem rEn_mk {C X : xC} {M M' : xM} {H : Nat → Nat → Nat} {h : Nat → Nat} (k : rDs C M H) (kn : rNm C M) (hc : rhC C X) (hm : rhM M M') (h40 : M.1 4 < 40) (hl : X.2.2.2.2.2.2.1.length + 43 < 1048576) (hd : rDef (M.1 4 + 1) M' (M.1 4) (rDn X) h) (hn : rNm1 X.2.2.2.1 (M'.2.2.2 (M.1 4))) (hb : M'.1 1 = 0) : rEn C M (rFn X) (dN M' 4 (M.1 4 + 1)) := by
  have h6 : X.1 6 ≤ 60 := hd.2.2.1
  refine ⟨⟨_, rDs_new k hc hm h40 hl hd⟩, rNm_new kn hc hm k.1 h6 hl hn, rfl, hb, ?_, rfl, fun i hi => ?_, fun j hj => hc.2.1 j hj, fun j hj => hc.2.2.1 j hj, ?_, ?_, ?_, fun i a1 a2 a3 a4 a5 => ?_, fun j hj => hm.2.1 j hj, fun j hj => hm.2.2.2.2.1 j hj⟩
  · show X.1 4 + 1 = C.1 4 + 1
    rw [hc.1 4 (by decide)]
  · show xu (xu X.1 4 _) 5 0 i = _
    simp only [xu]
    rw [if_neg (by omega), if_neg (by omega)]
    exact hc.1 i (by omega)
  · show X.2.2.2.2.2.1 = _
    rw [hc.2.2.2.2]
  · show (X.2.2.2.2.2.2.1 ++ xT5 X X.2.2.2.1 (X.1 6) (X.1 6)).length = _
    rw [List.length_append, hc.2.2.2.2]; rfl
  · show X.2.2.2.2.2.2.2 + 6 + X.1 6 + X.1 6 + X.1 6 + X.1 6 ≤ _
    rw [hc.2.2.2.2]; omega
  · show xu M'.1 4 _ i = _
    simp only [xu]; rw [if_neg a2]
    exact hm.1 i a1 a3 a4 a5
section SF
variable {C : xC} {M : xM} {h : Nat → Nat} {H : Nat → Nat → Nat} {Q : Nat → xC → Prop}
/-- add, where a fault has been told before -/
theorem raddM2 {w : Nat} {v : Int32} {Q : xM → Prop} (hw : w < 50) (hw7 : w ≠ 47) (h4 : M.1 4 < 40) (hs : M.2.1 1 (M.1 4) ≤ 60) (h7 : M.1 7 ≤ 3) (hb : M.1 1 = 2) (hn : ∀ M', rhM M M' → M'.1 1 = 2 → Q M') : w_R_add (rcd w) v M Q := by
  unfold w_R_add
  refine ⟨by omega, by omega, fun q => ?_, fun q => rfsM hw hw7 ?_⟩
  · unfold w_R_wrong
    exact ⟨by omega, fun z => by omega, fun _ => hn _ (rhM_1 _ _) hb⟩
  by_cases c : xwK w = 7
  · rw [if_pos c]
    have e1 : (rMf M).1 7 = 0 ∧ (rMf M).1 4 = M.1 4 ∧ (rMf M).2.1 1 = M.2.1 1 ∧ (rMf M).1 1 = M.1 1 := by unfold rMf; split <;> exact ⟨rfl, rfl, rfl, rfl⟩
    refine ⟨by decide, fun q => absurd q (by decide), fun _ => rflM h4 hs ?_⟩
    have := radd33 (M := rMf M) (v := v) (Q := Q) hw hw7 (by rw [e1.2.1]; exact h4) (by rw [e1.2.1, e1.2.2.1]; omega) (by rw [e1.1]; decide) (fun x y st _ _ _ => hn _ ((rMf_h M).tr (rMa_h _ _ _ _ _)) (e1.2.2.2.trans hb))
    rw [e1.2.1, e1.2.2.1] at this
    exact this
  · rw [if_neg c]
    exact ⟨by decide, fun _ => radd33 hw hw7 h4 (by omega) h7 (fun x y st _ _ _ => hn _ (rMa_h _ _ _ _ _) hb), fun q => absurd rfl q⟩
/-- the other side's ";" -/
def rWe (M : xM) (Q : xM → Prop) : Prop := (M.1 8 < 2147483648 ∧ ((M.1 8 ≤ 0 → w_R_compile_93 M Q) ∧ (¬ (M.1 8 ≤ 0) → w_R_wrong 2 M (fun M3033 => w_R_compile_93 M3033 Q))))
theorem rOp_of {nd i w n : Nat} {X : xC} {Y M2 : xM} {g : Nat → Nat} {D : xDf} (q : rOq nd X Y g i w) (hn : X.1 6 = n) (hi : i < n) (hD : D.2.1 = n + 1) (d1 : D.2.2.1 i = X.2.2.2.2.1 1 i) (d2 : D.2.2.2.1 i = X.2.2.1 0 i) (d3 : D.2.2.2.2.1 i = X.2.1 1 i) (d4 : D.2.2.2.2.2 i = X.2.1 2 i) (m2 : M2.2.1 2 (60 * nd + i) = Y.2.1 2 (60 * nd + i)) (m3 : M2.2.1 3 (60 * nd + i) = Y.2.1 3 (60 * nd + i)) (m0 : M2.2.2.1 0 (60 * nd + i) = Y.2.2.1 0 (60 * nd + i)) : rOp (nd + 1) M2 nd D g i w := by
  have o1 := q.1
  have o2 := q.2.1
  have o2b := q.2.2.1
  have o3 := q.2.2.2.1
  have o4 := q.2.2.2.2.1
  have o5 := q.2.2.2.2.2.1
  have o6 := q.2.2.2.2.2.2.1
  have o7 := q.2.2.2.2.2.2.2.1
  have o7b := q.2.2.2.2.2.2.2.2.1
  have o8 := q.2.2.2.2.2.2.2.2.2.1
  refine ⟨o1, o2, d1.trans o3, m2.trans o4, by rw [d3, m3]; exact o5, by rw [d4, m3]; exact o6, by rw [m3]; omega, d3.trans o8, fun z => by rw [d2, m0]; exact q.n37 z, fun z => ?_, fun z1 z2 z3 => ?_, fun z => absurd z o2b, fun z => by omega, fun z => ⟨fun y => by rw [d3]; exact q.nx y, q.nz⟩⟩
  · obtain ⟨e, a1, a2, a3⟩ := q.n49 z
    exact ⟨e, by omega, by rw [d2]; exact a2, by rw [m0]; exact a3⟩
  · obtain ⟨t, a1, a2, a3, a4⟩ := q.jmp z1 z2 z3
    exact ⟨t, by omega, a2, by rw [d2]; exact a3, by rw [m0]; exact a4⟩
/-- from the flushed states -/
theorem sEnd1 {X : xC} {Y : xM} {g : Nat → Nat} (hDs : rDs C M H) (hN : rNm C M) (hc : rhC C X) (hm : rhM M Y) (hk : rKp X Y g) (h7 : X.1 7 = 0) (hs : X.1 6 < 60) (hl : X.2.2.2.2.2.2.1.length + 43 < 1048576) (hn : rNm1 X.2.2.2.1 (Y.2.2.2 (M.1 4))) (hb : Y.1 1 = 0) : rEn C M (rFn (rCf (rCa X 48 (nI 0) 0 0 0))) (dN (dN (rMa Y 42 (nI 0) 0 0) 6 0) 4 (M.1 4 + 1)) := by
  have m4 : Y.1 4 = M.1 4 := hm.1 4 (by decide) (by decide) (by decide) (by decide)
  obtain ⟨k1, k2, k3, k4, k5, k6, k7, k9, k10, k11⟩ := hk
  have e : rCf (rCa X 48 (nI 0) 0 0 0) = cN (cB (rCa X 48 (nI 0) 0 0 0) 2 (X.1 6) (xu (X.2.1 2) (X.1 6) 0 (X.1 6) + 0)) 7 0 := by
    unfold rCf
    rw [if_neg (show ¬ (rCa X 48 (nI 0) 0 0 0).1 6 = 0 from Nat.succ_ne_zero _)]
    rfl
  have e2 : (rCf (rCa X 48 (nI 0) 0 0 0)).2.1 2 = xu (X.2.1 2) (X.1 6) 0 := by
    rw [e]
    show xu (xu (X.2.1 2) (X.1 6) 0) (X.1 6) (xu (X.2.1 2) (X.1 6) 0 (X.1 6) + 0) = _
    rw [xu_xu]
    have : xu (X.2.1 2) (X.1 6) 0 (X.1 6) + 0 = 0 := by simp [xu]
    rw [this]
  have c6 : (rCf (rCa X 48 (nI 0) 0 0 0)).1 6 = X.1 6 + 1 := by rw [e]; rfl
  have cb1 : (rCf (rCa X 48 (nI 0) 0 0 0)).2.1 1 = xu (X.2.1 1) (X.1 6) 0 := by rw [e]; rfl
  have ca0 : (rCf (rCa X 48 (nI 0) 0 0 0)).2.2.1 0 = xu (X.2.2.1 0) (X.1 6) (nI 0) := by rw [e]; rfl
  have cr1 : (rCf (rCa X 48 (nI 0) 0 0 0)).2.2.2.2.1 1 = xu (X.2.2.2.2.1 1) (X.1 6) (some (1048576 + 48)) := by rw [e]; rfl
  have cn : (rCf (rCa X 48 (nI 0) 0 0 0)).2.2.2.1 = X.2.2.2.1 ∧ (rCf (rCa X 48 (nI 0) 0 0 0)).2.2.2.2.2.2.1 = X.2.2.2.2.2.2.1 := by rw [e]; exact ⟨rfl, rfl⟩
  have ch : rhC C (rCf (rCa X 48 (nI 0) 0 0 0)) := hc.tr ((rCa_h _ _ _ _ _ _).tr (rCf_h _))
  generalize rCf (rCa X 48 (nI 0) 0 0 0) = Z at *
  have mh : rhM M (dN (rMa Y 42 (nI 0) 0 0) 6 0) := hm.tr ((rMa_h _ _ _ _ _).tr ⟨fun i _ a _ _ => by simp only [dN, xu]; rw [if_neg a], fun _ _ => rfl, fun _ _ => rfl, fun _ _ _ _ => rfl, fun _ _ => rfl, fun _ _ => rfl, fun _ _ => rfl⟩)
  refine rEn_mk (h := g) hDs hN ch mh (by omega) (by rw [cn.2]; exact hl) (rDef_new ?_ (by omega) (by omega) k6 (fun i hi => ?_)) (by rw [cn.1]; exact hn) hb
  · show Z.1 6 = xu (Y.2.1 1) (Y.1 4) (Y.2.1 1 (Y.1 4) + 1) (M.1 4)
    rw [m4] at k2 ⊢
    simp [xu]; omega
  · rw [c6] at hi
    by_cases c : i = X.1 6
    · subst c
      have j2 : (dN (rMa Y 42 (nI 0) 0 0) 6 0).2.1 2 (60 * M.1 4 + X.1 6) = 42 := by
        show xu (Y.2.1 2) (60 * Y.1 4 + Y.2.1 1 (Y.1 4)) 42 (60 * M.1 4 + X.1 6) = 42
        rw [← m4, k2]; simp [xu]
      have j3 : (dN (rMa Y 42 (nI 0) 0 0) 6 0).2.1 3 (60 * M.1 4 + X.1 6) = 0 := by
        show xu (Y.2.1 3) (60 * Y.1 4 + Y.2.1 1 (Y.1 4)) 0 (60 * M.1 4 + X.1 6) = 0
        rw [← m4, k2]; simp [xu]
      refine ⟨48, by decide, by decide, ?_, j2, ?_, ?_, by rw [j3]; decide, ?_, fun z => absurd z (by decide), fun z => absurd z (by decide), fun _ z => absurd z (by decide), fun _ => c6.symm, fun _ => Or.inl rfl, fun z => absurd (show X.1 6 + 1 < Z.1 6 from z) (by omega)⟩
      · show Z.2.2.2.2.1 1 (X.1 6) = _
        rw [cr1]; simp [xu]
      · show Z.2.1 1 (X.1 6) = _
        rw [cb1, j3]; simp [xu]
      · show Z.2.1 2 (X.1 6) = _
        rw [e2, j3]; simp [xu]
      · show Z.2.1 1 (X.1 6) = _
        rw [cb1, k7, h7]; simp [xu]; decide
    · obtain ⟨w, q⟩ := k10 i (by omega)
      rw [m4] at q k2
      have ne : ¬ 60 * M.1 4 + i = 60 * Y.1 4 + Y.2.1 1 (Y.1 4) := by rw [m4]; omega
      refine ⟨w, rOp_of q rfl (by omega) c6 ?_ ?_ ?_ ?_ ?_ ?_ ?_⟩
      · show Z.2.2.2.2.1 1 i = _
        rw [cr1]; simp only [xu]; rw [if_neg c]
      · show Z.2.2.1 0 i = _
        rw [ca0]; simp only [xu]; rw [if_neg c]
      · show Z.2.1 1 i = _
        rw [cb1]; simp only [xu]; rw [if_neg c]
      · show Z.2.1 2 i = _
        rw [e2]; simp only [xu]; rw [if_neg c]
      · show xu (Y.2.1 2) (60 * Y.1 4 + Y.2.1 1 (Y.1 4)) 42 (60 * M.1 4 + i) = _
        simp only [xu]; rw [if_neg ne]
      · show xu (Y.2.1 3) (60 * Y.1 4 + Y.2.1 1 (Y.1 4)) 0 (60 * M.1 4 + i) = _
        simp only [xu]; rw [if_neg ne]
      · show xu (Y.2.2.1 0) (60 * Y.1 4 + Y.2.1 1 (Y.1 4)) (nI 0) (60 * M.1 4 + i) = _
        simp only [xu]; rw [if_neg ne]
def rE (C : xC) (M : xM) (C' : xC) (r : Nat) (M' : xM) : Prop := (r = 1 ∧ rEn C M C' M' ∧ M'.1 6 = 0) ∨ (r = 0 ∧ rhC C C' ∧ rhM M M' ∧ M'.1 1 = 2)
theorem sEND (hk : rKp C M h) (k8 : C.1 8 = M.1 8) (hb : M.1 1 = 0) (hDs : rDs C M H) (hN : rNm C M) (hl : C.2.2.2.2.2.2.1.length + 43 < 1048576) (hn : rNm1 C.2.2.2.1 (M.2.2.2 (M.1 4))) (hQ : ∀ r C' M', rE C M C' r M' → (∀ Q' : xM → Prop, Q' M' → rWe M Q') → Q r C') : w_C_act 48 C Q := by
  have hk0 := hk
  obtain ⟨k1, k2, k3, k4, k5, k6, k7, k9, k10, k11⟩ := hk
  unfold w_C_act
  refine ⟨by decide, by decide, by decide, fun q => absurd q (by decide), fun _ => ⟨fun q => absurd q (by decide), fun _ => ⟨fun q => absurd q (by decide), fun _ => ⟨fun q => absurd q (by decide), fun _ => ⟨fun q => absurd q (by decide), fun _ => ⟨fun q => absurd q (by decide), fun _ => ⟨fun q => absurd q (by decide), fun _ => ⟨fun q => absurd q (by decide), fun _ => ⟨fun q => absurd q (by decide), fun _ => ⟨fun q => absurd q (by decide), fun _ => ⟨fun q => absurd q (by decide), fun _ => ⟨fun _ => ⟨by omega, fun q0 => ?_, fun q0 => ?_⟩, fun q => absurd rfl q⟩⟩⟩⟩⟩⟩⟩⟩⟩⟩⟩⟩
  · have hwe : ∀ Q' : xM → Prop, w_R_compile_93 M Q' → rWe M Q' := fun Q' k => ⟨by omega, fun _ => k, fun z => absurd (by omega) z⟩
    have eX : rC0w 48 C = rCf C := if_pos (by decide)
    have eY : rM0w 48 M = rMf M := if_pos (by decide)
    refine raddC (w := 48) (by decide) k3 k5 (fun q => ⟨by decide, fun _ => ?_, fun z => absurd rfl z⟩) (fun hs ld st x e1 e2 e3 => ⟨fun _ => ?_, fun z => absurd z (by decide)⟩)
    · refine hQ 0 C (dN M 1 2) (Or.inr ⟨rfl, rhC.rf C, rhM_1 M 2, rfl⟩) (fun Q' hq => hwe Q' ?_)
      unfold w_R_compile_93
      exact raddM (w := 48) (by decide) (by decide) hb k1 (by omega) (by omega) (fun _ => ⟨(by decide : (2 : Nat) < 2147483648), fun z => absurd (show (2 : Nat) = 0 from z) (by decide), fun _ => hq⟩) (fun z => by omega)
    · rw [eX] at e1 e2 e3 ⊢
      have ec : (rCf C).1 7 = 0 ∧ (rCf C).1 6 = C.1 6 ∧ (rCf C).2.2.2 = C.2.2.2 ∧ (rCf C).1 4 = C.1 4 := by unfold rCf; split <;> exact ⟨rfl, rfl, rfl, rfl⟩
      have em : (rMf M).1 1 = M.1 1 ∧ (rMf M).2.2.2 = M.2.2.2 ∧ (rMf M).1 7 = 0 ∧ (rMf M).1 4 = M.1 4 := by unfold rMf; split <;> exact ⟨rfl, rfl, rfl, rfl⟩
      obtain ⟨c7, c6, cn, c4⟩ := ec
      obtain ⟨m1, mn, m7, m4⟩ := em
      have t0 : xwT 48 = 0 := by decide
      have l0 : xwL 48 = 0 := by decide
      have z1 : ld = 0 := by omega
      have z2 : st = 0 := by omega
      have z3 : x = 0 := by omega
      rw [z1, z2, z3]
      refine ⟨by decide, fun z => absurd z (by decide), fun _ => ?_⟩
      have en := sEnd1 hDs hN (rCf_h C) (rMf_h M) (rKp_fl hk0) c7 (by omega) (by rw [cn]; exact hl) (by rw [cn, mn]; exact hn) (m1.trans hb)
      refine sfinC (show (rCf C).1 6 + 1 ≤ 60 by omega) (fun j hj => ?_) (show (rCf C).1 4 < 40 by rw [c4, hDs.1]; exact k1) (show (rCf C).2.2.2.2.2.2.1.length + 43 < 1048576 by rw [cn]; exact hl) ⟨by decide, fun z => absurd z (by decide), fun _ => ?_⟩
      · have hj : j < (rCf C).1 6 + 1 := hj
        by_cases c : j = (rCf C).1 6
        · refine ⟨48, by decide, ?_⟩
          show xu ((rCf C).2.2.2.2.1 1) ((rCf C).1 6) _ j = _
          simp [xu, c]
        · obtain ⟨w, q⟩ := k10 j (by omega)
          refine ⟨w, by have := q.1; omega, ?_⟩
          show xu ((rCf C).2.2.2.2.1 1) ((rCf C).1 6) _ j = _
          simp only [xu]; rw [if_neg c, cn]; exact q.2.2.2.1
      · refine hQ 1 _ _ (Or.inl ⟨rfl, en, rfl⟩) (fun Q' hq => hwe Q' ?_)
        unfold w_R_compile_93
        refine raddM (w := 48) (by decide) (by decide) hb k1 (by omega) (by omega) (fun z => by omega) (fun _ x' y' st' f1 f2 f3 => ?_)
        rw [eY] at f1 f2 f3 ⊢
        rw [if_neg (by decide)] at f1
        have z1 : x' = 0 := by omega
        have z2 : y' = 0 := by omega
        rw [z1, z2]
        refine ⟨(show (rMf M).1 1 < 2147483648 by omega), fun _ => ?_, fun z => absurd (show (rMf M).1 1 = 0 by omega) z⟩
        have : (rMa (rMf M) (rcd 48) (nI 0) 0 0).1 4 = M.1 4 := m4
        rw [this]
        exact hq
  · have P : w_R_compile_93 (dN M 1 2) (fun M' => rhM M M' ∧ M'.1 1 = 2) := by
      unfold w_R_compile_93
      refine raddM2 (w := 48) (M := dN M 1 2) (by decide) (by decide) k1 (show M.2.1 1 (M.1 4) ≤ 60 by omega) (show M.1 7 ≤ 3 by omega) rfl (fun M' a1 a2 => ⟨by omega, fun z => by omega, fun _ => ⟨(rhM_1 M 2).tr a1, a2⟩⟩)
    obtain ⟨M', ⟨a1, a2⟩, a3⟩ := yd_R_compile_93 _ _ P
    exact hQ 0 C M' (Or.inr ⟨rfl, rhC.rf C, a1, a2⟩) (fun Q' hq => ⟨by omega, fun z => by omega, fun _ => rwr hb (a3 Q' hq)⟩)
/-- a variable or a constant -/
theorem sDN {k m : Int64} {v : Int32} (hDs : rDs C M H) (hN : rNm C M) (h40 : M.1 4 < 40) (hb : M.1 1 = 0) (hl : C.2.2.2.2.2.2.1.length + 43 < 1048576) (hn : rNm1 k m) (hQ : ∀ C' M', rEn C M C' M' → M'.1 6 = M.1 6 → (∀ Q' : xM → Prop, Q' M' → w_R_simple m v M Q') → Q 1 C') : w_C_defineNumber k v C Q := by
  have hX : ∃ X, cN (cN (cN (cL (cN C 5 1) k) 6 0) 7 0) 8 0 = X := ⟨_, rfl⟩
  obtain ⟨X, hX⟩ := hX
  have hY : ∃ Y, dN (dN (dB (dL M (M.1 4) m) 1 (M.1 4) 0) 7 0) 8 0 = Y := ⟨_, rfl⟩
  obtain ⟨Y, hY⟩ := hY
  have hc : rhC C X := by
    rw [← hX]
    exact ⟨fun i hi => by simp only [cN, cL, xu]; rw [if_neg (by omega), if_neg (by omega), if_neg (by omega), if_neg (by omega)], fun _ _ => rfl, fun _ _ => rfl, fun _ _ => rfl, rfl⟩
  have hm : rhM M Y := by
    rw [← hY]
    refine ⟨fun i _ _ a b => by simp only [dN, dB, dL, xu]; rw [if_neg b, if_neg a], fun j hj => by simp only [dN, dB, dL, xu2]; rw [if_neg (by omega)], fun d hd => ?_, fun j hj i hi => by simp only [dN, dB, dL, xu2]; rw [if_neg (by omega)], fun _ _ => rfl, fun _ _ => rfl, fun d hd => ?_⟩
    · show xu (M.2.1 1) (M.1 4) 0 d = _
      simp only [xu]; rw [if_neg (by omega)]
    · show xu M.2.2.2 (M.1 4) m d = _
      simp only [xu]; rw [if_neg (by omega)]
  have ec : X.1 6 = 0 ∧ X.1 7 = 0 ∧ X.2.2.2.1 = k ∧ X.1 4 = C.1 4 ∧ X.2.2.2.2 = C.2.2.2.2 := by rw [← hX]; exact ⟨rfl, rfl, rfl, rfl, rfl⟩
  have em : Y.1 4 = M.1 4 ∧ Y.1 7 = 0 ∧ Y.2.1 1 (M.1 4) = 0 ∧ Y.2.2.2 (M.1 4) = m ∧ Y.1 1 = M.1 1 ∧ Y.1 6 = M.1 6 := by
    rw [← hY]
    refine ⟨rfl, rfl, ?_, ?_, rfl, rfl⟩
    · show xu (M.2.1 1) (M.1 4) 0 (M.1 4) = 0
      simp [xu]
    · show xu M.2.2.2 (M.1 4) m (M.1 4) = m
      simp [xu]
  obtain ⟨c6, c7, cn, c4, cd⟩ := ec
  obtain ⟨m4, m7, ms, mn, m1, m6⟩ := em
  have eX : rC0w 37 X = X := if_neg (by decide)
  have eY : rM0w 37 Y = Y := if_neg (by decide)
  unfold w_C_defineNumber w_C_begin
  rw [hX]
  refine raddC (w := 37) (by decide) (by omega) (by omega) (fun q => by omega) (fun hs ld st x e1 e2 e3 => ⟨fun _ => ?_, fun z => absurd z (by decide)⟩)
  rw [eX] at e1 e2 e3 ⊢
  have t0 : xwT 37 = 0 := by decide
  have l0 : xwL 37 = 1 := by decide
  have z1 : ld = 0 := by omega
  have z2 : st = 0 := by omega
  have z3 : x = 1 := by omega
  rw [z1, z2, z3]
  refine ⟨by decide, fun z => absurd z (by decide), fun _ => ?_⟩
  -- both sides, flushed
  have eZ : rCf (rCa X 37 v 0 0 1) = cN (cB (rCa X 37 v 0 0 1) 2 (X.1 6) (xu (X.2.1 2) (X.1 6) 0 (X.1 6) + 1)) 7 0 := by
    unfold rCf
    rw [if_neg (show ¬ (rCa X 37 v 0 0 1).1 6 = 0 from Nat.succ_ne_zero _)]
    rfl
  have es : (rMa Y 40 v 1 0).2.1 1 ((rMa Y 40 v 1 0).1 4) = 1 := by
    show xu (Y.2.1 1) (Y.1 4) (Y.2.1 1 (Y.1 4) + 1) (Y.1 4) = 1
    rw [m4, ms]; simp [xu]
  have eW : rMf (rMa Y 40 v 1 0) = dN (dB (rMa Y 40 v 1 0) 3 (60 * M.1 4) (xu (Y.2.1 3) (60 * M.1 4) 0 (60 * M.1 4) + 1)) 7 0 := by
    unfold rMf
    rw [if_neg (by rw [es]; decide), es]
    show dN (dB (rMa Y 40 v 1 0) 3 (60 * Y.1 4 + 1 - 1) (xu (Y.2.1 3) (60 * Y.1 4 + Y.2.1 1 (Y.1 4)) 0 (60 * Y.1 4 + 1 - 1) + 1)) 7 0 = _
    rw [m4, ms]
    rfl
  have f6 : (rCf (rCa X 37 v 0 0 1)).1 6 = 1 := by rw [eZ]; show X.1 6 + 1 = 1; omega
  have fb2 : (rCf (rCa X 37 v 0 0 1)).2.1 2 0 = 1 := by
    rw [eZ]
    show xu (xu (X.2.1 2) (X.1 6) 0) (X.1 6) (xu (X.2.1 2) (X.1 6) 0 (X.1 6) + 1) 0 = 1
    rw [c6]; simp [xu]
  have fb1 : (rCf (rCa X 37 v 0 0 1)).2.1 1 0 = 0 := by
    rw [eZ]
    show xu (X.2.1 1) (X.1 6) 0 0 = 0
    rw [c6]; simp [xu]
  have fa0 : (rCf (rCa X 37 v 0 0 1)).2.2.1 0 0 = v := by
    rw [eZ]
    show xu (X.2.2.1 0) (X.1 6) v 0 = v
    rw [c6]; simp [xu]
  have fr1 : (rCf (rCa X 37 v 0 0 1)).2.2.2.2.1 1 0 = some (1048576 + 37) := by
    rw [eZ]
    show xu (X.2.2.2.2.1 1) (X.1 6) (some (1048576 + 37)) 0 = _
    rw [c6]; simp [xu]
  have fn : (rCf (rCa X 37 v 0 0 1)).2.2.2.1 = k ∧ (rCf (rCa X 37 v 0 0 1)).2.2.2.2.2.2.1 = C.2.2.2.2.2.2.1 := by rw [eZ]; exact ⟨cn, by rw [← cd]; rfl⟩
  have fh : rhC C (rCf (rCa X 37 v 0 0 1)) := hc.tr ((rCa_h _ _ _ _ _ _).tr (rCf_h _))
  have g1 : (rMf (rMa Y 40 v 1 0)).2.1 1 (M.1 4) = 1 := by
    rw [eW]
    show xu (Y.2.1 1) (Y.1 4) (Y.2.1 1 (Y.1 4) + 1) (M.1 4) = 1
    rw [m4, ms]; simp [xu]
  have g2 : (rMf (rMa Y 40 v 1 0)).2.1 2 (60 * M.1 4 + 0) = 40 := by
    rw [eW]
    show xu (Y.2.1 2) (60 * Y.1 4 + Y.2.1 1 (Y.1 4)) 40 (60 * M.1 4 + 0) = 40
    rw [m4, ms]; simp [xu]
  have g3 : (rMf (rMa Y 40 v 1 0)).2.1 3 (60 * M.1 4 + 0) = 1 := by
    rw [eW]
    show xu (xu (Y.2.1 3) (60 * Y.1 4 + Y.2.1 1 (Y.1 4)) 0) (60 * M.1 4) (xu (Y.2.1 3) (60 * M.1 4) 0 (60 * M.1 4) + 1) (60 * M.1 4 + 0) = 1
    simp [xu]
  have g0 : (rMf (rMa Y 40 v 1 0)).2.2.1 0 (60 * M.1 4 + 0) = v := by
    rw [eW]
    show xu (Y.2.2.1 0) (60 * Y.1 4 + Y.2.1 1 (Y.1 4)) v (60 * M.1 4 + 0) = v
    rw [m4, ms]; simp [xu]
  have gn : (rMf (rMa Y 40 v 1 0)).2.2.2 (M.1 4) = m ∧ (rMf (rMa Y 40 v 1 0)).1 1 = 0 ∧ (rMf (rMa Y 40 v 1 0)).1 4 = M.1 4 ∧ (rMf (rMa Y 40 v 1 0)).1 6 = M.1 6 := by
    rw [eW]; exact ⟨mn, m1.trans hb, m4, m6⟩
  have gh : rhM M (rMf (rMa Y 40 v 1 0)) := hm.tr ((rMa_h _ _ _ _ _).tr (rMf_h _))
  refine sfinC (show X.1 6 + 1 ≤ 60 by omega) (fun j hj => ?_) (show X.1 4 < 40 by rw [c4, hDs.1]; exact h40) (show X.2.2.2.2.2.2.1.length + 43 < 1048576 by rw [cd]; exact hl) ⟨by decide, fun z => absurd z (by decide), fun _ => ?_⟩
  · have hj : j < X.1 6 + 1 := hj
    refine ⟨37, by decide, ?_⟩
    show xu (X.2.2.2.2.1 1) (X.1 6) _ j = _
    simp only [xu]; rw [if_pos (by omega)]
  · refine hQ _ (dN (rMf (rMa Y 40 v 1 0)) 4 (M.1 4 + 1)) (rEn_mk (h := fun _ => 0) hDs hN fh gh h40 (by rw [fn.2]; exact hl) (rDef_new (by rw [f6, g1]) (by omega) (by omega) rfl (fun i hi => ?_)) (by rw [fn.1, gn.1]; exact hn) gn.2.1) gn.2.2.2 (fun Q' hq => ?_)
    · have hi0 : i = 0 := by omega
      subst hi0
      exact ⟨37, by decide, by decide, fr1, g2, by rw [g3]; exact fb1, by rw [g3]; exact fb2, by rw [g3]; decide, fb1, fun _ => by rw [g0]; exact fa0, fun z => absurd z (by decide), fun z => absurd z (by decide), fun z => absurd z (by decide), fun _ => Or.inr ⟨rfl, f6⟩, fun z => absurd (show 0 + 1 < (rCf (rCa X 37 v 0 0 1)).1 6 from z) (by omega)⟩
    · unfold w_R_simple w_R_begin
      refine ⟨by omega, by omega, ?_⟩
      rw [hY]
      refine raddM (w := 37) (by decide) (by decide) (m1.trans hb) (by omega) (by rw [m4, ms]; decide) (by omega) (fun z => by rw [m4, ms] at z; omega) (fun _ x' y' st' f1 f2 f3 => ?_)
      rw [eY] at f1 f2 f3 ⊢
      rw [if_neg (by decide)] at f1
      have z1 : x' = 1 := by omega
      have z2 : y' = 0 := by omega
      rw [z1, z2]
      refine rflM (show Y.1 4 < 40 by omega) (by rw [show rcd 37 = 40 from rfl, es]; decide) ?_
      show Q' (dN (rMf (rMa Y 40 v 1 0)) 4 ((rMf (rMa Y 40 v 1 0)).1 4 + 1))
      rw [gn.2.2.1]
      exact hq
end SF
