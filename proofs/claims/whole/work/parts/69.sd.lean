/-! WHILE, ELSE, THEN, REPEAT -/
section SD
variable {C : xC} {M : xM} {h : Nat → Nat} {Q : Nat → xC → Prop}
theorem snot {x : Nat} (k8 : C.1 8 = M.1 8) (hx : x = 38 ∨ x = 42 ∨ x = 51 ∨ x = 40 ∨ x = 41) (z : C.1 8 = 0 ∨ (1 ≤ C.1 8 ∧ ∃ w, rOe C M h (C.1 8 - 1) w ∧ w ≠ x)) : M.1 8 = 0 ∨ M.2.1 4 (M.1 8 - 1) ≠ rkd x := by
  rcases z with z | ⟨z1, w', p, z2⟩
  · exact Or.inl (by omega)
  · refine Or.inr fun e => z2 ?_
    rw [← k8, p.2.2.1] at e
    exact rkd_inj p.1 hx e
/-- the open word is known by its row -/
theorem rOe.word {k w x : Nat} (p : rOe C M h k w) (e : C.2.2.2.2.1 2 k = some (1048576 + x)) : rOe C M h k x := by
  have e2 := p.2.1
  rw [e] at e2
  have : x = w := by simpa using e2
  rw [this]; exact p
theorem sWHILE (hk : rKp C M h) (k8 : C.1 8 = M.1 8) (hb : M.1 1 = 0) (hQ : ∀ r C' M', rU C M C' r M' → (∀ Q' : xM → Prop, Q' M' → w_R_loops 62 M Q') → Q r C') : w_C_act 40 C Q := by
  have k1 := hk.1
  have k2 := hk.2.1
  obtain ⟨e8, ek⟩ := skd hk k8
  unfold w_C_act
  refine ⟨by decide, by decide, by decide, fun q => absurd q (by decide), fun _ => ⟨fun q => absurd q (by decide), fun _ => ⟨fun q => absurd q (by decide), fun _ => ⟨fun q => absurd q (by decide), fun _ => ⟨fun q => absurd q (by decide), fun _ => ⟨fun q => absurd q (by decide), fun _ => ⟨fun _ => ?_, fun q => absurd rfl q⟩⟩⟩⟩⟩⟩⟩
  refine slast (x := 51) (A := fun C68 => w_C_add 40 (nI 0) C68 (fun r73 C72 => (r73 < 2147483648 ∧ ((r73 = 0 → Q 0 C72) ∧ (¬ (r73 = 0) → (1 ≤ C72.1 6 ∧ w_C_open 40 (C72.1 6 - 1) C72 (fun r78 C77 => (r78 < 2147483648 ∧ ((r78 = 0 → Q 0 C77) ∧ (¬ (r78 = 0) → Q 1 C77)))))))))) (B := fun C1 => Q 0 C1) hk (by decide) (fun q1 p => ?_) (fun z => ?_)
  · have p2 := p.2.1
    have p3 := p.2.2.1
    have hm : ∀ Q' : xM → Prop, w_R_add 45 (nI 0) M (fun M3007 => (M3007.1 1 < 2147483648 ∧ ((M3007.1 1 = 0 → w_R_put 4 (M.2.1 1 (M.1 4)) M3007 (fun M3010 => Q' M3010)) ∧ (¬ (M3007.1 1 = 0) → Q' M3007)))) → w_R_loops 62 M Q' := fun Q' k => by
      unfold w_R_loops w_R_loops_74 w_R_loops_119
      exact ⟨by omega, by decide, fun q => absurd q (by decide), fun _ => ⟨by decide, fun q => absurd q (by decide), fun _ => ⟨by decide, fun q => absurd q (by decide), fun _ => ⟨by decide, fun _ => scl1 (by omega) e8 (by decide) (by decide) (ek (by omega)) (Or.inl (by rw [← k8]; exact p3)) ⟨by decide, fun q => absurd q (by decide), fun _ => k⟩, fun q => absurd rfl q⟩⟩⟩⟩
    refine rad (w := 40) (v := nI 0) hk hb (by decide) (by decide) (by decide) ⟨fun q => absurd q (by decide), fun q => absurd q (by decide), fun _ _ _ => ⟨0, Nat.zero_le _, hk.2.2.2.2.2.1, rfl, rfl⟩⟩ (fun q hr => ⟨by decide, fun _ => hQ 0 C (dN M 1 2) (Or.inr ⟨rfl, rhC.rf C, rhM_1 M 2, rfl⟩) (fun Q' hq => hm Q' (hr _ ⟨by show (2 : Nat) < 2147483648; decide, fun z => absurd (show (2 : Nat) = 0 from z) (by decide), fun _ => hq⟩)), fun z => absurd rfl z⟩) (fun C' M' h' ha hr => ⟨by decide, fun z => absurd z (by decide), fun _ => ?_⟩)
    obtain ⟨a1, a2, a3, a4, a5, a6, a7, a8, a9, a10, a11, a12, a13, a14, a15, a16, a17, a18⟩ := id ha
    have e : C'.1 6 - 1 = M.2.1 1 (M.1 4) := by omega
    refine ⟨by omega, sopn (w := 40) a1 (by omega) a6 (by decide) (by omega) (fun _ => ⟨by omega, by rw [a9, Nat.add_sub_cancel]; exact a17.1⟩) (fun q => by omega) (fun _ => ⟨by omega, by rw [a12, a10]; exact p2⟩) (fun q hp => ⟨by decide, fun _ => hQ 0 C' (dN M' 1 2) (Or.inr ⟨rfl, a2, a3.tr (rhM_1 M' 2), rfl⟩) (fun Q' hq => hm Q' (hr _ ⟨by omega, fun _ => ?_, fun z => absurd a6 z⟩)), fun z => absurd rfl z⟩) (fun q hk' hp => ⟨by decide, fun z => absurd z (by decide), fun _ => hQ 1 _ _ (Or.inl ⟨rfl, ha.ak.tr ⟨rhC_o _ _ _ _ _, rhM_o _ _ _ _ _, rfl, rfl, rfl, rfl⟩, ⟨h', hk'⟩, (show C'.1 8 + 1 = M'.1 8 + 1 by omega), a6⟩) (fun Q' hq => hm Q' (hr _ ⟨by omega, fun _ => ?_, fun z => absurd a6 z⟩))⟩)⟩
    · have := hp Q' hq; rw [e] at this; exact this
    · have := hp Q' hq; rw [e] at this; exact this
  · refine hQ 0 C (dN M 1 2) (Or.inr ⟨rfl, rhC.rf C, rhM_1 M 2, rfl⟩) (fun Q' hq => ?_)
    unfold w_R_loops w_R_loops_74 w_R_loops_119
    refine ⟨by omega, by decide, fun q => absurd q (by decide), fun _ => ⟨by decide, fun q => absurd q (by decide), fun _ => ⟨by decide, fun q => absurd q (by decide), fun _ => ⟨by decide, fun _ => scl0 hb e8 (by decide) (by decide) ek (sor (snot k8 (by decide) z)) ⟨by decide, fun _ => ?_, fun q => absurd rfl q⟩, fun q => absurd rfl q⟩⟩⟩⟩
    unfold w_R_loops_157 w_R_loops_224
    exact ⟨by decide, fun q => absurd q (by decide), fun _ => ⟨by decide, fun q => absurd q (by decide), fun _ => ⟨by decide, fun q => absurd q (by decide), fun _ => hq⟩⟩⟩
theorem rhC_a (C : xC) (p : Nat) (x : Int32) : rhC C (cA C 0 p x) := ⟨fun _ _ => rfl, fun _ _ => rfl, fun k hk => by simp only [cA, xu2]; rw [if_neg hk], fun _ _ => rfl, rfl⟩
theorem rhM_a (M : xM) (p : Nat) (x : Int32) : rhM M (dA M 0 (60 * M.1 4 + p) x) := ⟨fun _ _ _ _ _ => rfl, fun _ _ => rfl, fun _ _ => rfl, fun _ _ _ _ => rfl, fun k hk => by simp only [dA, xu2]; rw [if_neg hk], fun j hj => by
  show xu (M.2.2.1 0) (60 * M.1 4 + p) x j = _
  simp only [xu]; rw [if_neg (by omega)], fun _ _ => rfl⟩
theorem rhM_45 (M : xM) (k a l p : Nat) : rhM M (dB (dB M 4 k a) 5 l p) := ⟨fun _ _ _ _ _ => rfl, fun j hj => by simp only [dB, xu2]; rw [if_neg (by omega), if_neg (by omega)], fun _ _ => rfl, fun j hj i _ => by simp only [dB, xu2]; rw [if_neg (by omega), if_neg (by omega)], fun _ _ => rfl, fun _ _ => rfl, fun _ _ => rfl⟩
theorem sdn8 {M : xM} {k a p : Nat} (hk : 1 ≤ M.1 8) (h : k = M.1 8 - 1) : dN (dB (dB (dN M 8 (M.1 8 - 1)) 4 (M.1 8 - 1) a) 5 (M.1 8 - 1) p) 8 (M.1 8 - 1 + 1) = dB (dB M 4 k a) 5 k p := by
  subst h
  simp only [dN, dB]
  congr 1
  funext j
  simp only [xu]
  by_cases c : j = 8
  · subst c; simp; omega
  · simp [c]
theorem sELSE (hk : rKp C M h) (k8 : C.1 8 = M.1 8) (hb : M.1 1 = 0) (hQ : ∀ r C' M', rU C M C' r M' → (∀ Q' : xM → Prop, Q' M' → w_R_conditions 57 M Q') → Q r C') : w_C_act 42 C Q := by
  have k1 := hk.1
  have k2 := hk.2.1
  obtain ⟨e8, ek⟩ := skd hk k8
  unfold w_C_act
  refine ⟨by decide, by decide, by decide, fun q => absurd q (by decide), fun _ => ⟨fun _ => ?_, fun q => absurd rfl q⟩⟩
  refine slast (x := 38) (A := fun C15 => w_C_add 42 (nI 0) C15 (fun r20 C19 => (r20 < 2147483648 ∧ ((r20 = 0 → Q 0 C19) ∧ (¬ (r20 = 0) → w_C_turnIfToElse C19 (fun r24 C23 => (r24 < 2147483648 ∧ ((r24 = 0 → Q 0 C23) ∧ (¬ (r24 = 0) → Q 1 C23))))))))) (B := fun C1 => Q 0 C1) hk (by decide) (fun q1 p => ?_) (fun z => ?_)
  · have p2 := p.2.1
    have p3 := p.2.2.1
    have hm : ∀ Q' : xM → Prop, w_R_add 46 (nI 0) M (fun M10 => (M10.1 1 < 2147483648 ∧ ((M10.1 1 = 0 → (1 ≤ M10.1 8 ∧ (M10.1 8 - 1 < 8 ∧ w_R_aim (M10.2.1 5 (M10.1 8 - 1)) M10 (fun M15 => w_R_conditions_83 (M.2.1 1 (M.1 4)) M15 Q')))) ∧ (¬ (M10.1 1 = 0) → w_R_conditions_83 (M.2.1 1 (M.1 4)) M10 Q')))) → w_R_conditions 57 M Q' := fun Q' k => by
      unfold w_R_conditions
      exact ⟨by omega, by decide, fun q => absurd q (by decide), fun _ => ⟨by decide, fun _ => scl1 (by omega) e8 (by decide) (by decide) (ek (by omega)) (Or.inl (by rw [← k8]; exact p3)) ⟨by decide, fun q => absurd q (by decide), fun _ => k⟩, fun q => absurd rfl q⟩⟩
    have hm83 : ∀ (X : xM) (Q' : xM → Prop) (n : Nat), 1 ≤ X.1 8 → X.1 8 ≤ 8 → Q' (dB (dB X 4 (X.1 8 - 1) 2) 5 (X.1 8 - 1) n) → w_R_conditions_83 n X Q' := fun X Q' n x1 x2 k => by
      unfold w_R_conditions_83
      exact ⟨x1, by omega, x1, by omega, k⟩
    refine rad (w := 42) (v := nI 0) hk hb (by decide) (by decide) (by decide) ⟨fun q => absurd q (by decide), fun q => absurd q (by decide), fun _ _ _ => ⟨0, Nat.zero_le _, hk.2.2.2.2.2.1, rfl, rfl⟩⟩ (fun q hr => ⟨by decide, fun _ => hQ 0 C (dB (dB (dN M 1 2) 4 (M.1 8 - 1) 2) 5 (M.1 8 - 1) (M.2.1 1 (M.1 4))) (Or.inr ⟨rfl, rhC.rf C, (rhM_1 M 2).tr (rhM_45 _ _ _ _ _), rfl⟩) (fun Q' hq => hm Q' (hr _ ⟨by show (2 : Nat) < 2147483648; decide, fun z => absurd (show (2 : Nat) = 0 from z) (by decide), fun _ => hm83 _ _ _ (show 1 ≤ M.1 8 by omega) e8 hq⟩)), fun z => absurd rfl z⟩) (fun C' M' h' ha hr => ⟨by decide, fun z => absurd z (by decide), fun _ => ?_⟩)
    have hak := ha.ak
    obtain ⟨a1, a2, a3, a4, a5, a6, a7, a8, a9, a10, a11, a12, a13, a14, a15, a16, a17, a18⟩ := ha
    have m4 : M'.1 4 = M.1 4 := a3.1 4 (by decide) (by decide) (by decide) (by decide)
    have h7 : C'.1 7 = 0 := a18 (by decide)
    obtain ⟨w', po⟩ := a1.2.2.2.2.2.2.2.2.2 (C'.1 8 - 1) (by omega)
    have po := po.word (x := 38) (by rw [a12, a10]; exact p2)
    obtain ⟨o1, o2, o3, o4, o5, o6, o7, o8⟩ := po
    obtain ⟨o6, o6b⟩ := o6 (Or.inl rfl)
    have c60 := a1.2.2.1
    have hp := rKp_aim (w := 38) (rKp_pop a1 (show 1 ≤ C'.1 8 by omega)) o6 (Or.inl rfl) o6b h7
    unfold w_C_turnIfToElse w_C_closeLast
    refine ⟨by omega, by omega, by omega, (show 1 ≤ C'.1 6 by omega), ?_⟩
    have e : C'.1 6 - 1 = M.2.1 1 (M.1 4) := by omega
    have e5 : C'.2.1 3 (C'.1 8 - 1) = M'.2.1 5 (M'.1 8 - 1) := by rw [o4]; exact congrArg _ (by omega)
    refine sopn (M := dN (dA M' 0 (60 * M'.1 4 + C'.2.1 3 (C'.1 8 - 1)) (nI (M'.2.1 1 (M'.1 4)))) 8 (M'.1 8 - 1)) (w := 42) hp (show C'.1 8 - 1 = M'.1 8 - 1 by omega) a6 (by decide) (show C'.1 6 - 1 ≤ C'.1 6 by omega) (fun _ => ⟨(show C'.1 6 - 1 < C'.1 6 by omega), by
      show C'.2.2.2.2.1 1 (C'.1 6 - 1) = _
      rw [a9, Nat.add_sub_cancel]; exact a17.1⟩) (fun q => by omega) (fun q => absurd q (by decide)) (fun q hp => absurd (show C'.1 8 - 1 = 8 from q) (by omega)) (fun q hk' hp => ⟨by decide, by decide, fun z => absurd z (by decide), fun _ => hQ 1 _ _ (Or.inl ⟨rfl, hak.tr ⟨(rhC_8 _ _).tr ((rhC_a _ _ _).tr (rhC_o _ _ _ _ _)), (rhM_a _ _ _).tr ((rhM_8 _ _).tr (rhM_o _ _ _ _ _)), rfl, rfl, rfl, rfl⟩, ⟨h', hk'⟩, (show C'.1 8 - 1 + 1 = M'.1 8 - 1 + 1 by omega), a6⟩) (fun Q' hq => hm Q' (hr _ ⟨by omega, fun _ => ⟨by omega, by omega, ?_⟩, fun z => absurd a6 z⟩))⟩)
    unfold w_R_aim
    refine ⟨by omega, by rw [← e5]; omega, hm83 _ _ _ (show 1 ≤ M'.1 8 by omega) (show M'.1 8 ≤ 8 by omega) ?_⟩
    have hd := sdn8 (M := dA M' 0 (60 * M'.1 4 + C'.2.1 3 (C'.1 8 - 1)) (nI (M'.2.1 1 (M'.1 4)))) (k := M'.1 8 - 1) (a := 2) (p := C'.1 6 - 1) (show 1 ≤ M'.1 8 by omega) rfl
    have hq2 : Q' (dN (dB (dB (dN (dA M' 0 (60 * M'.1 4 + C'.2.1 3 (C'.1 8 - 1)) (nI (M'.2.1 1 (M'.1 4)))) 8 (M'.1 8 - 1)) 4 (M'.1 8 - 1) 2) 5 (M'.1 8 - 1) (C'.1 6 - 1)) 8 (M'.1 8 - 1 + 1)) := hq
    have hd2 : dN (dB (dB (dN (dA M' 0 (60 * M'.1 4 + C'.2.1 3 (C'.1 8 - 1)) (nI (M'.2.1 1 (M'.1 4)))) 8 (M'.1 8 - 1)) 4 (M'.1 8 - 1) 2) 5 (M'.1 8 - 1) (C'.1 6 - 1)) 8 (M'.1 8 - 1 + 1) = _ := hd
    rw [hd2, e, e5] at hq2
    exact hq2
  · refine hQ 0 C (dN M 1 2) (Or.inr ⟨rfl, rhC.rf C, rhM_1 M 2, rfl⟩) (fun Q' hq => ?_)
    unfold w_R_conditions
    refine ⟨by omega, by decide, fun q => absurd q (by decide), fun _ => ⟨by decide, fun _ => scl0 hb e8 (by decide) (by decide) ek (sor (snot k8 (by decide) z)) ⟨by decide, fun _ => ?_, fun q => absurd rfl q⟩, fun q => absurd rfl q⟩⟩
    unfold w_R_conditions_110
    exact ⟨by decide, fun q => absurd q (by decide), fun _ => hq⟩
theorem sTHEN (hk : rKp C M h) (k8 : C.1 8 = M.1 8) (hb : M.1 1 = 0) (hQ : ∀ r C' M', rU C M C' r M' → (∀ Q' : xM → Prop, Q' M' → w_R_conditions 58 M Q') → Q r C') : w_C_act 50 C Q := by
  have k1 := hk.1
  have k2 := hk.2.1
  have k3 := hk.2.2.1
  obtain ⟨e8, ek⟩ := skd hk k8
  -- both ways end so
  have hend : ∀ w, (w = 38 ∨ w = 42) → 1 ≤ C.1 8 → rOe C M h (C.1 8 - 1) w → w_C_endCondition C (fun r33 C32 => (r33 < 2147483648 ∧ ((r33 = 0 → Q 0 C32) ∧ (¬ (r33 = 0) → Q 1 C32)))) := fun w hw q1 p => by
    have p3 := p.2.2.1
    have hk' := rKp_fl hk
    have ec : (rCf C).1 6 = C.1 6 ∧ (rCf C).1 8 = C.1 8 ∧ (rCf C).1 5 = C.1 5 ∧ (rCf C).2.2.2.1 = C.2.2.2.1 ∧ (rCf C).1 7 = 0 := by unfold rCf; split <;> exact ⟨rfl, rfl, rfl, rfl, rfl⟩
    have ec2 : (rCf C).2.2.2.2.1 2 = C.2.2.2.2.1 2 := by unfold rCf; split <;> rfl
    have em : (rMf M).1 1 = M.1 1 ∧ (rMf M).1 8 = M.1 8 ∧ (rMf M).1 6 = M.1 6 ∧ (rMf M).2.2.2 = M.2.2.2 ∧ (rMf M).1 4 = M.1 4 := by unfold rMf; split <;> exact ⟨rfl, rfl, rfl, rfl, rfl⟩
    have ch := rCf_h C
    have mh := rMf_h M
    have hX : ∃ X, rCf C = X := ⟨_, rfl⟩
    obtain ⟨X, hX⟩ := hX
    have hY : ∃ Y, rMf M = Y := ⟨_, rfl⟩
    obtain ⟨Y, hY⟩ := hY
    rw [hX, hY] at hk'
    rw [hX] at ec ch ec2
    rw [hY] at em mh
    obtain ⟨c6, c8, c5, cn, c7⟩ := ec
    obtain ⟨m1, m8, m6, mn, m4⟩ := em
    obtain ⟨w', po⟩ := hk'.2.2.2.2.2.2.2.2.2 (X.1 8 - 1) (by omega)
    have po := po.word (x := w) (by rw [ec2, c8]; exact p.2.1)
    obtain ⟨o1, o2, o3, o4, o5, o6, o7, o8⟩ := po
    obtain ⟨o6, o6b⟩ := o6 (by omega)
    have c60 := hk'.2.2.1
    have hp := rKp_aim (w := w) (rKp_pop hk' (show 1 ≤ X.1 8 by omega)) o6 (by omega) o6b c7
    have e5 : X.2.1 3 (X.1 8 - 1) = Y.2.1 5 (Y.1 8 - 1) := by rw [o4]; exact congrArg _ (by omega)
    unfold w_C_endCondition
    refine rflC k3 ?_
    rw [hX]
    unfold w_C_closeLast
    refine ⟨by omega, by omega, by omega, by decide, fun z => absurd z (by decide), fun _ => ?_⟩
    refine hQ 1 _ (dN (dA Y 0 (60 * Y.1 4 + X.2.1 3 (X.1 8 - 1)) (nI (Y.2.1 1 (Y.1 4)))) 8 (Y.1 8 - 1)) (Or.inl ⟨rfl, ⟨ch.tr ((rhC_8 _ _).tr (rhC_a _ _ _)), mh.tr ((rhM_a _ _ _).tr (rhM_8 _ _)), c5, cn, m6, mn⟩, ⟨_, hp⟩, (show X.1 8 - 1 = Y.1 8 - 1 by omega), m1.trans hb⟩) (fun Q' hq => ?_)
    unfold w_R_conditions w_R_conditions_110
    refine ⟨by omega, by decide, fun q => absurd q (by decide), fun _ => ⟨by decide, fun q => absurd q (by decide), fun _ => ⟨by decide, fun _ => scl1 (by omega) e8 (by decide) (by decide) (ek (by omega)) (by rw [← k8, p3]; rcases hw with hw | hw <;> subst hw <;> decide) ⟨by decide, fun q => absurd q (by decide), fun _ => rflM k1 (by omega) ?_⟩, fun q => absurd rfl q⟩⟩⟩
    rw [hY]
    refine ⟨by omega, by omega, ?_⟩
    unfold w_R_aim
    refine ⟨by omega, by rw [← e5]; omega, (show 1 ≤ Y.1 8 by omega), ?_⟩
    rw [← e5]
    exact hq
  unfold w_C_act
  refine ⟨by decide, by decide, by decide, fun q => absurd q (by decide), fun _ => ⟨fun q => absurd q (by decide), fun _ => ⟨fun _ => ?_, fun q => absurd rfl q⟩⟩⟩
  refine slast (x := 38) (A := fun C28 => w_C_endCondition C28 (fun r33 C32 => (r33 < 2147483648 ∧ ((r33 = 0 → Q 0 C32) ∧ (¬ (r33 = 0) → Q 1 C32))))) (B := fun C28 => w_C_lastOpen C28 (fun r37 C36 => ((∀ a, r37 = some a → 1048576 ≤ a ∧ a < 1048637) ∧ ((r37 = some (1048576 + 42) → w_C_endCondition C36 (fun r41 C40 => (r41 < 2147483648 ∧ ((r41 = 0 → Q 0 C40) ∧ (¬ (r41 = 0) → Q 1 C40))))) ∧ (¬ (r37 = some (1048576 + 42)) → Q 0 C36))))) hk (by decide) (fun q1 p => hend 38 (Or.inl rfl) q1 p) (fun z => ?_)
  refine slast (x := 42) (A := fun C36 => w_C_endCondition C36 (fun r41 C40 => (r41 < 2147483648 ∧ ((r41 = 0 → Q 0 C40) ∧ (¬ (r41 = 0) → Q 1 C40))))) (B := fun C1 => Q 0 C1) hk (by decide) (fun q1 p => hend 42 (Or.inr rfl) q1 p) (fun z2 => ?_)
  refine hQ 0 C (dN M 1 2) (Or.inr ⟨rfl, rhC.rf C, rhM_1 M 2, rfl⟩) (fun Q' hq => ?_)
  have n1 := snot k8 (by decide) z
  have n2 := snot k8 (by decide) z2
  have n3 : M.1 8 = 0 ∨ (M.2.1 4 (M.1 8 - 1) ≠ 1 ∧ M.2.1 4 (M.1 8 - 1) ≠ 2) := by
    rcases n1 with n1 | n1
    · exact Or.inl n1
    · rcases n2 with n2 | n2
      · exact Or.inl n2
      · exact Or.inr ⟨n1, n2⟩
  unfold w_R_conditions w_R_conditions_110
  exact ⟨by omega, by decide, fun q => absurd q (by decide), fun _ => ⟨by decide, fun q => absurd q (by decide), fun _ => ⟨by decide, fun _ => scl0 hb e8 (by decide) (by decide) ek n3 ⟨by decide, fun _ => hq, fun q => absurd rfl q⟩, fun q => absurd rfl q⟩⟩⟩
theorem sREPEAT (hk : rKp C M h) (k8 : C.1 8 = M.1 8) (hb : M.1 1 = 0) (hQ : ∀ r C' M', rU C M C' r M' → (∀ Q' : xM → Prop, Q' M' → w_R_loops 63 M Q') → Q r C') : w_C_act 44 C Q := by
  have k1 := hk.1
  have k2 := hk.2.1
  obtain ⟨e8, ek⟩ := skd hk k8
  unfold w_C_act
  refine ⟨by decide, by decide, by decide, fun q => absurd q (by decide), fun _ => ⟨fun q => absurd q (by decide), fun _ => ⟨fun q => absurd q (by decide), fun _ => ⟨fun q => absurd q (by decide), fun _ => ⟨fun q => absurd q (by decide), fun _ => ⟨fun q => absurd q (by decide), fun _ => ⟨fun q => absurd q (by decide), fun _ => ⟨fun _ => ?_, fun q => absurd rfl q⟩⟩⟩⟩⟩⟩⟩⟩
  refine slast (x := 40) (A := fun C82 => w_C_endWhile C82 (fun r87 C86 => (r87 < 2147483648 ∧ ((r87 = 0 → Q 0 C86) ∧ (¬ (r87 = 0) → Q 1 C86))))) (B := fun C1 => Q 0 C1) hk (by decide) (fun q1 p => ?_) (fun z => ?_)
  · obtain ⟨p1, p2, p3, p4, p5, p6, p7, p8⟩ := p
    obtain ⟨p6, p6b⟩ := p6 (by decide)
    obtain ⟨p8, p8b⟩ := p8 rfl
    obtain ⟨w', po⟩ := hk.2.2.2.2.2.2.2.2.2 (C.1 8 - 1 - 1) (by omega)
    have po := po.word (x := 51) p8b
    obtain ⟨o1, o2, o3, o4, o5, o6, o7, o8⟩ := po
    have o7 := o7 (Or.inl rfl)
    have k60 := hk.2.2.1
    have e2 : C.2.1 3 (C.1 8 - 1 - 1) = M.2.1 5 (M.1 8 - 2) := by rw [o4]; exact congrArg _ (by omega)
    have hm : ∀ Q' : xM → Prop, w_R_add 46 (nI (M.2.1 5 (M.1 8 - 2))) M (fun M4009 => (M4009.1 1 < 2147483648 ∧ ((M4009.1 1 = 0 → (1 ≤ M4009.1 8 ∧ (M4009.1 8 - 1 < 8 ∧ w_R_aim (M4009.2.1 5 (M4009.1 8 - 1)) M4009 (fun M4015 => (2 ≤ M4015.1 8 ∧ Q' (dN M4015 8 (M4015.1 8 - 2))))))) ∧ (¬ (M4009.1 1 = 0) → (2 ≤ M4009.1 8 ∧ Q' (dN M4009 8 (M4009.1 8 - 2))))))) → w_R_loops 63 M Q' := fun Q' k => by
      unfold w_R_loops w_R_loops_74 w_R_loops_119 w_R_loops_157
      exact ⟨by omega, by decide, fun q => absurd q (by decide), fun _ => ⟨by decide, fun q => absurd q (by decide), fun _ => ⟨by decide, fun q => absurd q (by decide), fun _ => ⟨by decide, fun q => absurd q (by decide), fun _ => ⟨by decide, fun _ => scl1 (by omega) e8 (by decide) (by decide) (ek (by omega)) (Or.inl (by rw [← k8]; exact p3)) ⟨by decide, fun q => absurd q (by decide), fun _ => ⟨by omega, by omega, k⟩⟩, fun q => absurd rfl q⟩⟩⟩⟩⟩
    show w_C_endWhile C _
    unfold w_C_endWhile w_C_goBack w_C_closeLast
    refine ⟨q1, by omega, (show 1 ≤ C.1 8 - 1 by omega), (show C.1 8 - 1 - 1 < 8 by omega), ?_⟩
    have kp2 := rKp_pop (rKp_pop hk q1) (show 1 ≤ C.1 8 - 1 by omega)
    refine rad (w := 44) (v := nI (M.2.1 5 (M.1 8 - 2))) kp2 hb (by decide) (by decide) (by decide) ⟨fun q => absurd q (by decide), fun q => absurd q (by decide), fun _ _ _ => ⟨C.2.1 3 (C.1 8 - 1 - 1), o5, o7, rfl, by rw [e2]⟩⟩ (fun q hr => ⟨by decide, by omega, by decide, by decide, fun _ => hQ 0 _ (dN (dN M 1 2) 8 (M.1 8 - 2)) (Or.inr ⟨rfl, (rhC_8 C _).tr ((rhC_8 _ _).tr (rhC_a _ _ _)), (rhM_1 M 2).tr (rhM_8 _ _), rfl⟩) (fun Q' hq => hm Q' (hr _ ⟨by show (2 : Nat) < 2147483648; decide, fun z => absurd (show (2 : Nat) = 0 from z) (by decide), fun _ => ⟨(show 2 ≤ M.1 8 by omega), hq⟩⟩)), fun z => absurd rfl z⟩) (fun C' M' h' ha hr => ⟨by decide, by omega, by decide, by decide, fun z => absurd z (by decide), fun _ => ?_⟩)
    have hak := ha.ak
    obtain ⟨a1, a2, a3, a4, a5, a6, a7, a8, a9, a10, a11, a12, a13, a14, a15, a16, a17, a18⟩ := ha
    have b8 : C'.1 8 = C.1 8 - 1 - 1 := a10
    have b6 : C'.1 6 = C.1 6 + 1 := a9
    have m4 : M'.1 4 = M.1 4 := a3.1 4 (by decide) (by decide) (by decide) (by decide)
    have h7 : C'.1 7 = 0 := a18 (by decide)
    have e5 : C.2.1 3 (C.1 8 - 1) = M'.2.1 5 (M'.1 8 - 1) := by rw [p4, a15]; exact congrArg _ (by omega)
    have hp := rKp_aim (w := 40) (p := C.2.1 3 (C.1 8 - 1)) a1 (by omega) (by decide) ((a17.2 _ p6).trans p6b) h7
    refine hQ 1 _ (dN (dA M' 0 (60 * M'.1 4 + C.2.1 3 (C.1 8 - 1)) (nI (M'.2.1 1 (M'.1 4)))) 8 (M'.1 8 - 2)) (Or.inl ⟨rfl, ⟨(rhC_8 C _).tr ((rhC_8 _ _).tr (hak.1.tr (rhC_a _ _ _))), hak.2.1.tr ((rhM_a _ _ _).tr (rhM_8 _ _)), a4, a5, a7, a8⟩, ⟨_, hp⟩, (show C'.1 8 = M'.1 8 - 2 by omega), a6⟩) (fun Q' hq => hm Q' (hr _ ⟨by omega, fun _ => ⟨by omega, by omega, ?_⟩, fun z => absurd a6 z⟩))
    unfold w_R_aim
    refine ⟨by omega, by rw [← e5]; omega, (show 2 ≤ M'.1 8 by omega), ?_⟩
    rw [← e5]
    exact hq
  · refine hQ 0 C (dN M 1 2) (Or.inr ⟨rfl, rhC.rf C, rhM_1 M 2, rfl⟩) (fun Q' hq => ?_)
    unfold w_R_loops w_R_loops_74 w_R_loops_119 w_R_loops_157
    refine ⟨by omega, by decide, fun q => absurd q (by decide), fun _ => ⟨by decide, fun q => absurd q (by decide), fun _ => ⟨by decide, fun q => absurd q (by decide), fun _ => ⟨by decide, fun q => absurd q (by decide), fun _ => ⟨by decide, fun _ => scl0 hb e8 (by decide) (by decide) ek (sor (snot k8 (by decide) z)) ⟨by decide, fun _ => ?_, fun q => absurd rfl q⟩, fun q => absurd rfl q⟩⟩⟩⟩⟩
    unfold w_R_loops_224
    exact ⟨by decide, fun q => absurd q (by decide), fun _ => ⟨by decide, fun q => absurd q (by decide), fun _ => hq⟩⟩
end SD
