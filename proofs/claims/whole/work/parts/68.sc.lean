/-! the words that act at once, further -/
section SC
variable {C : xC} {M : xM} {h : Nat → Nat} {Q : Nat → xC → Prop}
theorem slast {x : Nat} {A B : xC → Prop} (hk : rKp C M h) (hx : x < 61) (hA : 1 ≤ C.1 8 → rOe C M h (C.1 8 - 1) x → A C) (hB : (C.1 8 = 0 ∨ (1 ≤ C.1 8 ∧ ∃ w, rOe C M h (C.1 8 - 1) w ∧ w ≠ x)) → B C) : w_C_lastOpen C (fun r C1 => ((∀ a, r = some a → 1048576 ≤ a ∧ a < 1048637) ∧ ((r = some (1048576 + x) → A C1) ∧ (¬ r = some (1048576 + x) → B C1)))) := by
  obtain ⟨k1, k2, k3, k4, k5, k6, k7, k9, k10, k11⟩ := hk
  unfold w_C_lastOpen
  refine ⟨by omega, fun q => ⟨fun a z => by (cases z), fun z => by (cases z), fun _ => hB (Or.inl (by omega))⟩, fun q => ⟨by omega, by omega, ?_⟩⟩
  obtain ⟨w, p⟩ := k11 (C.1 8 - 1) (by omega)
  have p1 := p.1
  have p2 := p.2.1
  rw [p2]
  refine ⟨fun a z => ?_, fun z => ?_, fun z => hB (Or.inr ⟨by omega, w, p, fun e => z (by rw [e])⟩)⟩
  · have z : 1048576 + w = a := by simpa using z
    omega
  · have z : w = x := by simpa using z
    subst z
    exact hA (by omega) p
theorem scl1 {a b : Nat} {Q' : Nat → xM → Prop} (h1 : 1 ≤ M.1 8) (h8 : M.1 8 ≤ 8) (ha : a < 1000) (hb : b < 1000) (hk : M.2.1 4 (M.1 8 - 1) < 1000) (h : M.2.1 4 (M.1 8 - 1) = a ∨ M.2.1 4 (M.1 8 - 1) = b) (k : Q' 1 M) : w_R_closes a b M Q' := by
  unfold w_R_closes
  exact ⟨by omega, fun q => by omega, fun _ => ⟨h1, by omega, by omega, by omega, fun _ => ⟨fun z => absurd z (by decide), fun _ => k⟩, fun _ => ⟨h1, by omega, by omega, by omega, fun _ => ⟨fun z => absurd z (by decide), fun _ => k⟩, fun q => by omega⟩⟩⟩
theorem scl0 {a b : Nat} {Q' : Nat → xM → Prop} (hb0 : M.1 1 = 0) (h8 : M.1 8 ≤ 8) (ha : a < 1000) (hb : b < 1000) (hk : 1 ≤ M.1 8 → M.2.1 4 (M.1 8 - 1) < 1000) (h : M.1 8 = 0 ∨ (M.2.1 4 (M.1 8 - 1) ≠ a ∧ M.2.1 4 (M.1 8 - 1) ≠ b)) (k : Q' 0 (dN M 1 2)) : w_R_closes a b M Q' := by
  unfold w_R_closes
  refine ⟨by omega, fun q => ⟨fun _ => rwr hb0 k, fun z => absurd rfl z⟩, fun q => ?_⟩
  have := hk (by omega)
  exact ⟨by omega, by omega, by omega, by omega, fun q => by omega, fun _ => ⟨by omega, by omega, by omega, by omega, fun q => by omega, fun _ => ⟨fun _ => rwr hb0 k, fun z => absurd rfl z⟩⟩⟩
theorem rkd_lt (w : Nat) : rkd w < 6 := by unfold rkd; (repeat' split) <;> omega
theorem rkd_inj {w x : Nat} (hw : w = 38 ∨ w = 42 ∨ w = 51 ∨ w = 40 ∨ w = 41) (hx : x = 38 ∨ x = 42 ∨ x = 51 ∨ x = 40 ∨ x = 41) (h : rkd w = rkd x) : w = x := by
  rcases hw with e | e | e | e | e <;> rcases hx with f | f | f | f | f <;> subst e <;> subst f <;> first | rfl | (exact absurd h (by decide))
/-- EXIT -/
theorem sEXIT (hk : rKp C M h) (k8 : C.1 8 = M.1 8) (hb : M.1 1 = 0) (hQ : ∀ r C' M', rU C M C' r M' → (∀ Q' : xM → Prop, Q' M' → w_R_add 42 (nI 0) M Q') → Q r C') : w_C_act 46 C Q := by
  unfold w_C_act
  refine ⟨by decide, by decide, by decide, fun q => absurd q (by decide), fun _ => ⟨fun q => absurd q (by decide), fun _ => ⟨fun q => absurd q (by decide), fun _ => ⟨fun q => absurd q (by decide), fun _ => ⟨fun q => absurd q (by decide), fun _ => ⟨fun q => absurd q (by decide), fun _ => ⟨fun q => absurd q (by decide), fun _ => ⟨fun q => absurd q (by decide), fun _ => ⟨fun q => absurd q (by decide), fun _ => ⟨fun q => absurd q (by decide), fun _ => ⟨fun q => absurd q (by decide), fun _ => ⟨fun q => absurd q (by decide), fun _ => ?_⟩⟩⟩⟩⟩⟩⟩⟩⟩⟩⟩⟩
  refine rad (w := 46) (v := nI 0) hk hb (by decide) (by decide) (by decide) ⟨fun q => absurd q (by decide), fun q => absurd q (by decide), fun _ q => absurd q (by decide)⟩ (fun q hr => ⟨by decide, hQ 0 C (dN M 1 2) (Or.inr ⟨rfl, rhC.rf C, rhM_1 M 2, rfl⟩) hr⟩) (fun C' M' h' ha hr => ⟨by decide, hQ 1 C' M' (Or.inl ⟨rfl, ha.ak, ⟨h', ha.1⟩, ?_, ha.2.2.2.2.2.1⟩) hr⟩)
  obtain ⟨a1, a2, a3, a4, a5, a6, a7, a8, a9, a10, a11, a12, a13, a14, a15, a16, a17, a18⟩ := id ha
  omega
/-- RECURSE -/
theorem sREC (hk : rKp C M h) (k8 : C.1 8 = M.1 8) (k4 : C.1 4 = M.1 4) (hb : M.1 1 = 0) (hQ : ∀ r C' M', rU C M C' r M' → (∀ Q' : xM → Prop, Q' M' → w_R_add 41 (nI (M.1 4)) M Q') → Q r C') : w_C_act 47 C Q := by
  unfold w_C_act
  refine ⟨by decide, by decide, by decide, fun q => absurd q (by decide), fun _ => ⟨fun q => absurd q (by decide), fun _ => ⟨fun q => absurd q (by decide), fun _ => ⟨fun q => absurd q (by decide), fun _ => ⟨fun q => absurd q (by decide), fun _ => ⟨fun q => absurd q (by decide), fun _ => ⟨fun q => absurd q (by decide), fun _ => ⟨fun q => absurd q (by decide), fun _ => ⟨fun q => absurd q (by decide), fun _ => ⟨fun q => absurd q (by decide), fun _ => ⟨fun _ => ?_, fun q => absurd rfl q⟩⟩⟩⟩⟩⟩⟩⟩⟩⟩⟩
  refine rad (w := 49) (v := nI (M.1 4)) hk hb (by decide) (by decide) (by decide) ⟨fun q => absurd q (by decide), fun _ => ⟨M.1 4, Nat.le_refl _, by rw [k4], rfl⟩, fun _ q => absurd q (by decide)⟩ (fun q hr => ⟨by decide, hQ 0 C (dN M 1 2) (Or.inr ⟨rfl, rhC.rf C, rhM_1 M 2, rfl⟩) hr⟩) (fun C' M' h' ha hr => ⟨by decide, hQ 1 C' M' (Or.inl ⟨rfl, ha.ak, ⟨h', ha.1⟩, ?_, ha.2.2.2.2.2.1⟩) hr⟩)
  obtain ⟨a1, a2, a3, a4, a5, a6, a7, a8, a9, a10, a11, a12, a13, a14, a15, a16, a17, a18⟩ := id ha
  omega
/-- DO -/
theorem sDO (hk : rKp C M h) (k8 : C.1 8 = M.1 8) (hb : M.1 1 = 0) (hQ : ∀ r C' M', rU C M C' r M' → (∀ Q' : xM → Prop, Q' M' → w_R_loops 64 M Q') → Q r C') : w_C_act 41 C Q := by
  have k1 := hk.1
  have k2 := hk.2.1
  have hm : ∀ Q' : xM → Prop, w_R_add 47 (nI 0) M (fun M16 => (M16.1 1 < 2147483648 ∧ ((M16.1 1 = 0 → w_R_put 5 (M.2.1 1 (M.1 4) + 1) M16 (fun M19 => Q' M19)) ∧ (¬ (M16.1 1 = 0) → Q' M16)))) → w_R_loops 64 M Q' := fun Q' k => by
    unfold w_R_loops w_R_loops_74 w_R_loops_119 w_R_loops_157 w_R_loops_224
    exact ⟨by omega, by decide, fun q => absurd q (by decide), fun _ => ⟨by decide, fun q => absurd q (by decide), fun _ => ⟨by decide, fun q => absurd q (by decide), fun _ => ⟨by decide, fun q => absurd q (by decide), fun _ => ⟨by decide, fun q => absurd q (by decide), fun _ => ⟨by decide, fun _ => k, fun q => absurd rfl q⟩⟩⟩⟩⟩⟩
  unfold w_C_act
  refine ⟨by decide, by decide, by decide, fun q => absurd q (by decide), fun _ => ⟨fun q => absurd q (by decide), fun _ => ⟨fun q => absurd q (by decide), fun _ => ⟨fun q => absurd q (by decide), fun _ => ⟨fun q => absurd q (by decide), fun _ => ⟨fun q => absurd q (by decide), fun _ => ⟨fun q => absurd q (by decide), fun _ => ⟨fun q => absurd q (by decide), fun _ => ⟨fun _ => ?_, fun q => absurd rfl q⟩⟩⟩⟩⟩⟩⟩⟩⟩
  refine rad (w := 41) (v := nI 0) hk hb (by decide) (by decide) (by decide) ⟨fun q => absurd q (by decide), fun q => absurd q (by decide), fun _ _ q => absurd rfl q⟩ (fun q hr => ⟨by decide, fun _ => hQ 0 C (dN M 1 2) (Or.inr ⟨rfl, rhC.rf C, rhM_1 M 2, rfl⟩) (fun Q' hq => hm Q' (hr _ ⟨by show (2 : Nat) < 2147483648; decide, fun z => absurd (show (2 : Nat) = 0 from z) (by decide), fun _ => hq⟩)), fun z => absurd rfl z⟩) (fun C' M' h' ha hr => ⟨by decide, fun z => absurd z (by decide), fun _ => ?_⟩)
  obtain ⟨a1, a2, a3, a4, a5, a6, a7, a8, a9, a10, a11, a12, a13, a14, a15, a16, a17, a18⟩ := id ha
  have e : C'.1 6 = M.2.1 1 (M.1 4) + 1 := by omega
  have e7 : h' (C'.1 6) = 0 := by rw [a1.2.2.2.2.2.2.1]; exact a18 (by decide)
  refine sopn (w := 41) a1 (by omega) a6 (by omega) (Nat.le_refl _) (fun q => by omega) (fun _ => e7) (fun q => absurd q (by decide)) (fun q hp => ⟨by decide, fun _ => hQ 0 C' (dN M' 1 2) (Or.inr ⟨rfl, a2, a3.tr (rhM_1 M' 2), rfl⟩) (fun Q' hq => hm Q' (hr _ ⟨by omega, fun _ => ?_, fun z => absurd a6 z⟩)), fun z => absurd rfl z⟩) (fun q hk' hp => ⟨by decide, fun z => absurd z (by decide), fun _ => hQ 1 _ _ (Or.inl ⟨rfl, ha.ak.tr ⟨rhC_o _ _ _ _ _, rhM_o _ _ _ _ _, rfl, rfl, rfl, rfl⟩, ⟨h', hk'⟩, (show C'.1 8 + 1 = M'.1 8 + 1 by omega), a6⟩) (fun Q' hq => hm Q' (hr _ ⟨by omega, fun _ => ?_, fun z => absurd a6 z⟩))⟩)
  · have := hp Q' hq; rw [e] at this; exact this
  · have := hp Q' hq; rw [e] at this; exact this
/-- BEGIN -/
theorem sBEGIN (hk : rKp C M h) (k8 : C.1 8 = M.1 8) (hb : M.1 1 = 0) (hQ : ∀ r C' M', rU C M C' r M' → (∀ Q' : xM → Prop, Q' M' → w_R_loops 59 M Q') → Q r C') : w_C_act 51 C Q := by
  have k1 := hk.1
  have k2 := hk.2.1
  have k3 := hk.2.2.1
  have hk' := rKp_fl hk
  have ec : (rCf C).1 6 = C.1 6 ∧ (rCf C).1 8 = C.1 8 ∧ (rCf C).1 5 = C.1 5 ∧ (rCf C).2.2.2.1 = C.2.2.2.1 := by unfold rCf; split <;> exact ⟨rfl, rfl, rfl, rfl⟩
  have em : (rMf M).1 1 = M.1 1 ∧ (rMf M).1 8 = M.1 8 ∧ (rMf M).1 6 = M.1 6 ∧ (rMf M).2.2.2 = M.2.2.2 := by unfold rMf; split <;> exact ⟨rfl, rfl, rfl, rfl⟩
  have ch := rCf_h C
  have mh := rMf_h M
  have hX : ∃ X, rCf C = X := ⟨_, rfl⟩
  obtain ⟨X, hX⟩ := hX
  have hY : ∃ Y, rMf M = Y := ⟨_, rfl⟩
  obtain ⟨Y, hY⟩ := hY
  rw [hX, hY] at hk'
  rw [hX] at ec ch
  rw [hY] at em mh
  obtain ⟨c6, c8, c5, cn⟩ := ec
  obtain ⟨m1, m8, m6, mn⟩ := em
  have hm : ∀ Q' : xM → Prop, w_R_put 3 (M.2.1 1 (M.1 4)) Y (fun M15 => Q' M15) → w_R_loops 59 M Q' := fun Q' k => by
    unfold w_R_loops
    exact ⟨by omega, by decide, fun _ => rflM k1 (by omega) (by rw [hY]; exact k), fun q => absurd rfl q⟩
  unfold w_C_act
  refine ⟨by decide, by decide, by decide, fun q => absurd q (by decide), fun _ => ⟨fun q => absurd q (by decide), fun _ => ⟨fun q => absurd q (by decide), fun _ => ⟨fun _ => ?_, fun q => absurd rfl q⟩⟩⟩⟩
  refine rflC k3 ?_
  rw [hX]
  have e : X.1 6 = M.2.1 1 (M.1 4) := by omega
  refine sopn (w := 51) hk' (by omega) (by omega) (by omega) (Nat.le_refl _) (fun q => by omega) (fun _ => by rw [c6]; simp [xu]) (fun q => absurd q (by decide)) (fun q hp => ⟨by decide, hQ 0 X (dN Y 1 2) (Or.inr ⟨rfl, ch, mh.tr (rhM_1 Y 2), rfl⟩) (fun Q' hq => hm Q' ?_)⟩) (fun q hk2 hp => ⟨by decide, hQ 1 _ _ (Or.inl ⟨rfl, ⟨ch.tr (rhC_o _ _ _ _ _), mh.tr (rhM_o _ _ _ _ _), c5, cn, m6, mn⟩, ⟨_, hk2⟩, (show X.1 8 + 1 = Y.1 8 + 1 by omega), m1.trans hb⟩) (fun Q' hq => hm Q' ?_)⟩)
  · have := hp Q' hq; rw [e] at this; exact this
  · have := hp Q' hq; rw [e] at this; exact this
/-- UNTIL, AGAIN, LOOP: back to what is open -/
theorem sgb {w x : Nat} {W : (xM → Prop) → Prop} (hk : rKp C M h) (k8 : C.1 8 = M.1 8) (hb : M.1 1 = 0) (hw : w = 39 ∨ w = 43 ∨ w = 45) (hx : x = 51 ∨ x = 41)
    (hm0 : (M.1 8 = 0 ∨ M.2.1 4 (M.1 8 - 1) ≠ rkd x) → ∀ Q' : xM → Prop, Q' (dN M 1 2) → W Q')
    (hm1 : 1 ≤ M.1 8 → M.2.1 4 (M.1 8 - 1) = rkd x → ∀ Q' : xM → Prop, w_R_add (rcd w) (nI (M.2.1 5 (M.1 8 - 1))) M (fun M12 => (1 ≤ M12.1 8 ∧ Q' (dN M12 8 (M12.1 8 - 1)))) → W Q')
    (hQ : ∀ r C' M', rU C M C' r M' → (∀ Q' : xM → Prop, Q' M' → W Q') → Q r C') :
    w_C_lastOpen C (fun r C1 => ((∀ a, r = some a → 1048576 ≤ a ∧ a < 1048637) ∧ ((r = some (1048576 + x) → w_C_goBack w C1 (fun r55 C54 => (r55 < 2147483648 ∧ ((r55 = 0 → Q 0 C54) ∧ (¬ (r55 = 0) → Q 1 C54))))) ∧ (¬ r = some (1048576 + x) → Q 0 C1)))) := by
  have k9 := hk.2.2.2.2.2.2.2.1
  refine slast (A := fun C1 => w_C_goBack w C1 (fun r55 C54 => (r55 < 2147483648 ∧ ((r55 = 0 → Q 0 C54) ∧ (¬ (r55 = 0) → Q 1 C54))))) (B := fun C1 => Q 0 C1) hk (by omega) (fun q1 p => ?_) (fun z => ?_)
  · obtain ⟨p1, p2, p3, p4, p5, p6, p7, p8⟩ := p
    have hz : h (C.2.1 3 (C.1 8 - 1)) = 0 := p7 hx
    have ep : C.2.1 3 (C.1 8 - 1) = M.2.1 5 (M.1 8 - 1) := by rw [p4, k8]
    have hm := hm1 (by omega) (by rw [← k8]; exact p3)
    show w_C_goBack w C _
    unfold w_C_goBack w_C_closeLast
    refine ⟨q1, by omega, ?_⟩
    refine rad (w := w) (v := nI (M.2.1 5 (M.1 8 - 1))) (rKp_pop hk q1) hb (by omega) (by omega) (by omega) ⟨fun q => by omega, fun q => by omega, fun _ _ _ => ⟨C.2.1 3 (C.1 8 - 1), p5, hz, rfl, by rw [ep]⟩⟩ (fun q hr => ⟨by decide, by decide, fun _ => hQ 0 _ (dN (dN M 1 2) 8 (M.1 8 - 1)) (Or.inr ⟨rfl, rhC_8 C _, (rhM_1 M 2).tr (rhM_8 _ _), rfl⟩) (fun Q' hq => hm Q' (hr _ ⟨(show 1 ≤ M.1 8 by omega), hq⟩)), fun z => absurd rfl z⟩) (fun C' M' h' ha hr => ⟨by decide, by decide, fun z => absurd z (by decide), fun _ => ?_⟩)
    have hak := ha.ak
    obtain ⟨a1, a2, a3, a4, a5, a6, a7, a8, a9, a10, a11, a12, a13, a14, a15, a16, a17, a18⟩ := ha
    have b8 : C'.1 8 = C.1 8 - 1 := a10
    refine hQ 1 C' (dN M' 8 (M'.1 8 - 1)) (Or.inl ⟨rfl, ⟨(rhC_8 C _).tr hak.1, hak.2.1.tr (rhM_8 _ _), a4, a5, a7, a8⟩, ⟨h', a1⟩, (show C'.1 8 = M'.1 8 - 1 by omega), a6⟩) (fun Q' hq => hm Q' (hr _ ⟨by omega, hq⟩))
  · refine hQ 0 C (dN M 1 2) (Or.inr ⟨rfl, rhC.rf C, rhM_1 M 2, rfl⟩) (hm0 ?_)
    rcases z with z | ⟨z1, w', p, z2⟩
    · exact Or.inl (by omega)
    · refine Or.inr fun e => z2 ?_
      rw [← k8, p.2.2.1] at e
      exact rkd_inj p.1 (by omega) e
theorem skd (hk : rKp C M h) (k8 : C.1 8 = M.1 8) : M.1 8 ≤ 8 ∧ (1 ≤ M.1 8 → M.2.1 4 (M.1 8 - 1) < 1000) := by
  refine ⟨by have := hk.2.2.2.2.2.2.2.1; omega, fun q => ?_⟩
  obtain ⟨w', p⟩ := hk.2.2.2.2.2.2.2.2.2 (M.1 8 - 1) (by omega)
  rw [p.2.2.1]
  have := rkd_lt w'
  omega
theorem sor {a x : Nat} {P : Prop} (z : P ∨ a ≠ x) : P ∨ (a ≠ x ∧ a ≠ x) := by
  rcases z with z | z
  · exact Or.inl z
  · exact Or.inr ⟨z, z⟩
theorem sUNTIL (hk : rKp C M h) (k8 : C.1 8 = M.1 8) (hb : M.1 1 = 0) (hQ : ∀ r C' M', rU C M C' r M' → (∀ Q' : xM → Prop, Q' M' → w_R_loops 60 M Q') → Q r C') : w_C_act 39 C Q := by
  have k1 := hk.1
  obtain ⟨e8, ek⟩ := skd hk k8
  unfold w_C_act
  refine ⟨by decide, by decide, by decide, fun q => absurd q (by decide), fun _ => ⟨fun q => absurd q (by decide), fun _ => ⟨fun q => absurd q (by decide), fun _ => ⟨fun q => absurd q (by decide), fun _ => ⟨fun _ => ?_, fun q => absurd rfl q⟩⟩⟩⟩⟩
  refine sgb (w := 39) (x := 51) (W := w_R_loops 60 M) hk k8 hb (by decide) (by decide) (fun z Q' hq => ?_) (fun q1 q2 Q' hq => ?_) hQ
  · unfold w_R_loops
    refine ⟨by omega, by decide, fun q => absurd q (by decide), fun _ => ⟨by decide, fun _ => scl0 hb e8 (by decide) (by decide) ek (sor z) ⟨by decide, fun _ => ?_, fun q => absurd rfl q⟩, fun q => absurd rfl q⟩⟩
    unfold w_R_loops_74 w_R_loops_119 w_R_loops_157 w_R_loops_224
    exact ⟨by decide, fun q => absurd q (by decide), fun _ => ⟨by decide, fun q => absurd q (by decide), fun _ => ⟨by decide, fun q => absurd q (by decide), fun _ => ⟨by decide, fun q => absurd q (by decide), fun _ => ⟨by decide, fun q => absurd q (by decide), fun _ => hq⟩⟩⟩⟩⟩
  · unfold w_R_loops
    exact ⟨by omega, by decide, fun q => absurd q (by decide), fun _ => ⟨by decide, fun _ => scl1 q1 e8 (by decide) (by decide) (ek q1) (Or.inl q2) ⟨by decide, fun q => absurd q (by decide), fun _ => ⟨q1, by omega, hq⟩⟩, fun q => absurd rfl q⟩⟩
theorem sAGAIN (hk : rKp C M h) (k8 : C.1 8 = M.1 8) (hb : M.1 1 = 0) (hQ : ∀ r C' M', rU C M C' r M' → (∀ Q' : xM → Prop, Q' M' → w_R_loops 61 M Q') → Q r C') : w_C_act 43 C Q := by
  have k1 := hk.1
  obtain ⟨e8, ek⟩ := skd hk k8
  unfold w_C_act
  refine ⟨by decide, by decide, by decide, fun q => absurd q (by decide), fun _ => ⟨fun q => absurd q (by decide), fun _ => ⟨fun q => absurd q (by decide), fun _ => ⟨fun q => absurd q (by decide), fun _ => ⟨fun q => absurd q (by decide), fun _ => ⟨fun _ => ?_, fun q => absurd rfl q⟩⟩⟩⟩⟩⟩
  refine sgb (w := 43) (x := 51) (W := w_R_loops 61 M) hk k8 hb (by decide) (by decide) (fun z Q' hq => ?_) (fun q1 q2 Q' hq => ?_) hQ
  · unfold w_R_loops w_R_loops_74
    refine ⟨by omega, by decide, fun q => absurd q (by decide), fun _ => ⟨by decide, fun q => absurd q (by decide), fun _ => ⟨by decide, fun _ => scl0 hb e8 (by decide) (by decide) ek (sor z) ⟨by decide, fun _ => ?_, fun q => absurd rfl q⟩, fun q => absurd rfl q⟩⟩⟩
    unfold w_R_loops_119 w_R_loops_157 w_R_loops_224
    exact ⟨by decide, fun q => absurd q (by decide), fun _ => ⟨by decide, fun q => absurd q (by decide), fun _ => ⟨by decide, fun q => absurd q (by decide), fun _ => ⟨by decide, fun q => absurd q (by decide), fun _ => hq⟩⟩⟩⟩
  · unfold w_R_loops w_R_loops_74
    exact ⟨by omega, by decide, fun q => absurd q (by decide), fun _ => ⟨by decide, fun q => absurd q (by decide), fun _ => ⟨by decide, fun _ => scl1 q1 e8 (by decide) (by decide) (ek q1) (Or.inl q2) ⟨by decide, fun q => absurd q (by decide), fun _ => ⟨q1, by omega, hq⟩⟩, fun q => absurd rfl q⟩⟩⟩
theorem sLOOP (hk : rKp C M h) (k8 : C.1 8 = M.1 8) (hb : M.1 1 = 0) (hQ : ∀ r C' M', rU C M C' r M' → (∀ Q' : xM → Prop, Q' M' → w_R_loops 65 M Q') → Q r C') : w_C_act 45 C Q := by
  have k1 := hk.1
  obtain ⟨e8, ek⟩ := skd hk k8
  unfold w_C_act
  refine ⟨by decide, by decide, by decide, fun q => absurd q (by decide), fun _ => ⟨fun q => absurd q (by decide), fun _ => ⟨fun q => absurd q (by decide), fun _ => ⟨fun q => absurd q (by decide), fun _ => ⟨fun q => absurd q (by decide), fun _ => ⟨fun q => absurd q (by decide), fun _ => ⟨fun q => absurd q (by decide), fun _ => ⟨fun q => absurd q (by decide), fun _ => ⟨fun q => absurd q (by decide), fun _ => ⟨fun _ => ?_, fun q => absurd rfl q⟩⟩⟩⟩⟩⟩⟩⟩⟩⟩
  refine sgb (w := 45) (x := 41) (W := w_R_loops 65 M) hk k8 hb (by decide) (by decide) (fun z Q' hq => ?_) (fun q1 q2 Q' hq => ?_) hQ
  · unfold w_R_loops w_R_loops_74 w_R_loops_119 w_R_loops_157 w_R_loops_224
    exact ⟨by omega, by decide, fun q => absurd q (by decide), fun _ => ⟨by decide, fun q => absurd q (by decide), fun _ => ⟨by decide, fun q => absurd q (by decide), fun _ => ⟨by decide, fun q => absurd q (by decide), fun _ => ⟨by decide, fun q => absurd q (by decide), fun _ => ⟨by decide, fun q => absurd q (by decide), fun _ => ⟨by decide, fun _ => scl0 hb e8 (by decide) (by decide) ek (sor z) ⟨by decide, fun _ => hq, fun q => absurd rfl q⟩, fun q => absurd rfl q⟩⟩⟩⟩⟩⟩⟩
  · unfold w_R_loops w_R_loops_74 w_R_loops_119 w_R_loops_157 w_R_loops_224
    exact ⟨by omega, by decide, fun q => absurd q (by decide), fun _ => ⟨by decide, fun q => absurd q (by decide), fun _ => ⟨by decide, fun q => absurd q (by decide), fun _ => ⟨by decide, fun q => absurd q (by decide), fun _ => ⟨by decide, fun q => absurd q (by decide), fun _ => ⟨by decide, fun q => absurd q (by decide), fun _ => ⟨by decide, fun _ => scl1 q1 e8 (by decide) (by decide) (ek q1) (Or.inl q2) ⟨by decide, fun q => absurd q (by decide), fun _ => ⟨q1, by omega, hq⟩⟩, fun q => absurd rfl q⟩⟩⟩⟩⟩⟩⟩
end SC
