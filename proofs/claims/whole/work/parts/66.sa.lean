/-! what is open: alike -/
section SA
variable {C : xC} {M : xM} {h : Nat → Nat} {w p : Nat} {Q : Nat → xC → Prop}
theorem sopn (hk : rKp C M h) (k8 : C.1 8 = M.1 8) (hb : M.1 1 = 0) (hw : w = 38 ∨ w = 42 ∨ w = 51 ∨ w = 40 ∨ w = 41) (hp : p ≤ C.1 6) (hp2 : (w = 38 ∨ w = 42 ∨ w = 40) → p < C.1 6 ∧ C.2.2.2.2.1 1 p = some (1048576 + w)) (hp3 : (w = 51 ∨ w = 41) → h p = 0) (hp4 : w = 40 → 1 ≤ C.1 8 ∧ C.2.2.2.2.1 2 (C.1 8 - 1) = some (1048576 + 51))
    (h0 : C.1 8 = 8 → (∀ Q' : xM → Prop, Q' (dN M 1 2) → w_R_put (rkd w) p M Q') → Q 0 C)
    (h1 : C.1 8 < 8 → rKp (cN (cB (cR C 2 (C.1 8) (some (1048576 + w))) 3 (C.1 8) p) 8 (C.1 8 + 1)) (dN (dB (dB M 4 (M.1 8) (rkd w)) 5 (M.1 8) p) 8 (M.1 8 + 1)) h → (∀ Q' : xM → Prop, Q' (dN (dB (dB M 4 (M.1 8) (rkd w)) 5 (M.1 8) p) 8 (M.1 8 + 1)) → w_R_put (rkd w) p M Q') → Q 1 (cN (cB (cR C 2 (C.1 8) (some (1048576 + w))) 3 (C.1 8) p) 8 (C.1 8 + 1))) : w_C_open w p C Q := by
  obtain ⟨k1, k2, k3, k4, k5, k6, k7, k9, k10, k11⟩ := hk
  have hw5 : w < 55 := by omega
  unfold w_C_open
  refine ⟨by omega, fun q => h0 q fun Q' hq => ?_, fun q => ⟨by omega, hw5, by omega, h1 (by omega) ⟨k1, k2, k3, k4, k5, k6, k7, ?_, k10, fun k hk => ?_⟩ fun Q' hq => ?_⟩⟩
  · unfold w_R_put
    exact ⟨by omega, fun _ => rwr hb hq, fun z => absurd (by omega) z⟩
  · show C.1 8 + 1 ≤ 8; omega
  · have hk : k < C.1 8 + 1 := hk
    by_cases c : k = C.1 8
    · subst c
      refine ⟨w, hw, ?_, ?_, ?_, ?_, fun q => ?_, fun q => ?_, fun q => ⟨(hp4 q).1, ?_⟩⟩
      · show xu (C.2.2.2.2.1 2) (C.1 8) _ (C.1 8) = _
        simp [xu]
      · show xu (M.2.1 4) (M.1 8) _ (C.1 8) = _
        rw [k8]; simp [xu]
      · show xu (C.2.1 3) (C.1 8) p (C.1 8) = xu (M.2.1 5) (M.1 8) p (C.1 8)
        rw [k8]; simp [xu]
      · show xu (C.2.1 3) (C.1 8) p (C.1 8) ≤ C.1 6
        simp [xu]; exact hp
      · show xu (C.2.1 3) (C.1 8) p (C.1 8) < C.1 6 ∧ C.2.2.2.2.1 1 (xu (C.2.1 3) (C.1 8) p (C.1 8)) = _
        simp [xu]; exact hp2 q
      · show h (xu (C.2.1 3) (C.1 8) p (C.1 8)) = 0
        simp [xu]; exact hp3 q
      · show xu (C.2.2.2.2.1 2) (C.1 8) _ (C.1 8 - 1) = _
        have := hp4 q
        simp only [xu]; rw [if_neg (by omega)]; exact this.2
    · obtain ⟨w', p1, p2, p3, p4, p5, p6, p7, p8⟩ := k11 k (by omega)
      have e3 : xu (C.2.1 3) (C.1 8) p k = C.2.1 3 k := by simp only [xu]; rw [if_neg c]
      refine ⟨w', p1, ?_, ?_, ?_, ?_, fun q => ?_, fun q => ?_, fun q => ⟨(p8 q).1, ?_⟩⟩
      · show xu (C.2.2.2.2.1 2) (C.1 8) _ k = _
        simp only [xu]; rw [if_neg c]; exact p2
      · show xu (M.2.1 4) (M.1 8) _ k = _
        simp only [xu]; rw [if_neg (by omega)]; exact p3
      · show xu (C.2.1 3) (C.1 8) p k = xu (M.2.1 5) (M.1 8) p k
        rw [e3]; simp only [xu]; rw [if_neg (by omega)]; exact p4
      · show xu (C.2.1 3) (C.1 8) p k ≤ C.1 6
        rw [e3]; exact p5
      · show xu (C.2.1 3) (C.1 8) p k < C.1 6 ∧ C.2.2.2.2.1 1 (xu (C.2.1 3) (C.1 8) p k) = _
        rw [e3]; exact p6 q
      · show h (xu (C.2.1 3) (C.1 8) p k) = 0
        rw [e3]; exact p7 q
      · show xu (C.2.2.2.2.1 2) (C.1 8) _ (k - 1) = _
        simp only [xu]; rw [if_neg (by omega)]; exact (p8 q).2
  · unfold w_R_put
    exact ⟨by omega, fun z => absurd z (by omega), fun _ => ⟨by omega, by omega, hq⟩⟩
/-- one less is open -/
theorem rKp_pop (hk : rKp C M h) (h1 : 1 ≤ C.1 8) : rKp (cN C 8 (C.1 8 - 1)) M h := by
  obtain ⟨k1, k2, k3, k4, k5, k6, k7, k9, k10, k11⟩ := hk
  refine ⟨k1, k2, k3, k4, k5, k6, k7, ?_, k10, fun k hk => ?_⟩
  · show C.1 8 - 1 ≤ 8; omega
  · have hk : k < C.1 8 - 1 := hk
    exact k11 k (by omega)
/-- a jump's goal is told -/
theorem rKp_aim {w : Nat} (hk : rKp C M h) (hp : p < C.1 6) (hw : w = 38 ∨ w = 42 ∨ w = 40) (hr : C.2.2.2.2.1 1 p = some (1048576 + w)) (h7 : C.1 7 = 0) : rKp (cA C 0 p (nI (C.1 6))) (dA M 0 (60 * M.1 4 + p) (nI (M.2.1 1 (M.1 4)))) h := by
  obtain ⟨k1, k2, k3, k4, k5, k6, k7, k9, k10, k11⟩ := hk
  refine ⟨k1, k2, k3, k4, k5, k6, k7, k9, fun i hi => ?_, k11⟩
  obtain ⟨w', hq⟩ := k10 i hi
  by_cases c : i = p
  · subst c
    have ew : w' = w := by
      have := hq.2.2.2.1
      rw [hr] at this
      simp at this
      omega
    subst ew
    refine ⟨w', hq.1, hq.2.1, hq.2.2.1, hq.2.2.2.1, hq.2.2.2.2.1, hq.2.2.2.2.2.1, hq.2.2.2.2.2.2.1, hq.2.2.2.2.2.2.2.1, hq.2.2.2.2.2.2.2.2.1, hq.2.2.2.2.2.2.2.2.2.1, fun q => by omega, fun q => by omega, fun _ _ _ => ⟨C.1 6, Nat.le_refl _, by rw [k7]; exact h7, ?_, ?_⟩, hq.nx, hq.nz⟩
    · show xu (C.2.2.1 0) i _ i = _
      simp [xu]
    · show xu (M.2.2.1 0) (60 * M.1 4 + i) _ (60 * M.1 4 + i) = _
      rw [k2]; simp [xu]
  · have e1 : (cA C 0 p (nI (C.1 6))).2.2.1 0 i = C.2.2.1 0 i := by
      show xu (C.2.2.1 0) p _ i = _
      simp only [xu]; rw [if_neg c]
    have e2 : (dA M 0 (60 * M.1 4 + p) (nI (M.2.1 1 (M.1 4)))).2.2.1 0 (60 * M.1 4 + i) = M.2.2.1 0 (60 * M.1 4 + i) := by
      show xu (M.2.2.1 0) (60 * M.1 4 + p) _ (60 * M.1 4 + i) = _
      simp only [xu]; rw [if_neg (by omega)]
    exact ⟨w', hq.1, hq.2.1, hq.2.2.1, hq.2.2.2.1, hq.2.2.2.2.1, hq.2.2.2.2.2.1, hq.2.2.2.2.2.2.1, hq.2.2.2.2.2.2.2.1, hq.2.2.2.2.2.2.2.2.1, hq.2.2.2.2.2.2.2.2.2.1, fun q => e1.trans ((hq.n37 q).trans e2.symm), fun q => by obtain ⟨e, a1, a2, a3⟩ := hq.n49 q; exact ⟨e, a1, e1.trans a2, e2.trans a3⟩, fun q1 q2 q3 => by obtain ⟨t, a1, a2, a3, a4⟩ := hq.jmp q1 q2 q3; exact ⟨t, a1, a2, e1.trans a3, e2.trans a4⟩, hq.nx, hq.nz⟩
end SA
