/-! the definition in work: alike -/
def rOq (nd : Nat) (C : xC) (M : xM) (h : Nat → Nat) (i w : Nat) : Prop :=
  w < 50 ∧ w ≠ 47 ∧ w ≠ 48 ∧ C.2.2.2.2.1 1 i = some (1048576 + w) ∧ M.2.1 2 (60 * nd + i) = rcd w ∧ C.2.1 1 i = M.2.1 3 (60 * nd + i) / 16 ∧ C.2.1 2 i = M.2.1 3 (60 * nd + i) % 16 ∧ C.2.1 1 i ≤ 3 ∧ C.2.1 2 i + (if i + 1 = C.1 6 then C.1 7 else 0) ≤ 7 ∧ C.2.1 1 i = xwT w - h i ∧
  (w = 37 → C.2.2.1 0 i = M.2.2.1 0 (60 * nd + i)) ∧
  (w = 49 → ∃ e, e ≤ nd ∧ C.2.2.1 0 i = nI e ∧ M.2.2.1 0 (60 * nd + i) = nI e) ∧
  (38 ≤ w → w ≤ 45 → w ≠ 41 → ∃ t, t ≤ C.1 6 ∧ h t = 0 ∧ C.2.2.1 0 i = nI t ∧ M.2.2.1 0 (60 * nd + i) = nI t) ∧
  (w < 38 → h (i + 1) + xwT w ≤ h i + C.2.1 1 i + xwL w) ∧ (38 ≤ w → h (i + 1) = 0)
/-- kinds of what is open -/
def rkd (w : Nat) : Nat := if w = 38 then 1 else if w = 42 then 2 else if w = 51 then 3 else if w = 40 then 4 else 5
def rOe (C : xC) (M : xM) (h : Nat → Nat) (k w : Nat) : Prop :=
  (w = 38 ∨ w = 42 ∨ w = 51 ∨ w = 40 ∨ w = 41) ∧ C.2.2.2.2.1 2 k = some (1048576 + w) ∧ M.2.1 4 k = rkd w ∧ C.2.1 3 k = M.2.1 5 k ∧ C.2.1 3 k ≤ C.1 6 ∧ ((w = 38 ∨ w = 42 ∨ w = 40) → C.2.1 3 k < C.1 6 ∧ C.2.2.2.2.1 1 (C.2.1 3 k) = some (1048576 + w)) ∧ ((w = 51 ∨ w = 41) → h (C.2.1 3 k) = 0) ∧ (w = 40 → 1 ≤ k ∧ C.2.2.2.2.1 2 (k - 1) = some (1048576 + 51))
def rKp (C : xC) (M : xM) (h : Nat → Nat) : Prop :=
  M.1 4 < 40 ∧ C.1 6 = M.2.1 1 (M.1 4) ∧ C.1 6 ≤ 60 ∧ C.1 7 = M.1 7 ∧ C.1 7 ≤ 3 ∧ h 0 = 0 ∧ h (C.1 6) = C.1 7 ∧ C.1 8 ≤ 8 ∧ (∀ i, i < C.1 6 → ∃ w, rOq (M.1 4) C M h i w) ∧ ∀ k, k < C.1 8 → ∃ w, rOe C M h k w
/-- what compiling leaves alone -/
def rhC (C C' : xC) : Prop := (∀ i, i < 5 ∨ 9 ≤ i → C'.1 i = C.1 i) ∧ (∀ k, k = 0 ∨ k = 4 → C'.2.1 k = C.2.1 k) ∧ (∀ k, k ≠ 0 → C'.2.2.1 k = C.2.2.1 k) ∧ (∀ k, k = 0 ∨ k = 3 → C'.2.2.2.2.1 k = C.2.2.2.2.1 k) ∧ C'.2.2.2.2.2 = C.2.2.2.2.2
def rhM (M M' : xM) : Prop := (∀ i, i ≠ 1 → i ≠ 6 → i ≠ 7 → i ≠ 8 → M'.1 i = M.1 i) ∧ (∀ k, k = 0 ∨ 6 ≤ k → M'.2.1 k = M.2.1 k) ∧ (∀ d, d < M.1 4 → M'.2.1 1 d = M.2.1 1 d) ∧ (∀ k, k = 2 ∨ k = 3 → ∀ j, j < 60 * M.1 4 → M'.2.1 k j = M.2.1 k j) ∧ (∀ k, k ≠ 0 → M'.2.2.1 k = M.2.2.1 k) ∧ (∀ j, j < 60 * M.1 4 → M'.2.2.1 0 j = M.2.2.1 0 j) ∧ (∀ d, d < M.1 4 → M'.2.2.2 d = M.2.2.2 d)
theorem rhC.rf (C : xC) : rhC C C := ⟨fun _ _ => rfl, fun _ _ => rfl, fun _ _ => rfl, fun _ _ => rfl, rfl⟩
theorem rhM.rf (M : xM) : rhM M M := ⟨fun _ _ _ _ _ => rfl, fun _ _ => rfl, fun _ _ => rfl, fun _ _ _ _ => rfl, fun _ _ => rfl, fun _ _ => rfl, fun _ _ => rfl⟩
theorem rhC.tr {A B C : xC} (h : rhC A B) (k : rhC B C) : rhC A C := ⟨fun i hi => (k.1 i hi).trans (h.1 i hi), fun i hi => (k.2.1 i hi).trans (h.2.1 i hi), fun i hi => (k.2.2.1 i hi).trans (h.2.2.1 i hi), fun i hi => (k.2.2.2.1 i hi).trans (h.2.2.2.1 i hi), k.2.2.2.2.trans h.2.2.2.2⟩
theorem rhM.tr {A B C : xM} (h : rhM A B) (k : rhM B C) : rhM A C := by
  have e : B.1 4 = A.1 4 := h.1 4 (by decide) (by decide) (by decide) (by decide)
  refine ⟨fun i a b c d => (k.1 i a b c d).trans (h.1 i a b c d), fun i hi => (k.2.1 i hi).trans (h.2.1 i hi), fun d hd => (k.2.2.1 d (by omega)).trans (h.2.2.1 d hd), fun q hq j hj => (k.2.2.2.1 q hq j (by omega)).trans (h.2.2.2.1 q hq j hj), fun i hi => (k.2.2.2.2.1 i hi).trans (h.2.2.2.2.1 i hi), fun j hj => (k.2.2.2.2.2.1 j (by omega)).trans (h.2.2.2.2.2.1 j hj), fun d hd => (k.2.2.2.2.2.2 d (by omega)).trans (h.2.2.2.2.2.2 d hd)⟩
section ROQ
variable {nd i w : Nat} {C : xC} {M : xM} {h : Nat → Nat}
theorem rOq.n37 (k : rOq nd C M h i w) : w = 37 → C.2.2.1 0 i = M.2.2.1 0 (60 * nd + i) := k.2.2.2.2.2.2.2.2.2.2.1
theorem rOq.n49 (k : rOq nd C M h i w) : w = 49 → ∃ e, e ≤ nd ∧ C.2.2.1 0 i = nI e ∧ M.2.2.1 0 (60 * nd + i) = nI e := k.2.2.2.2.2.2.2.2.2.2.2.1
theorem rOq.jmp (k : rOq nd C M h i w) : 38 ≤ w → w ≤ 45 → w ≠ 41 → ∃ t, t ≤ C.1 6 ∧ h t = 0 ∧ C.2.2.1 0 i = nI t ∧ M.2.2.1 0 (60 * nd + i) = nI t := k.2.2.2.2.2.2.2.2.2.2.2.2.1
theorem rOq.nx (k : rOq nd C M h i w) : w < 38 → h (i + 1) + xwT w ≤ h i + C.2.1 1 i + xwL w := k.2.2.2.2.2.2.2.2.2.2.2.2.2.1
theorem rOq.nz (k : rOq nd C M h i w) : 38 ≤ w → h (i + 1) = 0 := k.2.2.2.2.2.2.2.2.2.2.2.2.2.2
end ROQ
section RFL
variable {C : xC} {M : xM} {h : Nat → Nat}
theorem rCf_h (C : xC) : rhC C (rCf C) := by
  unfold rCf
  split
  · exact ⟨fun i hi => by simp only [cN, xu]; rw [if_neg (by omega)], fun _ _ => rfl, fun _ _ => rfl, fun _ _ => rfl, rfl⟩
  · exact ⟨fun i hi => by simp only [cN, cB, xu]; rw [if_neg (by omega)], fun k hk => by simp only [cN, cB, xu2]; rw [if_neg (by omega)], fun _ _ => rfl, fun _ _ => rfl, rfl⟩
theorem rMf_h (M : xM) : rhM M (rMf M) := by
  unfold rMf
  split
  · exact ⟨fun i a b c d => by simp only [dN, xu]; rw [if_neg (by omega)], fun _ _ => rfl, fun _ _ => rfl, fun _ _ _ _ => rfl, fun _ _ => rfl, fun _ _ => rfl, fun _ _ => rfl⟩
  · refine ⟨fun i a b c d => by simp only [dN, dB, xu]; rw [if_neg (by omega)], fun k hk => by simp only [dN, dB, xu2]; rw [if_neg (by omega)], fun _ _ => rfl, fun k hk j hj => ?_, fun _ _ => rfl, fun _ _ => rfl, fun _ _ => rfl⟩
    simp only [dN, dB, xu2]
    split
    · rename_i e; subst e; simp only [xu]; rw [if_neg (by omega)]
    · rfl
theorem rKp_fl (hk : rKp C M h) : rKp (rCf C) (rMf M) (xu h (C.1 6) 0) := by
  obtain ⟨k1, k2, k3, k4, k5, k6, k7, k9, k10, k11⟩ := hk
  have ec : (rCf C).1 6 = C.1 6 ∧ (rCf C).1 7 = 0 ∧ (rCf C).1 8 = C.1 8 ∧ (rCf C).2.1 1 = C.2.1 1 ∧ (rCf C).2.1 3 = C.2.1 3 ∧ (rCf C).2.2.1 = C.2.2.1 ∧ (rCf C).2.2.2.2.1 = C.2.2.2.2.1 := by unfold rCf; split <;> exact ⟨rfl, rfl, rfl, rfl, rfl, rfl, rfl⟩
  have em : (rMf M).1 4 = M.1 4 ∧ (rMf M).1 7 = 0 ∧ (rMf M).1 8 = M.1 8 ∧ (rMf M).2.1 1 = M.2.1 1 ∧ (rMf M).2.1 2 = M.2.1 2 ∧ (rMf M).2.1 4 = M.2.1 4 ∧ (rMf M).2.1 5 = M.2.1 5 ∧ (rMf M).2.2.1 = M.2.2.1 := by unfold rMf; split <;> exact ⟨rfl, rfl, rfl, rfl, rfl, rfl, rfl, rfl⟩
  obtain ⟨c6, c7, c8, cb1, cb3, ca, cr⟩ := ec
  obtain ⟨m4, m7, m8, mb1, mb2, mb4, mb5, ma⟩ := em
  have h0 : ∀ t, h t = 0 → xu h (C.1 6) 0 t = 0 := fun t ht => by simp only [xu]; split <;> first | rfl | exact ht
  refine ⟨by rw [m4]; exact k1, by rw [c6, m4, mb1]; exact k2, by rw [c6]; exact k3, by rw [c7, m7], by rw [c7]; decide, h0 0 k6, by rw [c6, c7]; simp [xu], by rw [c8]; exact k9, fun i hi => ?_, fun k hk => ?_⟩
  · rw [c6] at hi
    obtain ⟨w, hq⟩ := k10 i hi
    have o1 := hq.1
    have o2 := hq.2.1
    have o2b := hq.2.2.1
    have o3 := hq.2.2.2.1
    have o4 := hq.2.2.2.2.1
    have o5 := hq.2.2.2.2.2.1
    have o6 := hq.2.2.2.2.2.2.1
    have o7 := hq.2.2.2.2.2.2.2.1
    have o7b := hq.2.2.2.2.2.2.2.2.1
    have o8 := hq.2.2.2.2.2.2.2.2.2.1
    have hi0 : C.1 6 ≠ 0 := by omega
    have e2 : (rCf C).2.1 2 i = C.2.1 2 i + (if i + 1 = C.1 6 then C.1 7 else 0) := by
      unfold rCf
      rw [if_neg hi0]
      show xu (C.2.1 2) (C.1 6 - 1) _ i = _
      simp only [xu]
      by_cases c : i = C.1 6 - 1
      · rw [if_pos c, if_pos (by omega), ← c]
      · rw [if_neg c, if_neg (by omega)]; rfl
    have e3 : (rMf M).2.1 3 (60 * M.1 4 + i) = M.2.1 3 (60 * M.1 4 + i) + (if i + 1 = C.1 6 then C.1 7 else 0) := by
      unfold rMf
      rw [if_neg (by omega)]
      show xu (M.2.1 3) (60 * M.1 4 + M.2.1 1 (M.1 4) - 1) _ (60 * M.1 4 + i) = _
      simp only [xu]
      by_cases c : i = C.1 6 - 1
      · rw [if_pos (by omega), if_pos (by omega), k4, show 60 * M.1 4 + M.2.1 1 (M.1 4) - 1 = 60 * M.1 4 + i by omega]
      · rw [if_neg (by omega), if_neg (by omega)]; rfl
    refine ⟨w, o1, o2, o2b, by rw [cr]; exact o3, by rw [m4, mb2]; exact o4, by rw [cb1, m4, e3]; omega, by rw [e2, m4, e3]; omega, by rw [cb1]; exact o7, ?_, ?_, fun q => by rw [ca, ma, m4]; exact hq.n37 q, fun q => by rw [ca, ma, m4]; exact hq.n49 q, fun q1 q2 q3 => ?_, fun q => ?_, fun q => h0 _ (hq.nz q)⟩
    · rw [e2, c7, ite_self]; exact o7b
    · rw [cb1, o8]; simp only [xu]; rw [if_neg (by omega)]
    · obtain ⟨t, a1, a2, a3, a4⟩ := hq.jmp q1 q2 q3
      exact ⟨t, by rw [c6]; exact a1, h0 t a2, by rw [ca]; exact a3, by rw [ma, m4]; exact a4⟩
    · have := hq.nx q
      rw [cb1]
      simp only [xu]
      rw [if_neg (show ¬ i = C.1 6 by omega)]
      split <;> omega
  · rw [c8] at hk
    obtain ⟨w, p1, p2, p3, p4, p5, p6, p7, p8⟩ := k11 k hk
    exact ⟨w, p1, by rw [cr]; exact p2, by rw [mb4]; exact p3, by rw [cb3, mb5]; exact p4, by rw [cb3, c6]; exact p5, fun q => by rw [cb3, c6, cr]; exact p6 q, fun q => by rw [cb3]; exact h0 _ (p7 q), fun q => by rw [cr]; exact p8 q⟩
end RFL
