/-! an operation is added: alike -/
section RAF
variable {C : xC} {M : xM} {h : Nat → Nat} {w : Nat} {n v : Int32}
/-- the numbers that go with a word -/
def rNn (C : xC) (M : xM) (h : Nat → Nat) (w : Nat) (n v : Int32) : Prop := (w = 37 → n = v) ∧ (w = 49 → ∃ e, e ≤ M.1 4 ∧ n = nI e ∧ v = nI e) ∧ (38 ≤ w → w ≤ 45 → w ≠ 41 → ∃ t, t ≤ C.1 6 ∧ h t = 0 ∧ n = nI t ∧ v = nI t)
/-- from a state that is flushed where it must be -/
theorem rKp_ad {C' : xC} {M' : xM} {ld st x : Nat} (hk : rKp C M h) (hw : w < 50) (hw7 : w ≠ 47) (hw8 : w ≠ 48) (hs : C.1 6 < 60) (hn : rNn C M h w n v) (e1 : ld = xwT w - C.1 7) (hst : st + x = C.1 7 + ld - xwT w + xwL w) (hx : x ≤ 3) (hz : 38 ≤ w → x = 0)
    (eC : C' = cN (cN (cB (cB (cA (cR C 1 (C.1 6) (some (1048576 + w))) 0 (C.1 6) n) 1 (C.1 6) ld) 2 (C.1 6) st) 7 x) 6 (C.1 6 + 1)) (eM : M' = rMa M (rcd w) v x (16 * ld + st)) : rKp C' M' (xu h (C.1 6 + 1) x) := by
  have aT : xwT w < 4 ∧ xwL w < 5 ∧ xwL w ≤ xwT w + 2 := (by decide : ∀ w, w < 50 → xwT w < 4 ∧ xwL w < 5 ∧ xwL w ≤ xwT w + 2) w hw
  obtain ⟨aT, aL, aD⟩ := aT
  obtain ⟨k1, k2, k3, k4, k5, k6, k7, k9, k10, k11⟩ := hk
  subst eC eM
  have h0 : ∀ t, t ≤ C.1 6 → xu h (C.1 6 + 1) x t = h t := fun t ht => by simp only [xu]; rw [if_neg (by omega)]
  refine ⟨k1, ?_, ?_, rfl, hx, (h0 0 (by omega)).trans k6, ?_, k9, fun i hi => ?_, fun k hk => ?_⟩
  · show C.1 6 + 1 = xu (M.2.1 1) (M.1 4) (M.2.1 1 (M.1 4) + 1) (M.1 4)
    simp [xu]; omega
  · show C.1 6 + 1 ≤ 60; omega
  · show xu h (C.1 6 + 1) x (C.1 6 + 1) = x
    simp [xu]
  · have hi : i < C.1 6 + 1 := hi
    by_cases hlast : i = C.1 6
    · subst hlast
      refine ⟨w, hw, hw7, hw8, ?_, ?_, ?_, ?_, ?_, ?_, ?_, fun q => ?_, fun q => ?_, fun q1 q2 q3 => ?_, fun q => ?_, fun q => ?_⟩
      · show xu (C.2.2.2.2.1 1) (C.1 6) _ (C.1 6) = _
        simp [xu]
      · show xu (M.2.1 2) (60 * M.1 4 + M.2.1 1 (M.1 4)) (rcd w) (60 * M.1 4 + C.1 6) = _
        rw [k2]; simp [xu]
      · show xu (C.2.1 1) (C.1 6) ld (C.1 6) = xu (M.2.1 3) (60 * M.1 4 + M.2.1 1 (M.1 4)) (16 * ld + st) (60 * M.1 4 + C.1 6) / 16
        rw [k2]; simp [xu]; omega
      · show xu (C.2.1 2) (C.1 6) st (C.1 6) = xu (M.2.1 3) (60 * M.1 4 + M.2.1 1 (M.1 4)) (16 * ld + st) (60 * M.1 4 + C.1 6) % 16
        rw [k2]; simp [xu]; omega
      · show xu (C.2.1 1) (C.1 6) ld (C.1 6) ≤ 3
        simp [xu]; omega
      · show xu (C.2.1 2) (C.1 6) st (C.1 6) + (if C.1 6 + 1 = C.1 6 + 1 then x else 0) ≤ 7
        simp [xu]; omega
      · show xu (C.2.1 1) (C.1 6) ld (C.1 6) = xwT w - xu h (C.1 6 + 1) x (C.1 6)
        rw [h0 _ (Nat.le_refl _), k7]; simp [xu]; omega
      · show xu (C.2.2.1 0) (C.1 6) n (C.1 6) = xu (M.2.2.1 0) (60 * M.1 4 + M.2.1 1 (M.1 4)) v (60 * M.1 4 + C.1 6)
        rw [k2]; simp [xu]; exact hn.1 q
      · obtain ⟨e, e1, e2, e3⟩ := hn.2.1 q
        refine ⟨e, e1, ?_, ?_⟩
        · show xu (C.2.2.1 0) (C.1 6) n (C.1 6) = _
          simp [xu]; exact e2
        · show xu (M.2.2.1 0) (60 * M.1 4 + M.2.1 1 (M.1 4)) v (60 * M.1 4 + C.1 6) = _
          rw [k2]; simp [xu]; exact e3
      · obtain ⟨t, e1, e2, e3, e4⟩ := hn.2.2 q1 q2 q3
        refine ⟨t, (show t ≤ C.1 6 + 1 by omega), (h0 t e1).trans e2, ?_, ?_⟩
        · show xu (C.2.2.1 0) (C.1 6) n (C.1 6) = _
          simp [xu]; exact e3
        · show xu (M.2.2.1 0) (60 * M.1 4 + M.2.1 1 (M.1 4)) v (60 * M.1 4 + C.1 6) = _
          rw [k2]; simp [xu]; exact e4
      · show xu h (C.1 6 + 1) x (C.1 6 + 1) + xwT w ≤ xu h (C.1 6 + 1) x (C.1 6) + xu (C.2.1 1) (C.1 6) ld (C.1 6) + xwL w
        rw [h0 _ (Nat.le_refl _), k7]; simp [xu]; omega
      · show xu h (C.1 6 + 1) x (C.1 6 + 1) = 0
        simp [xu]; exact hz q
    · obtain ⟨w', hq⟩ := k10 i (by omega)
      have ne : ¬ 60 * M.1 4 + i = 60 * M.1 4 + M.2.1 1 (M.1 4) := by omega
      have o7b := hq.2.2.2.2.2.2.2.2.1
      have o7c : C.2.1 2 i ≤ 7 := by omega
      refine ⟨w', hq.1, hq.2.1, hq.2.2.1, ?_, ?_, ?_, ?_, ?_, ?_, ?_, fun q => ?_, fun q => ?_, fun q1 q2 q3 => ?_, fun q => ?_, fun q => ?_⟩
      · show xu (C.2.2.2.2.1 1) (C.1 6) _ i = _
        simp only [xu]; rw [if_neg hlast]; exact hq.2.2.2.1
      · show xu (M.2.1 2) (60 * M.1 4 + M.2.1 1 (M.1 4)) (rcd w) (60 * M.1 4 + i) = _
        simp only [xu]; rw [if_neg ne]; exact hq.2.2.2.2.1
      · show xu (C.2.1 1) (C.1 6) ld i = xu (M.2.1 3) (60 * M.1 4 + M.2.1 1 (M.1 4)) (16 * ld + st) (60 * M.1 4 + i) / 16
        simp only [xu]; rw [if_neg hlast, if_neg ne]; exact hq.2.2.2.2.2.1
      · show xu (C.2.1 2) (C.1 6) st i = xu (M.2.1 3) (60 * M.1 4 + M.2.1 1 (M.1 4)) (16 * ld + st) (60 * M.1 4 + i) % 16
        simp only [xu]; rw [if_neg hlast, if_neg ne]; exact hq.2.2.2.2.2.2.1
      · show xu (C.2.1 1) (C.1 6) ld i ≤ 3
        simp only [xu]; rw [if_neg hlast]; exact hq.2.2.2.2.2.2.2.1
      · show xu (C.2.1 2) (C.1 6) st i + (if i + 1 = C.1 6 + 1 then x else 0) ≤ 7
        simp only [xu]; rw [if_neg hlast, if_neg (by omega)]; exact o7c
      · show xu (C.2.1 1) (C.1 6) ld i = xwT w' - xu h (C.1 6 + 1) x i
        rw [h0 i (by omega)]; simp only [xu]; rw [if_neg hlast]; exact hq.2.2.2.2.2.2.2.2.2.1
      · show xu (C.2.2.1 0) (C.1 6) n i = xu (M.2.2.1 0) (60 * M.1 4 + M.2.1 1 (M.1 4)) v (60 * M.1 4 + i)
        simp only [xu]; rw [if_neg hlast, if_neg ne]; exact hq.n37 q
      · obtain ⟨e, e1, e2, e3⟩ := hq.n49 q
        refine ⟨e, e1, ?_, ?_⟩
        · show xu (C.2.2.1 0) (C.1 6) n i = _
          simp only [xu]; rw [if_neg hlast]; exact e2
        · show xu (M.2.2.1 0) (60 * M.1 4 + M.2.1 1 (M.1 4)) v (60 * M.1 4 + i) = _
          simp only [xu]; rw [if_neg ne]; exact e3
      · obtain ⟨t, e1, e2, e3, e4⟩ := hq.jmp q1 q2 q3
        refine ⟨t, (show t ≤ C.1 6 + 1 by omega), (h0 t e1).trans e2, ?_, ?_⟩
        · show xu (C.2.2.1 0) (C.1 6) n i = _
          simp only [xu]; rw [if_neg hlast]; exact e3
        · show xu (M.2.2.1 0) (60 * M.1 4 + M.2.1 1 (M.1 4)) v (60 * M.1 4 + i) = _
          simp only [xu]; rw [if_neg ne]; exact e4
      · show xu h (C.1 6 + 1) x (i + 1) + xwT w' ≤ xu h (C.1 6 + 1) x i + xu (C.2.1 1) (C.1 6) ld i + xwL w'
        rw [h0 i (by omega), h0 (i + 1) (by omega)]; simp only [xu]; rw [if_neg hlast]; exact hq.nx q
      · show xu h (C.1 6 + 1) x (i + 1) = 0
        rw [h0 (i + 1) (by omega)]; exact hq.nz q
  · obtain ⟨w', p1, p2, p3, p4, p5, p6, p7, p8⟩ := k11 k hk
    exact ⟨w', p1, p2, p3, p4, (show C.2.1 3 k ≤ C.1 6 + 1 by omega), fun q => ⟨(show C.2.1 3 k < C.1 6 + 1 from Nat.lt_succ_of_lt (p6 q).1), by
      show xu (C.2.2.2.2.1 1) (C.1 6) _ (C.2.1 3 k) = _
      simp only [xu]
      rw [if_neg (Nat.ne_of_lt (p6 q).1)]
      exact (p6 q).2⟩, fun q => (h0 _ p5).trans (p7 q), p8⟩
end RAF
