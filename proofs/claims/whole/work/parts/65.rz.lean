/-! add: both sides -/
section RAG
variable {C : xC} {M : xM} {h : Nat → Nat} {w : Nat} {n v : Int32} {Q : Nat → xC → Prop}
/-- what adding an operation leaves: all but the rows of operations, size and held -/
def rAd (w : Nat) (C : xC) (M : xM) (h : Nat → Nat) (C' : xC) (M' : xM) (h' : Nat → Nat) : Prop := rKp C' M' h' ∧ rhC C C' ∧ rhM M M' ∧ C'.1 5 = C.1 5 ∧ C'.2.2.2.1 = C.2.2.2.1 ∧ M'.1 1 = 0 ∧ M'.1 6 = M.1 6 ∧ M'.2.2.2 = M.2.2.2 ∧ C'.1 6 = C.1 6 + 1 ∧ C'.1 8 = C.1 8 ∧ C'.2.1 3 = C.2.1 3 ∧ C'.2.2.2.2.1 2 = C.2.2.2.2.1 2 ∧ M'.1 8 = M.1 8 ∧ M'.2.1 4 = M.2.1 4 ∧ M'.2.1 5 = M.2.1 5 ∧ (∀ t, t ≤ C.1 6 → h t = 0 → h' t = 0) ∧ (C'.2.2.2.2.1 1 (C.1 6) = some (1048576 + w) ∧ ∀ i, i < C.1 6 → C'.2.2.2.2.1 1 i = C.2.2.2.2.1 1 i) ∧ (38 ≤ w → C'.1 7 = 0)
theorem rMa_h (M : xM) (c : Nat) (v : Int32) (x y : Nat) : rhM M (rMa M c v x y) := by
  refine ⟨fun i a b e d => ?_, fun k hk => ?_, fun d hd => ?_, fun k hk j hj => ?_, fun k hk => ?_, fun j hj => ?_, fun _ _ => rfl⟩
  · simp only [rMa, dN, dB, dA, xu]; rw [if_neg (by omega)]
  · simp only [rMa, dN, dB, dA, xu2]; rw [if_neg (by omega), if_neg (by omega), if_neg (by omega)]
  · show xu (M.2.1 1) (M.1 4) _ d = _
    simp only [xu]; rw [if_neg (by omega)]
  · rcases hk with rfl | rfl
    · show xu (M.2.1 2) _ c j = _
      simp only [xu]; rw [if_neg (by omega)]
    · show xu (M.2.1 3) _ y j = _
      simp only [xu]; rw [if_neg (by omega)]
  · simp only [rMa, dN, dB, dA, xu2]; rw [if_neg hk]
  · show xu (M.2.2.1 0) _ v j = _
    simp only [xu]; rw [if_neg (by omega)]
theorem rCa_h (C : xC) (w : Nat) (n : Int32) (ld st x : Nat) : rhC C (rCa C w n ld st x) :=
  ⟨fun i hi => by simp only [rCa, cN, cB, cA, cR, xu]; rw [if_neg (by omega), if_neg (by omega)], fun k hk => by simp only [rCa, cN, cB, cA, cR, xu2]; rw [if_neg (by omega), if_neg (by omega)], fun k hk => by simp only [rCa, cN, cB, cA, cR, xu2]; rw [if_neg hk], fun k hk => by simp only [rCa, cN, cB, cA, cR, xu2]; rw [if_neg (by omega)], rfl⟩
theorem rCa_t (X : xC) (w : Nat) (n : Int32) (ld st x y : Nat) : cN (cB (rCa X w n ld st x) 2 (X.1 6) y) 7 0 = cN (cN (cB (cB (cA (cR X 1 (X.1 6) (some (1048576 + w))) 0 (X.1 6) n) 1 (X.1 6) ld) 2 (X.1 6) y) 7 0) 6 (X.1 6 + 1) := by
  simp only [rCa, cN, cB, cA, cR]
  congr 1
  · funext j
    simp only [xu]
    by_cases a : j = 7
    · subst a; simp
    · simp [a]
  · congr 1
    funext j
    simp only [xu2]
    by_cases a : j = 2
    · subst a
      simp only [if_true, xu_xu]
    · simp [a]
theorem rK6 : ∀ w, w < 50 → w ≠ 47 → (xwK w = 6 ↔ (rcd w = 45 ∨ rcd w = 47)) := by decide
theorem rK38 : ∀ w, w < 50 → w ≠ 47 → 38 ≤ w → xwK w = 6 ∨ (xwK w = 7 ∧ xwT w = 0 ∧ xwL w = 0) := by decide
set_option maxHeartbeats 1000000 in
theorem rad (hk : rKp C M h) (hb : M.1 1 = 0) (hw : w < 50) (hw7 : w ≠ 47) (hw8 : w ≠ 48) (hn : rNn C M h w n v)
    (hQ0 : C.1 6 = 60 → (∀ Q' : xM → Prop, Q' (dN M 1 2) → w_R_add (rcd w) v M Q') → Q 0 C)
    (hQ1 : ∀ C' M' h', rAd w C M h C' M' h' → (∀ Q' : xM → Prop, Q' M' → w_R_add (rcd w) v M Q') → Q 1 C') : w_C_add w n C Q := by
  have hk0 := hk
  obtain ⟨k1, k2, k3, k4, k5, k6, k7, k9, k10, k11⟩ := hk
  have aT : xwT w < 4 ∧ xwL w < 5 ∧ xwL w ≤ xwT w + 2 := (by decide : ∀ w, w < 50 → xwT w < 4 ∧ xwL w < 5 ∧ xwL w ≤ xwT w + 2) w hw
  obtain ⟨aT, aL, aD⟩ := aT
  refine raddC hw k3 k5 (fun q => hQ0 q fun Q' hq => raddM hw hw7 hb k1 (by omega) (by omega) (fun _ => hq) (fun z => by omega)) (fun hs ld st x e1 e2 e3 => ?_)
  -- the flushed states
  have hk1 : rKp (rC0w w C) (rM0w w M) (if xwK w = 7 then xu h (C.1 6) 0 else h) := by
    unfold rC0w rM0w
    split
    · exact rKp_fl hk0
    · exact hk0
  have hc : rhC C (rC0w w C) ∧ (rC0w w C).1 5 = C.1 5 ∧ (rC0w w C).2.2.2.1 = C.2.2.2.1 ∧ (rC0w w C).1 6 = C.1 6 ∧ (rC0w w C).1 8 = C.1 8 ∧ (rC0w w C).2.1 3 = C.2.1 3 ∧ (rC0w w C).2.2.2.2.1 2 = C.2.2.2.2.1 2 ∧ (rC0w w C).2.2.2.2.1 1 = C.2.2.2.2.1 1 ∧ (xwK w = 7 → (rC0w w C).1 7 = 0) := by
    unfold rC0w
    split
    · refine ⟨rCf_h C, ?_⟩
      unfold rCf
      split <;> exact ⟨rfl, rfl, rfl, rfl, rfl, rfl, rfl, fun _ => rfl⟩
    · exact ⟨rhC.rf C, rfl, rfl, rfl, rfl, rfl, rfl, rfl, fun z => absurd z (by assumption)⟩
  have hm : rhM M (rM0w w M) ∧ (rM0w w M).1 1 = M.1 1 ∧ (rM0w w M).1 6 = M.1 6 ∧ (rM0w w M).2.2.2 = M.2.2.2 ∧ (rM0w w M).1 8 = M.1 8 ∧ (rM0w w M).2.1 4 = M.2.1 4 ∧ (rM0w w M).2.1 5 = M.2.1 5 ∧ (rM0w w M).1 4 = M.1 4 := by
    unfold rM0w
    split
    · refine ⟨rMf_h M, ?_⟩
      unfold rMf
      split <;> exact ⟨rfl, rfl, rfl, rfl, rfl, rfl, rfl⟩
    · exact ⟨rhM.rf M, rfl, rfl, rfl, rfl, rfl, rfl, rfl⟩
  obtain ⟨c0, c5, cn, c6, c8, cb3, cr2, cr1, c7⟩ := hc
  obtain ⟨m0, m1, m6, mn, m8, mb4, mb5, m4⟩ := hm
  have hY : ∃ Y, rM0w w M = Y := ⟨_, rfl⟩
  obtain ⟨Y, hY⟩ := hY
  rw [hY] at hk1 m0 m1 m6 mn m8 mb4 mb5 m4
  generalize rC0w w C = X at *
  generalize hh : (if xwK w = 7 then xu h (C.1 6) 0 else h) = g at *
  have e7 : X.1 7 = Y.1 7 := hk1.2.2.2.1
  have l7 : X.1 7 ≤ 3 := hk1.2.2.2.2.1
  have hz0 : ∀ t, h t = 0 → g t = 0 := fun t ht => by
    rw [← hh]
    split
    · simp only [xu]; split <;> first | rfl | exact ht
    · exact ht
  have hn1 : rNn X Y g w n v := by
    refine ⟨hn.1, fun q => ?_, fun q1 q2 q3 => ?_⟩
    · rw [m4]; exact hn.2.1 q
    · obtain ⟨t, a1, a2, a3, a4⟩ := hn.2.2 q1 q2 q3
      exact ⟨t, by rw [c6]; exact a1, hz0 t a2, a3, a4⟩
  constructor
  · intro q6
    have hst : st + x = X.1 7 + ld - xwT w + xwL w := by omega
    have nb : ¬ (rcd w = 45 ∨ rcd w = 47) := fun z => q6 ((rK6 w hw hw7).mpr z)
    have hz : 38 ≤ w → x = 0 := fun z => by
      rcases rK38 w hw hw7 z with a | ⟨a, b, c⟩
      · exact absurd a q6
      · have := c7 a; omega
    refine hQ1 _ (rMa Y (rcd w) v x (16 * ld + st)) (xu g (X.1 6 + 1) x) ⟨rKp_ad hk1 hw hw7 hw8 (by omega) hn1 e1 hst (by omega) hz rfl rfl, c0.tr (rCa_h _ _ _ _ _ _), m0.tr (rMa_h _ _ _ _ _), c5, cn, m1.trans hb, m6, mn, (show X.1 6 + 1 = C.1 6 + 1 by omega), c8, cb3, cr2, m8, mb4, mb5, fun t ht h0 => ?_, ⟨?_, fun i hi => ?_⟩, hz⟩ (fun Q' hq => raddM hw hw7 hb k1 (by omega) (by omega) (fun z => by omega) (fun _ x' y' st' f1 f2 f3 => ?_))
    · simp only [xu]; rw [if_neg (by omega)]; exact hz0 t h0
    · show xu (X.2.2.2.2.1 1) (X.1 6) _ (C.1 6) = _
      rw [c6]; simp [xu]
    · show xu (X.2.2.2.2.1 1) (X.1 6) _ i = _
      simp only [xu]; rw [if_neg (by omega), cr1]
    · rw [hY] at f1 f2 f3 ⊢
      rw [if_neg nb] at f1
      have a : x' = x := by omega
      have b : y' = 16 * ld + st := by omega
      rw [a, b]
      exact hq
  · intro q6
    have yb : rcd w = 45 ∨ rcd w = 47 := (rK6 w hw hw7).mp q6
    have eC : cN (cB (rCa X w n ld st x) 2 (C.1 6) (st + x)) 7 0 = cN (cN (cB (cB (cA (cR X 1 (X.1 6) (some (1048576 + w))) 0 (X.1 6) n) 1 (X.1 6) ld) 2 (X.1 6) (st + x)) 7 0) 6 (X.1 6 + 1) := by
      rw [← c6]
      exact rCa_t X w n ld st x (st + x)
    refine hQ1 _ (rMa Y (rcd w) v 0 (16 * ld + (st + x))) (xu g (X.1 6 + 1) 0) ⟨rKp_ad (st := st + x) (x := 0) hk1 hw hw7 hw8 (by omega) hn1 e1 (by omega) (by decide) (fun _ => rfl) eC rfl, ?_, m0.tr (rMa_h _ _ _ _ _), c5, cn, m1.trans hb, m6, mn, (show X.1 6 + 1 = C.1 6 + 1 by omega), c8, cb3, cr2, m8, mb4, mb5, fun t ht h0 => ?_, ⟨?_, fun i hi => ?_⟩, fun _ => rfl⟩ (fun Q' hq => raddM hw hw7 hb k1 (by omega) (by omega) (fun z => by omega) (fun _ x' y' st' f1 f2 f3 => ?_))
    · exact (c0.tr (rCa_h _ _ _ _ _ _)).tr ⟨fun i hi => by simp only [cN, cB, xu]; rw [if_neg (by omega)], fun k hk => by simp only [cN, cB, xu2]; rw [if_neg (by omega)], fun _ _ => rfl, fun _ _ => rfl, rfl⟩
    · simp only [xu]; rw [if_neg (by omega)]; exact hz0 t h0
    · show xu (X.2.2.2.2.1 1) (X.1 6) _ (C.1 6) = _
      rw [c6]; simp [xu]
    · show xu (X.2.2.2.2.1 1) (X.1 6) _ i = _
      simp only [xu]; rw [if_neg (by omega), cr1]
    · rw [hY] at f1 f2 f3 ⊢
      rw [if_pos yb] at f1
      have a : x' = 0 := by omega
      have b : y' = 16 * ld + (st + x) := by omega
      rw [a, b]
      exact hq
end RAG
