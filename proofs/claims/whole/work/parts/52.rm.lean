/-! operations that control, further -/
section RV
variable {C : xC} {M : xM} {H : Nat → Nat → Nat} {K : Nat → xC → Prop} {a w y : Nat} {D : xDf} {n : Int32}
theorem rm3_b (M : xM) (y b : Nat) : rgM M (dN (rM3 M y) 1 b) := (rM3_g M y).tr ⟨fun i hi => by simp only [dN, xu]; rw [if_neg (by omega)], fun _ _ => rfl, rfl, rfl⟩
/-- IF, UNTIL, WHILE -/
theorem rst_b (hw : w = 38 ∨ w = 39 ∨ w = 40) (hA : rA H C M a D w y) (hK : ∀ f C', (∀ Q' : xM → Prop, (∀ M', rZ H C M C' f M' → Q' M') → w_R_operate M Q') → K f C') : w_M_perform w (D.2.2.2.1 (M.2.1 7 (M.1 15 - 1))) (rC3 C y) (rKK a D (M.2.1 7 (M.1 15 - 1)) K) := by
  have hA0 := hA
  obtain ⟨hS, hW, hCt, hF, hb, hd, hst, ha, hD, hsz, hp, hdn, hop, ep, hopr⟩ := hA
  obtain ⟨s1, s2, s3, s4, s5, s6⟩ := id hS
  have f2 := hF.2.1
  have f1 := hF.1
  have e : xwT w = 1 ∧ xwL w = 0 ∧ xwK w = 6 ∧ rcd w = 45 := by rcases hw with h | h | h <;> subst h <;> decide
  obtain ⟨eT, eL, eK, eC⟩ := e
  obtain ⟨t, j1, j2, j3, j4⟩ := hop.jmp (by omega) (by omega) (by omega)
  have hk : 60 * M.2.1 6 (M.1 15 - 1) + M.2.1 7 (M.1 15 - 1) < 2460 := by have := hD.2.2.1; omega
  have hlast : M.2.1 7 (M.1 15 - 1) + 1 < D.2.1 := by
    rcases Nat.lt_or_ge (M.2.1 7 (M.1 15 - 1) + 1) D.2.1 with h | h
    · exact h
    · have := hop.las (by omega); omega
  have hn := (hop.nxt hlast).2 (by omega)
  refine rpfC (by omega) (show C.1 9 ≤ 24 by omega) (fun q => ?_) (fun _ q => ?_) (fun c1 _ => ⟨fun q => by omega, fun q => by omega, fun q => by omega, fun q => by omega, fun q => by omega, fun q => by omega, fun _ => ?_⟩)
  · have q : C.1 9 < xwT w := q
    exact rkf (M4 := dN (rM3 M y) 1 3) hA0 hK hW (rC3_g C y) rfl rfl rfl (rm3_b M y 3) rfl rfl rfl (Nat.le_succ _) rfl ⟨f2, show C.1 11 ≤ 12 by omega⟩ (fun Q' h => hopr Q' (rgo_few (M := rM2 M y) (by omega) (by omega) (by omega) (by omega) hb hd f2 s2 (show M.1 9 < xwT w by omega) h))
  · have q : 24 < C.1 9 - xwT w + xwL w := q
    omega
  have c1 : xwT w ≤ C.1 9 := c1
  have t1 : C.2.2.1 1 (C.1 9 - 1) = M.2.2.1 1 (M.1 9 - 1) := by rw [s1]; exact s3 _ (by omega)
  have hS4 : ∀ (Ca : xC) (Ma : xM), Ca.1 9 = C.1 9 - 1 → Ca.1 10 = C.1 10 → Ca.2.2.1 = C.2.2.1 → Ma.1 9 = M.1 9 - 1 → Ma.1 10 = M.1 10 → Ma.2.2.1 = M.2.2.1 → rS Ca Ma := fun Ca Ma e1 e2 e3 e4 e5 e6 => by
    refine ⟨by omega, by omega, fun i hi => ?_, by omega, by omega, fun i hi => ?_⟩
    · rw [e3, e6]; exact s3 i (by omega)
    · rw [e3, e6]; exact s6 i (by omega)
  have hgo : ∀ Q' : xM → Prop, w_R_goes (rcd w) (M.2.2.1 0 (60 * M.2.1 6 (M.1 15 - 1) + M.2.1 7 (M.1 15 - 1))) (rM3 M y) (fun M8 => w_R_operate_216 (M.2.1 6 (M.1 15 - 1)) (60 * M.2.1 6 (M.1 15 - 1) + M.2.1 7 (M.1 15 - 1)) (rcd w) M8 Q') → w_R_operate M Q' := fun Q' h => hopr Q' (rgo_ok (M := rM2 M y) (by omega) (by omega) (by omega) (by omega) hb hd f2 s2 hk (show xwT w ≤ M.1 9 by omega) (fun Q' h => rft0 (by omega) (by omega) hb s2 h) h)
  refine rct_br hw ⟨(show 1 ≤ C.1 9 by omega), (show C.1 9 - 1 < 24 by omega), fun z => ⟨t, j3, (show 1 ≤ C.1 11 by omega), (show C.1 11 - 1 < 12 by omega), ?_⟩, fun z => ?_⟩
  · have z : C.2.2.1 1 (C.1 9 - 1) = 0 := z
    refine rkk (t := t) (M4 := dB (dN (rM3 M y) 9 (M.1 9 - 1)) 7 (M.1 15 - 1) t) hA0 (by omega) (by omega) hK (hS4 _ _ rfl rfl rfl rfl rfl rfl) hW ((rC3_g C y).tr ⟨fun i hi => by simp only [cB, cN, xu]; rw [if_neg (by omega)], fun k hk => by simp only [cB, cN, xu2]; rw [if_neg hk], rfl, rfl, fun _ _ => rfl, rfl⟩) rfl rfl rfl rfl rfl ?_ ((rM3_g M y).tr ⟨fun i hi => by simp only [dB, dN, xu]; rw [if_neg (by omega)], fun k hk => by simp only [dB, dN, xu2]; rw [if_neg (by omega)], rfl, rfl⟩) rfl rfl rfl rfl (Nat.le_succ _) hb rfl ?_ j1 (by rw [j2]; exact Nat.zero_le _) (fun Q' h => hgo Q' ?_)
    · show xu ((rC3 C y).2.1 4) (C.1 11 - 1) t = _
      rw [hA0.C3, f1, xu_xu]
    · show xu (xu (M.2.1 7) (M.1 15 - 1) (M.2.1 7 (M.1 15 - 1) + 1)) (M.1 15 - 1) t = _
      rw [xu_xu]
    · unfold w_R_goes
      exact ⟨by omega, fun q => by omega, fun _ => ⟨by omega, fun _ => ⟨(show 1 ≤ M.1 9 by omega), (show M.1 9 - 1 < 32 by omega), fun _ => ⟨hd, t, j4, (show M.1 15 - 1 < 13 by omega), h⟩, fun q => absurd (t1.symm.trans z) q⟩, fun q => absurd eC q⟩⟩
  · have z : ¬ C.2.2.1 1 (C.1 9 - 1) = 0 := z
    refine rkk (t := M.2.1 7 (M.1 15 - 1) + 1) (M4 := dN (rM3 M y) 9 (M.1 9 - 1)) hA0 (by omega) (by omega) hK (hS4 _ _ rfl rfl rfl rfl rfl rfl) hW ((rC3_g C y).tr ⟨fun i hi => by simp only [cN, xu]; rw [if_neg (by omega)], fun _ _ => rfl, rfl, rfl, fun _ _ => rfl, rfl⟩) rfl rfl rfl rfl rfl hA0.C3 ((rM3_g M y).tr ⟨fun i hi => by simp only [dN, xu]; rw [if_neg (by omega)], fun _ _ => rfl, rfl, rfl⟩) rfl rfl rfl rfl (Nat.le_succ _) hb rfl rfl hlast (by rw [hn]; exact Nat.zero_le _) (fun Q' h => hgo Q' ?_)
    unfold w_R_goes
    exact ⟨by omega, fun q => by omega, fun _ => ⟨by omega, fun _ => ⟨(show 1 ≤ M.1 9 by omega), (show M.1 9 - 1 < 32 by omega), fun q => absurd (t1.trans q) z, fun _ => h⟩, fun q => absurd eC q⟩⟩
/-- DO -/
theorem rst_d (hA : rA H C M a D 41 y) (hK : ∀ f C', (∀ Q' : xM → Prop, (∀ M', rZ H C M C' f M' → Q' M') → w_R_operate M Q') → K f C') : w_M_perform 41 (D.2.2.2.1 (M.2.1 7 (M.1 15 - 1))) (rC3 C y) (rKK a D (M.2.1 7 (M.1 15 - 1)) K) := by
  have hA0 := hA
  obtain ⟨hS, hW, hCt, hF, hb, hd, hst, ha, hD, hsz, hp, hdn, hop, ep, hopr⟩ := hA
  obtain ⟨s1, s2, s3, s4, s5, s6⟩ := id hS
  have f2 := hF.2.1
  have f1 := hF.1
  have eT : xwT 41 = 2 := rfl
  have eL : xwL 41 = 0 := rfl
  have hk : 60 * M.2.1 6 (M.1 15 - 1) + M.2.1 7 (M.1 15 - 1) < 2460 := by have := hD.2.2.1; omega
  have hlast : M.2.1 7 (M.1 15 - 1) + 1 < D.2.1 := by
    rcases Nat.lt_or_ge (M.2.1 7 (M.1 15 - 1) + 1) D.2.1 with h | h
    · exact h
    · have := hop.las (by omega); omega
  have hn := (hop.nxt hlast).2 (by omega)
  refine rpfC (by decide) (show C.1 9 ≤ 24 by omega) (fun q => ?_) (fun _ q => ?_) (fun c1 _ => ⟨fun q => absurd q (by decide), fun q => absurd q (by decide), fun q => absurd q (by decide), fun q => absurd q (by decide), fun q => absurd q (by decide), fun q => absurd q (by decide), fun _ => ?_⟩)
  · have q : C.1 9 < xwT 41 := q
    exact rkf (M4 := dN (rM3 M y) 1 3) hA0 hK hW (rC3_g C y) rfl rfl rfl (rm3_b M y 3) rfl rfl rfl (Nat.le_succ _) rfl ⟨f2, show C.1 11 ≤ 12 by omega⟩ (fun Q' h => hopr Q' (rgo_few (M := rM2 M y) (by decide) (by decide) (by decide) (by decide) hb hd f2 s2 (show M.1 9 < xwT 41 by omega) h))
  · have q : 24 < C.1 9 - xwT 41 + xwL 41 := q
    omega
  have c1 : xwT 41 ≤ C.1 9 := c1
  have t1 : C.2.2.1 1 (C.1 9 - 1) = M.2.2.1 1 (M.1 9 - 1) := by rw [s1]; exact s3 _ (by omega)
  have t2 : C.2.2.1 1 (C.1 9 - 1 - 1) = M.2.2.1 1 (M.1 9 - 1 - 1) := by rw [s1]; exact s3 _ (by omega)
  refine rct_do ?_
  unfold w_M_beginLoop w_S_hasRoom_1
  refine ⟨(show C.1 10 + 2 < 2147483648 by omega), by decide, fun q => ⟨by decide, fun _ => ?_, fun q => absurd rfl q⟩, fun q => ⟨by decide, fun q => absurd q (by decide), fun _ => ?_⟩⟩
  · have q : 24 + 0 < C.1 10 + 2 := q
    exact rkf (M4 := dN (rM3 M y) 1 3) hA0 hK hW (rC3_g C y) rfl rfl rfl (rm3_b M y 3) rfl rfl rfl (Nat.le_succ _) rfl ⟨f2, show C.1 11 ≤ 12 by omega⟩ (fun Q' h => hopr Q' (rgo_no (w := 41) (M := rM2 M y) (by decide) (by decide) (by decide) (by decide) hb hd f2 s2 (show xwT 41 ≤ M.1 9 by omega) (fun Q' h => rft47 hb s2 s5 (fun z => absurd z (show ¬ M.1 10 ≤ 22 by omega)) (fun _ => h)) h))
  · have q : ¬ 24 + 0 < C.1 10 + 2 := q
    refine ⟨(show 1 ≤ C.1 9 by omega), (show C.1 9 - 1 < 24 by omega), (show 1 ≤ C.1 9 - 1 by omega), (show C.1 9 - 1 - 1 < 24 by omega), (show C.1 10 < 24 by omega), (show C.1 10 + 1 < 24 by omega), ?_⟩
    refine rkk (t := M.2.1 7 (M.1 15 - 1) + 1) (M4 := dN (dA (dA (dN (dN (rM3 M y) 9 (M.1 9 - 1)) 9 (M.1 9 - 1 - 1)) 2 (M.1 10) (M.2.2.1 1 (M.1 9 - 1 - 1))) 2 (M.1 10 + 1) (M.2.2.1 1 (M.1 9 - 1))) 10 (M.1 10 + 2)) hA0 (by decide) (by decide) hK ⟨?_, ?_, fun i hi => ?_, ?_, ?_, fun i hi => ?_⟩ hW ((rC3_g C y).tr ⟨fun i hi => by simp only [cN, cA, xu]; rw [if_neg (by omega), if_neg (by omega), if_neg (by omega), if_neg (by omega)], fun _ _ => rfl, rfl, rfl, fun _ _ => rfl, rfl⟩) rfl rfl rfl rfl rfl hA0.C3 ((rM3_g M y).tr ⟨fun i hi => by simp only [dN, dA, xu]; rw [if_neg (by omega), if_neg (by omega), if_neg (by omega)], fun _ _ => rfl, rfl, rfl⟩) rfl rfl rfl rfl (Nat.le_succ _) hb rfl rfl hlast (by rw [hn]; exact Nat.zero_le _) (fun Q' h => hopr Q' (rgo_ok (w := 41) (M := rM2 M y) (by decide) (by decide) (by decide) (by decide) hb hd f2 s2 hk (show xwT 41 ≤ M.1 9 by omega) (fun Q' h => rft47 hb s2 s5 (fun _ => h) (fun z => absurd z (show ¬ 22 < M.1 10 by omega))) ?_))
    · show C.1 9 - 1 - 1 = M.1 9 - 1 - 1; omega
    · show M.1 9 - 1 - 1 ≤ 24; omega
    · have hi : i < M.1 9 - 1 - 1 := hi
      exact s3 i (by omega)
    · show C.1 10 + 1 + 1 = M.1 10 + 2; omega
    · show M.1 10 + 2 ≤ 24; omega
    · have hi : i < M.1 10 + 2 := hi
      show xu (xu (C.2.2.1 2) (C.1 10) (C.2.2.1 1 (C.1 9 - 1 - 1))) (C.1 10 + 1) (C.2.2.1 1 (C.1 9 - 1)) i = xu (xu (M.2.2.1 2) (M.1 10) (M.2.2.1 1 (M.1 9 - 1 - 1))) (M.1 10 + 1) (M.2.2.1 1 (M.1 9 - 1)) i
      rw [t1, t2, s4]
      unfold xu
      split
      · rfl
      · split
        · rfl
        · exact s6 i (by omega)
    · unfold w_R_goes
      exact ⟨by decide, fun q => absurd q (by decide), fun _ => ⟨by decide, fun q => absurd q (by decide), fun _ => ⟨by decide, fun _ => ⟨(show 1 ≤ M.1 9 by omega), (show M.1 9 - 1 < 32 by omega), (show 1 ≤ M.1 9 - 1 by omega), (show M.1 9 - 1 - 1 < 32 by omega), (show M.1 10 < 24 by omega), (show M.1 10 + 1 < 24 by omega), h⟩, fun q => absurd rfl q⟩⟩⟩
/-- LOOP -/
theorem rst_l (hA : rA H C M a D 45 y) (hK : ∀ f C', (∀ Q' : xM → Prop, (∀ M', rZ H C M C' f M' → Q' M') → w_R_operate M Q') → K f C') : w_M_perform 45 (D.2.2.2.1 (M.2.1 7 (M.1 15 - 1))) (rC3 C y) (rKK a D (M.2.1 7 (M.1 15 - 1)) K) := by
  have hA0 := hA
  obtain ⟨hS, hW, hCt, hF, hb, hd, hst, ha, hD, hsz, hp, hdn, hop, ep, hopr⟩ := hA
  obtain ⟨s1, s2, s3, s4, s5, s6⟩ := id hS
  have f2 := hF.2.1
  have f1 := hF.1
  have eT : xwT 45 = 0 := rfl
  have eL : xwL 45 = 0 := rfl
  obtain ⟨t, j1, j2, j3, j4⟩ := hop.jmp (by decide) (by decide) (by decide)
  have hk : 60 * M.2.1 6 (M.1 15 - 1) + M.2.1 7 (M.1 15 - 1) < 2460 := by have := hD.2.2.1; omega
  have hlast : M.2.1 7 (M.1 15 - 1) + 1 < D.2.1 := by
    rcases Nat.lt_or_ge (M.2.1 7 (M.1 15 - 1) + 1) D.2.1 with h | h
    · exact h
    · have := hop.las (by omega); omega
  have hn := (hop.nxt hlast).2 (by omega)
  refine rpfC (by decide) (show C.1 9 ≤ 24 by omega) (fun q => by omega) (fun _ q => ?_) (fun c1 _ => ⟨fun q => absurd q (by decide), fun q => absurd q (by decide), fun q => absurd q (by decide), fun q => absurd q (by decide), fun q => absurd q (by decide), fun q => absurd q (by decide), fun _ => ?_⟩)
  · have q : 24 < C.1 9 - xwT 45 + xwL 45 := q
    omega
  refine rct_lp ⟨t, j3, ?_⟩
  unfold w_M_endLoop
  refine ⟨(show C.1 10 < 2147483648 by omega), fun q => ?_, fun q => ?_⟩
  · have q : 2 ≤ C.1 10 := q
    have r1 : C.2.2.1 2 (C.1 10 - 1) = M.2.2.1 2 (M.1 10 - 1) := by rw [s4]; exact s6 _ (by omega)
    have r2 : C.2.2.1 2 (C.1 10 - 1 - (1 + 0)) = M.2.2.1 2 (M.1 10 - 2) := by rw [s4]; exact s6 _ (by omega)
    have hgo : ∀ Q' : xM → Prop, w_R_goes 48 (M.2.2.1 0 (60 * M.2.1 6 (M.1 15 - 1) + M.2.1 7 (M.1 15 - 1))) (rM3 M y) (fun M8 => w_R_operate_216 (M.2.1 6 (M.1 15 - 1)) (60 * M.2.1 6 (M.1 15 - 1) + M.2.1 7 (M.1 15 - 1)) 48 M8 Q') → w_R_operate M Q' := fun Q' h => hopr Q' (rgo_ok (w := 45) (M := rM2 M y) (by decide) (by decide) (by decide) (by decide) hb hd f2 s2 hk (show xwT 45 ≤ M.1 9 by omega) (fun Q' h => rft48 hb s2 s5 (fun _ => h) (fun z => absurd z (show ¬ M.1 10 < 2 by omega))) h)
    have m1 : (dA (rM3 M y) 2 (M.1 10 - 1) (M.2.2.1 2 (M.1 10 - 1) + nI 1)).2.2.1 2 (M.1 10 - 1) = M.2.2.1 2 (M.1 10 - 1) + nI 1 := by
      show xu (M.2.2.1 2) (M.1 10 - 1) _ (M.1 10 - 1) = _
      simp [xu]
    have m2 : (dA (rM3 M y) 2 (M.1 10 - 1) (M.2.2.1 2 (M.1 10 - 1) + nI 1)).2.2.1 2 (M.1 10 - 2) = M.2.2.1 2 (M.1 10 - 2) := by
      show xu (M.2.2.1 2) (M.1 10 - 1) _ (M.1 10 - 2) = _
      simp only [xu]; rw [if_neg (by omega)]
    have hgo2 : ∀ Q' : xM → Prop, (M.2.2.1 2 (M.1 10 - 1) + nI 1 = M.2.2.1 2 (M.1 10 - 2) → w_R_operate_216 (M.2.1 6 (M.1 15 - 1)) (60 * M.2.1 6 (M.1 15 - 1) + M.2.1 7 (M.1 15 - 1)) 48 (dN (dA (rM3 M y) 2 (M.1 10 - 1) (M.2.2.1 2 (M.1 10 - 1) + nI 1)) 10 (M.1 10 - 2)) Q') → (¬ M.2.2.1 2 (M.1 10 - 1) + nI 1 = M.2.2.1 2 (M.1 10 - 2) → w_R_operate_216 (M.2.1 6 (M.1 15 - 1)) (60 * M.2.1 6 (M.1 15 - 1) + M.2.1 7 (M.1 15 - 1)) 48 (dB (dA (rM3 M y) 2 (M.1 10 - 1) (M.2.2.1 2 (M.1 10 - 1) + nI 1)) 7 (M.1 15 - 1) t) Q') → w_R_operate M Q' := fun Q' h1 h2 => hgo Q' (by
      unfold w_R_goes
      refine ⟨by decide, fun q => absurd q (by decide), fun _ => ⟨by decide, fun q => absurd q (by decide), fun _ => ⟨by decide, fun q => absurd q (by decide), fun _ => ⟨(show 1 ≤ M.1 10 by omega), (show M.1 10 - 1 < 24 by omega), (show 1 ≤ M.1 10 by omega), (show M.1 10 - 1 < 24 by omega), (show 1 ≤ M.1 10 by omega), (show M.1 10 - 1 < 24 by omega), (show 2 ≤ M.1 10 by omega), (show M.1 10 - 2 < 24 by omega), fun z => ⟨(show 2 ≤ M.1 10 by omega), h1 (m1.symm.trans (z.trans m2))⟩, fun z => ⟨hd, t, j4, (show M.1 15 - 1 < 13 by omega), h2 fun y => z (m1.trans (y.trans m2.symm))⟩⟩⟩⟩⟩)
    refine ⟨(show 1 ≤ C.1 10 by omega), (show C.1 10 - 1 < 24 by omega), (show 1 + 0 ≤ C.1 10 - 1 by omega), (show C.1 10 - 1 - (1 + 0) < 24 by omega), fun z => ⟨(show 1 ≤ C.1 10 - 1 by omega), (show C.1 10 - 1 - 1 < 24 by omega), ?_⟩, fun z => ⟨(show C.1 10 - 1 < 24 by omega), (show 1 ≤ C.1 11 by omega), (show C.1 11 - 1 < 12 by omega), ?_⟩⟩
    · have z : C.2.2.1 2 (C.1 10 - 1) + nI 1 = C.2.2.1 2 (C.1 10 - 1 - (1 + 0)) := z
      rw [r1, r2] at z
      refine rkk (t := M.2.1 7 (M.1 15 - 1) + 1) (M4 := dN (dA (rM3 M y) 2 (M.1 10 - 1) (M.2.2.1 2 (M.1 10 - 1) + nI 1)) 10 (M.1 10 - 2)) hA0 (by decide) (by decide) hK ⟨s1, s2, s3, ?_, ?_, fun i hi => ?_⟩ hW ((rC3_g C y).tr ⟨fun i hi => by simp only [cN, xu]; rw [if_neg (by omega), if_neg (by omega)], fun _ _ => rfl, rfl, rfl, fun _ _ => rfl, rfl⟩) rfl rfl rfl rfl rfl hA0.C3 ((rM3_g M y).tr ⟨fun i hi => by simp only [dN, dA, xu]; rw [if_neg (by omega)], fun _ _ => rfl, rfl, rfl⟩) rfl rfl rfl rfl (Nat.le_succ _) hb rfl rfl hlast (by rw [hn]; exact Nat.zero_le _) (fun Q' h => hgo2 Q' (fun _ => h) (fun y => absurd z y))
      · show C.1 10 - 1 - 1 = M.1 10 - 2; omega
      · show M.1 10 - 2 ≤ 24; omega
      · have hi : i < M.1 10 - 2 := hi
        show C.2.2.1 2 i = xu (M.2.2.1 2) (M.1 10 - 1) _ i
        simp only [xu]; rw [if_neg (by omega)]
        exact s6 i (by omega)
    · have z : ¬ C.2.2.1 2 (C.1 10 - 1) + nI 1 = C.2.2.1 2 (C.1 10 - 1 - (1 + 0)) := z
      rw [r1, r2] at z
      refine rkk (t := t) (M4 := dB (dA (rM3 M y) 2 (M.1 10 - 1) (M.2.2.1 2 (M.1 10 - 1) + nI 1)) 7 (M.1 15 - 1) t) hA0 (by decide) (by decide) hK ⟨s1, s2, s3, ?_, s5, fun i hi => ?_⟩ hW ((rC3_g C y).tr ⟨fun i hi => by simp only [cN, cA, cB, xu]; rw [if_neg (by omega), if_neg (by omega)], fun k hk => by simp only [cN, cA, cB, xu2]; rw [if_neg hk], rfl, rfl, fun _ _ => rfl, rfl⟩) rfl rfl rfl rfl rfl ?_ ((rM3_g M y).tr ⟨fun i hi => rfl, fun k hk => by simp only [dB, dA, xu2]; rw [if_neg (by omega)], rfl, rfl⟩) rfl rfl rfl rfl (Nat.le_succ _) hb rfl ?_ j1 (by rw [j2]; exact Nat.zero_le _) (fun Q' h => hgo2 Q' (fun y => absurd y z) (fun _ => h))
      · show C.1 10 - 1 + 1 = M.1 10; omega
      · have hi : i < M.1 10 := hi
        show xu (C.2.2.1 2) (C.1 10 - 1) (C.2.2.1 2 (C.1 10 - 1) + nI 1) i = xu (M.2.2.1 2) (M.1 10 - 1) (M.2.2.1 2 (M.1 10 - 1) + nI 1) i
        rw [r1, s4]
        unfold xu
        split
        · rfl
        · exact s6 i (by omega)
      · show xu ((rC3 C y).2.1 4) (C.1 11 - 1) t = _
        rw [hA0.C3, f1, xu_xu]
      · show xu (xu (M.2.1 7) (M.1 15 - 1) (M.2.1 7 (M.1 15 - 1) + 1)) (M.1 15 - 1) t = _
        rw [xu_xu]
  · have q : ¬ 2 ≤ C.1 10 := q
    exact rkf (M4 := dN (rM3 M y) 1 3) hA0 hK hW (rC3_g C y) rfl rfl rfl (rm3_b M y 3) rfl rfl rfl (Nat.le_succ _) rfl ⟨f2, show C.1 11 ≤ 12 by omega⟩ (fun Q' h => hopr Q' (rgo_no (w := 45) (M := rM2 M y) (by decide) (by decide) (by decide) (by decide) hb hd f2 s2 (show xwT 45 ≤ M.1 9 by omega) (fun Q' h => rft48 hb s2 s5 (fun z => absurd z (show ¬ 2 ≤ M.1 10 by omega)) (fun _ => h)) h))
end RV
