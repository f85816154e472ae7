/-! a word of the text is done -/
section RZZ
variable {H : Nat → Nat → Nat} {Q : Nat → xC → Prop} {C : xC} {M : xM} {n : Int32}
theorem rl0 {f : Nat} {C : xC} (hf : f < 61) (h11 : C.1 11 = 0) (h : Q f C) : ∃ fu, w_M_doWord_28 fu f 0 C Q := by
  refine ⟨1, ?_⟩
  unfold w_M_doWord_28 wi_M_doWord_28
  exact ⟨by decide, fun q => by omega, fun _ => ⟨by omega, fun _ => h, fun q => by omega⟩⟩
theorem rl0f {f : Nat} {C : xC} (hf : f < 61) (h55 : f ≠ 55) (h11 : C.1 11 ≤ 12) (h : Q f C) : ∃ fu, w_M_doWord_28 fu f 0 C Q := by
  refine ⟨1, ?_⟩
  unfold w_M_doWord_28 wi_M_doWord_28
  exact ⟨by decide, fun _ => h, fun _ => ⟨by omega, fun _ => h, fun _ => ⟨hf, fun q => absurd q h55, fun _ => h⟩⟩⟩
/-- one step on the other side -/
theorem rstp {Q' : Nat → xM → Prop} (hb : M.1 1 = 0) (h : M.1 12 ≤ 600) (h1 : M.1 12 = 600 → Q' 0 (dN M 1 5)) (h2 : M.1 12 < 600 → Q' 1 (dN M 12 (M.1 12 + 1))) : w_R_step M Q' := by
  unfold w_R_step
  have e : (dN M 1 5).1 1 = 5 := rfl
  exact ⟨by omega, fun q => rwr hb ⟨by rw [e]; decide, fun z => absurd z (by rw [e]; decide), fun _ => h1 q⟩, fun q => ⟨by omega, fun _ => h2 (by omega), fun z => absurd hb z⟩⟩
theorem rgC0 (C : xC) : rgC C (cN C 11 0) := ⟨fun i hi => by simp only [cN, xu]; rw [if_neg (by omega)], fun _ _ => rfl, rfl, rfl, fun _ _ => rfl, rfl⟩
theorem rgC14 (C : xC) (v : Nat) : rgC C (cN (cN C 11 0) 14 v) := ⟨fun i hi => by simp only [cN, xu]; rw [if_neg (by omega), if_neg (by omega)], fun _ _ => rfl, rfl, rfl, fun _ _ => rfl, rfl⟩
theorem rgM12 (M : xM) (v : Nat) : rgM M (dN M 12 v) := ⟨fun i hi => by simp only [dN, xu]; rw [if_neg (by omega)], fun _ _ => rfl, rfl, rfl⟩
theorem rgM1 (M : xM) (v : Nat) : rgM M (dN M 1 v) := ⟨fun i hi => by simp only [dN, xu]; rw [if_neg (by omega)], fun _ _ => rfl, rfl, rfl⟩
theorem rdo_v {w : Nat} {v : Int32} (hw : w < 38) (hv : w = 37 → v = n) (hS : rS C M) (hW : rW C M) (hCt : rCt C M) (hb : M.1 1 = 0) (h15 : M.1 15 = 0)
    (hQ : ∀ f C', (∀ Q' : xM → Prop, (∀ M', rY C M C' f M' → Q' M') → w_R_step M (fun r M1 => (r < 2147483648 ∧ ((r = 0 → Q' M1) ∧ (¬ r = 0 → w_R_perform (rcd w) v M1 Q'))))) → Q f C') : w_M_doWord w n C Q := by
  obtain ⟨t1, t2, t3, t4, t5⟩ := id hCt
  unfold w_M_doWord w_M_takeStep
  refine ⟨(show C.1 14 < 2147483648 by omega), fun q => ⟨by decide, fun _ => rl0 (by decide) rfl ?_, fun q => absurd rfl q⟩, fun q => ⟨by decide, fun q => absurd q (by decide), fun _ => ?_⟩⟩
  · have q : C.1 14 = 600 := q
    refine hQ 60 _ fun Q' hq => rstp hb t2 (fun _ => ⟨by decide, fun _ => hq _ ?_, fun q => absurd rfl q⟩) (fun z => by omega)
    exact ⟨hW, hCt, rgC0 C, rgM1 M 5, rfl, by decide, by decide, fun q => absurd q (by decide)⟩
  · have q : ¬ C.1 14 = 600 := q
    refine rsim (v := v) (M := dN M 12 (M.1 12 + 1)) hw hS hW hb hv (show M.1 11 < 2147483648 by omega) (fun f C4 hf => ?_)
    obtain ⟨M4, p1, p2, p3, p4, p5, p6, p7⟩ := rexP (hf _ (fun M' h => h))
    have c11 : C4.1 11 = 0 := p3.1 11 (by decide) (by decide) (by decide)
    have c14 : C4.1 14 = C.1 14 + 1 := p3.1 14 (by decide) (by decide) (by decide)
    have c15 : C4.1 15 = C.1 15 := p3.1 15 (by decide) (by decide) (by decide)
    have c16 : C4.1 16 = C.1 16 := p3.1 16 (by decide) (by decide) (by decide)
    refine rl0 (by omega) c11 (hQ f C4 fun Q' hq => rstp hb t2 (fun z => by omega) (fun _ => ⟨by decide, fun q => absurd q (by decide), fun _ => hf _ fun M' hm => hq M' ?_⟩))
    obtain ⟨m1, m2, m3, m4, m5, m6, m7⟩ := hm
    have z12 : M'.1 12 = M.1 12 + 1 := m4.1 12 (by decide) (by decide) (by decide) (by decide)
    have z13 : M'.1 13 = M.1 13 := m4.1 13 (by decide) (by decide) (by decide) (by decide)
    have z14 : M'.1 14 = M.1 14 := m4.1 14 (by decide) (by decide) (by decide) (by decide)
    have z15 : M'.1 15 = M.1 15 := m4.1 15 (by decide) (by decide) (by decide) (by decide)
    have m6 : M'.1 11 ≤ M.1 11 + 1 := m6
    exact ⟨m1, ⟨by omega, by omega, by omega, by omega, by omega⟩, (rgC14 C _).tr (rgC.of m3), (rgM12 M _).tr (rgM.of m4), m5, by omega, by omega, fun q => ⟨(m2 q).1, by omega⟩⟩
theorem rdo_c {d : Nat} (hd : d < M.1 4) (hn : n = nI d) (hS : rS C M) (hW : rW C M) (hCt : rCt C M) (hDs : rDs C M H) (hb : M.1 1 = 0) (h15 : M.1 15 = 0)
    (hQ : ∀ f C', (∀ Q' : xM → Prop, (∀ M', rY C M C' f M' → Q' M') → w_R_run d M Q') → Q f C') : w_M_doWord 49 n C Q := by
  obtain ⟨t1, t2, t3, t4, t5⟩ := id hCt
  obtain ⟨s1, s2, s3, s4, s5, s6⟩ := id hS
  obtain ⟨d1, d2, d3⟩ := id hDs
  obtain ⟨a, D, k1, k2, k3, k4, k5, k6, k7⟩ := d3 d hd
  unfold w_M_doWord w_M_takeStep
  refine ⟨(show C.1 14 < 2147483648 by omega), fun q => ⟨by decide, fun _ => rl0 (by decide) rfl ?_, fun q => absurd rfl q⟩, fun q => ⟨by decide, fun q => absurd q (by decide), fun _ => ?_⟩⟩
  · have q : C.1 14 = 600 := q
    refine hQ 60 _ fun Q' hq => ?_
    unfold w_R_run
    refine rstp hb t2 (fun _ => ⟨by decide, fun _ => hq _ ?_, fun q => absurd rfl q⟩) (fun z => by omega)
    exact ⟨hW, hCt, rgC0 C, rgM1 M 5, rfl, by decide, by decide, fun q => absurd q (by decide)⟩
  · have q : ¬ C.1 14 = 600 := q
    have eT : xwT 49 = 0 := rfl
    have eL : xwL 49 = 0 := rfl
    refine rpfC (by decide) (show C.1 9 ≤ 24 by omega) (fun q => by omega) (fun _ q => ?_) (fun c1 _ => ⟨fun q => absurd q (by decide), fun q => absurd q (by decide), fun q => absurd q (by decide), fun q => absurd q (by decide), fun q => absurd q (by decide), fun q => absurd q (by decide), fun _ => ?_⟩)
    · have q : 24 < C.1 9 - xwT 49 + xwL 49 := q
      omega
    refine rct_ca ?_
    rw [hn]
    unfold w_D_at
    refine ⟨fun q => ?_, fun e' he' hl' => ?_⟩
    · rw [Int32.lt_iff_toInt_lt, xt_N (by omega)] at q
      have : (0 : Int32).toInt = 0 := rfl
      omega
    have ee : e' = d := d_inj rfl he' (by omega) hl'
    subst ee
    refine ⟨hl', fun q => absurd q (Nat.not_lt_zero _), fun _ => ⟨hl', (show C.1 4 < 2147483648 by omega), fun q => ?_, fun q => ⟨by omega, fun q => ?_, fun _ => ⟨a, k1, ?_⟩⟩⟩⟩
    · have q : C.1 4 ≤ e' := q
      omega
    · have q : C.2.2.2.2.1 0 e' = none := q
      rw [k1] at q
      cases q
    · unfold w_M_enter_D
      refine ⟨(show (0 : Nat) < 2147483648 by decide), fun q => absurd q (show ¬ (0 : Nat) = 12 by decide), fun _ => ⟨(show (0 : Nat) < 12 by decide), ⟨k2.lt, k2.1, _, k2.2.2.2.1⟩, (show (0 : Nat) < 12 by decide), 601 - (M.1 12 + 1), ?_⟩⟩
      refine rloop (H := H) (601 - (M.1 12 + 1)) _ (dN (dB (dB (dN M 12 (M.1 12 + 1)) 6 0 e') 7 0 0) 15 1) 0 (show M.1 12 + 1 + _ = 601 by omega) hS hW ⟨?_, ?_, t3, t4, ?_⟩ ⟨rfl, (show (1 : Nat) ≤ 12 by decide), fun j hj => ?_⟩ (hDs.eq ?_ ?_) hb (Nat.zero_le _) (fun f C' h => hQ f C' fun Q' hq => ?_)
      · show C.1 14 + 1 = M.1 12 + 1; omega
      · show M.1 12 + 1 ≤ 600; omega
      · show M.1 11 ≤ M.1 12 + 1; omega
      · have hj : j < 1 := hj
        have hj : j = 0 := by omega
        subst hj
        have hs : 0 < M.2.1 1 e' := by rw [← k3]; omega
        exact ⟨hd, k1.symm, rfl, hs, fun q => absurd q (show ¬ 0 + 1 < 1 by decide), by show H e' 0 ≤ _; rw [k6]; exact Nat.zero_le _⟩
      · exact (rgC14 C _).tr ⟨fun i hi => by simp only [cN, cB, cR, xu]; rw [if_neg (by omega)], fun k hk => by simp only [cN, cB, cR, xu2]; rw [if_neg hk], rfl, rfl, fun k hk => by simp only [cN, cB, cR, xu2]; rw [if_neg hk], rfl⟩
      · exact (rgM12 M _).tr ⟨fun i hi => by simp only [dN, dB, xu]; rw [if_neg (by omega)], fun k hk => by simp only [dN, dB, xu2]; rw [if_neg (by omega), if_neg (by omega)], rfl, rfl⟩
      · unfold w_R_run
        refine rstp hb t2 (fun z => by omega) (fun _ => ⟨by decide, fun q => absurd q (by decide), fun _ => ?_⟩)
        unfold w_R_enter
        refine ⟨(show M.1 15 < 2147483648 by omega), fun z => absurd z (show ¬ M.1 15 = 12 by omega), fun _ => ⟨(show M.1 15 < 13 by omega), (show M.1 15 < 13 by omega), 601 - (M.1 12 + 1) + 1, ?_⟩⟩
        have e15 : (dN M 12 (M.1 12 + 1)).1 15 = 0 := h15
        rw [e15]
        refine h Q' fun M' hm => hq M' ?_
        obtain ⟨q1, q2, q3, q4, q5, q6, q7, q8⟩ := hm
        refine ⟨q1, q2, ((rgC14 C ((cN C 11 0).1 14 + 1)).tr ?_).tr q3, ((rgM12 M (M.1 12 + 1)).tr ?_).tr q4, q5, q6, q7, q8⟩
        · exact ⟨fun i hi => by simp only [cN, cB, cR, xu]; rw [if_neg (by omega)], fun k hk => by simp only [cN, cB, cR, xu2]; rw [if_neg hk], rfl, rfl, fun k hk => by simp only [cN, cB, cR, xu2]; rw [if_neg hk], rfl⟩
        · exact ⟨fun i hi => by simp only [dN, dB, xu]; rw [if_neg (by omega)], fun k hk => by simp only [dN, dB, xu2]; rw [if_neg (by omega), if_neg (by omega)], rfl, rfl⟩
end RZZ
