/-! ":", VARIABLE and CONSTANT: alike -/
def rX2 (z0 e : Nat) (C1 : xC) (M1 : xM) (C' : xC) (f : Nat) (M' : xM) : Prop := 55 ≤ f ∧ f < 61 ∧ M'.1 1 = rfb f ∧ rF z0 e C' M' ∧ M'.1 3 ≤ 160 ∧ (f = 55 → rI z0 e C' M' ∧ C'.1 3 = C1.1 3 ∧ M'.1 3 = M1.1 3 ∧ C'.1 1 = C1.1 1 ∧ C'.1 0 = C1.1 0)
/-- the other side, behind the name -/
def rDfn (x1 : Nat) (r2 : Int64) (M1 : xM) (Q : xM → Prop) : Prop := (x1 < 2147483648 ∧ ((x1 = 50 → w_R_begin r2 M1 (fun M19 => Q (dN M19 6 1))) ∧ (¬ (x1 = 50) → (x1 < 2147483648 ∧ ((x1 = 51 → (M1.1 5 < 2147483648 ∧ ((M1.1 5 = 64 → w_R_wrong 2 M1 (fun M18 => Q M18)) ∧ (¬ (M1.1 5 = 64) → w_R_simple r2 (nI (M1.1 5)) M1 (fun M17 => Q (dN M17 5 (M17.1 5 + 1))))))) ∧ (¬ (x1 = 51) → (M1.1 9 < 2147483648 ∧ ((M1.1 9 = 0 → w_R_wrong 3 M1 (fun M14 => Q M14)) ∧ (¬ (M1.1 9 = 0) → w_R_pop M1 (fun r12 M11 => w_R_simple r2 r12 M11 (fun M13 => Q M13)))))))))))
section SK
variable {z0 e : Nat} {C : xC} {M : xM} {Q : Nat → xC → Prop}
theorem rbgC (C : xC) (k : Int64) : rhC C (cN (cN (cN (cL (cN C 5 1) k) 6 0) 7 0) 8 0) := ⟨fun i hi => by simp only [cN, cL, xu]; rw [if_neg (by omega), if_neg (by omega), if_neg (by omega), if_neg (by omega)], fun _ _ => rfl, fun _ _ => rfl, fun _ _ => rfl, rfl⟩
theorem rbgM (M : xM) (m : Int64) (b : Nat) : rhM M (dN (dN (dN (dB (dL M (M.1 4) m) 1 (M.1 4) 0) 7 0) 8 0) 6 b) := by
  refine ⟨fun i _ c a b => by simp only [dN, dB, dL, xu]; rw [if_neg c, if_neg b, if_neg a], fun j hj => by simp only [dN, dB, dL, xu2]; rw [if_neg (by omega)], fun d hd => ?_, fun j hj i hi => by simp only [dN, dB, dL, xu2]; rw [if_neg (by omega)], fun _ _ => rfl, fun _ _ => rfl, fun d hd => ?_⟩
  · show xu (M.2.1 1) (M.1 4) 0 d = _
    simp only [xu]; rw [if_neg (by omega)]
  · show xu M.2.2.2 (M.1 4) m d = _
    simp only [xu]; rw [if_neg (by omega)]
theorem rNm1_w {f : Nat → Nat} {s l : Nat} (h1 : 1 ≤ l) (h7 : l ≤ 7) (hf : ∀ j, j < l → 1 ≤ f (s + j) ∧ f (s + j) < 128) : rNm1 (rkC f s l) (rkM f s l) := by
  refine ⟨fun j => f (s + j), l, h1, h7, hf, ?_, ?_⟩
  · unfold rkC
    rw [if_pos (by omega), rle_cg l s 0 (fun j _ => by rw [Nat.zero_add])]
  · unfold rkM
    rw [if_pos (by omega)]
    rw [rbe_cg (f := f) (g := fun j => f (s + j)) (s := s) (t := 0) l (fun j _ => by rw [Nat.zero_add])]
theorem sdef2 {w : Nat} (hI : rI z0 e C M) (hd : rWd C M) (h6 : M.1 6 = 0) (he : e ≤ 1000) (h7 : M.1 17 ≤ 7) (h40 : M.1 4 < 40) (hw : w = 52 ∨ w = 53 ∨ w = 54) (hQ : ∀ f C', rDfn (rwc w) (rkM (M.2.1 0) (M.1 16) (M.1 17)) M (fun M' => rX2 z0 e C M C' f M') → Q f C') :
    (w < 55 ∧ (w < 55 ∧ (xwV w < 2147483648 ∧ ((xwV w = 1 → w_T_key C (fun r18 C17 => w_F_defineVariable r18 C17 (fun r20 C19 => Q r20 C19))) ∧ (¬ xwV w = 1 → ((xwV w = 2 → w_T_key C (fun r23 C22 => w_F_defineConstant r23 C22 (fun r25 C24 => Q r25 C24))) ∧ (¬ xwV w = 2 → w_T_key C (fun r27 C26 => w_C_begin r27 C26 (fun C28 => Q 55 C28))))))))) := by
  obtain ⟨c1, c2, c3, c4, c5⟩ := hd.ch hI
  have hF := hI.1
  obtain ⟨H, hDs⟩ := hF.2.2.2.2.1
  have hN := hF.2.2.2.2.2.1
  have h512 := hF.2.2.1
  have h64 := hF.2.2.2.1
  have hT := hI.2.1
  have t1 := hT.1
  have t2 := hT.2.1
  have t3 := hT.2.2.1
  have hS := hI.2.2.1
  have hC5 := hI.2.2.2.1.1
  have hb := hI.2.2.2.2.1
  have h15 := hI.2.2.2.2.2
  have e4 := hDs.1
  obtain ⟨d1, d2, d3, d4, d5, d6⟩ := hd
  have hlen : C.2.2.2.2.2.2.1.length + 43 < 1048576 := by have := hF.2.2.2.2.2.2.1.1; omega
  have nm := rNm1_w (f := M.2.1 0) (s := M.1 16) d4 h7 c1
  have key : ∀ K : Int64 → xC → Prop, K (rkC (M.2.1 0) (M.1 16) (M.1 17)) C → w_T_key C K := fun K k => by
    unfold rkC at k
    refine rky c3 (by omega) c2 (fun z => ?_) (fun z => ?_)
    · rw [if_pos (by omega)] at k
      rw [t3, d1, show C.1 3 - M.1 16 = M.1 17 by omega]; exact k
    · rw [if_neg (by omega)] at k; exact k
  generalize rkC (M.2.1 0) (M.1 16) (M.1 17) = kc at *
  generalize rkM (M.2.1 0) (M.1 16) (M.1 17) = km at *
  rcases hw with rfl | rfl | rfl
  · refine ⟨by decide, by decide, by decide, fun z => absurd z (by decide), fun _ => ⟨fun z => absurd z (by decide), fun _ => key _ ?_⟩⟩
    unfold w_C_begin
    refine hQ 55 _ ⟨by decide, fun _ => ?_, fun z => absurd rfl z⟩
    unfold w_R_begin
    refine ⟨by omega, by omega, ?_⟩
    have hc := rbgC C kc
    have hm := rbgM M km 1
    have hF' := hF.h hc hm
    refine ⟨by decide, by decide, hb, hF', (show M.1 3 ≤ 160 by omega), fun _ => ⟨⟨hF', hT.h hc hm, hS.h hc hm, ⟨rfl, Nat.le_refl 1, fun _ => ⟨⟨fun _ => 0, h40, ?_, Nat.zero_le _, rfl, Nat.zero_le _, rfl, rfl, Nat.zero_le _, fun i hi => absurd (show i < 0 from hi) (by omega), fun k hk => absurd (show k < 0 from hk) (by omega)⟩, rfl, ?_⟩⟩, hb, h15⟩, rfl, rfl, rfl, rfl⟩⟩
    · show 0 = xu (M.2.1 1) (M.1 4) 0 (M.1 4)
      simp [xu]
    · show rNm1 kc (xu M.2.2.2 (M.1 4) km (M.1 4))
      simp [xu]; exact nm
  · refine ⟨by decide, by decide, by decide, fun _ => key _ ?_, fun z => absurd rfl z⟩
    unfold w_F_defineVariable
    refine ⟨by omega, fun q => ?_, fun q => ?_⟩
    · refine hQ 57 C ⟨by decide, fun z => absurd z (by decide), fun _ => ⟨by decide, fun _ => ⟨by omega, fun _ => rwr hb ?_, fun z => by omega⟩, fun z => absurd rfl z⟩⟩
      exact ⟨by decide, by decide, rfl, hF.h (rhC.rf C) (rhM_1 M 2), (show M.1 3 ≤ 160 by omega), fun z => absurd z (by decide)⟩
    · refine sDN hDs hN h40 hb hlen nm (fun C' M' hE m6 hr => ?_)
      have hF' := hF.en hE
      have hT' := hT.en hE
      have hS' := hS.en hE
      obtain ⟨y1, y2, y3, y4, y5, y6, y7, y8, y9, y10, y11, y12, y13, y14, y15⟩ := hE
      have m3 : M'.1 3 = M.1 3 := y13 3 (by decide) (by decide) (by decide) (by decide) (by decide)
      have m5 : M'.1 5 = M.1 5 := y13 5 (by decide) (by decide) (by decide) (by decide) (by decide)
      have m15 : M'.1 15 = M.1 15 := y13 15 (by decide) (by decide) (by decide) (by decide) (by decide)
      have c12 : C'.1 12 = C.1 12 := y7 12 (by decide)
      unfold w_F_fitting
      refine ⟨by decide, fun z => absurd z (by decide), fun _ => hQ 55 _ ⟨by decide, fun z => absurd z (by decide), fun _ => ⟨by decide, fun _ => ⟨by omega, fun z => by omega, fun _ => ?_⟩, fun z => absurd rfl z⟩⟩⟩
      have e12 : nI (C.1 12) = nI (M.1 5) := by rw [h512]
      rw [e12] at hr
      refine hr _ ?_
      have hF'' : rF z0 e (cN C' 12 (C'.1 12 + 1)) (dN M' 5 (M'.1 5 + 1)) := ⟨hF'.1, hF'.2.1, (show C'.1 12 + 1 = M'.1 5 + 1 by omega), (show M'.1 5 + 1 ≤ 64 by omega), hF'.2.2.2.2⟩
      exact ⟨by decide, by decide, y4, hF'', (show M'.1 3 ≤ 160 by omega), fun _ => ⟨⟨hF'', hT', hS', ⟨(show C'.1 5 = M'.1 6 by omega), (show M'.1 6 ≤ 1 by omega), fun z => absurd (show M'.1 6 = 1 from z) (by omega)⟩, y4, m15.trans h15.1, (y13 0 (by decide) (by decide) (by decide) (by decide) (by decide)).trans h15.2⟩, y7 3 (by decide), m3, y7 1 (by decide), y7 0 (by decide)⟩⟩
  · refine ⟨by decide, by decide, by decide, fun z => absurd z (by decide), fun _ => ⟨fun _ => key _ ?_, fun z => absurd rfl z⟩⟩
    obtain ⟨s1, s2, s3, s4, s5, s6⟩ := id hS
    unfold w_F_defineConstant
    refine ⟨by omega, fun q => ?_, fun q => ?_⟩
    · refine hQ 58 C ⟨by decide, fun z => absurd z (by decide), fun _ => ⟨by decide, fun z => absurd z (by decide), fun _ => ⟨by omega, fun _ => rwr hb ?_, fun z => by omega⟩⟩⟩
      exact ⟨by decide, by decide, rfl, hF.h (rhC.rf C) (rhM_1 M 3), (show M.1 3 ≤ 160 by omega), fun z => absurd z (by decide)⟩
    · unfold w_S_pop_0
      refine ⟨by omega, by omega, ?_⟩
      have hS1 : rS (cN C 9 (C.1 9 - 1)) (dN M 9 (M.1 9 - 1)) := ⟨(show C.1 9 - 1 = M.1 9 - 1 by omega), (show M.1 9 - 1 ≤ 24 by omega), fun i hi => s3 i (by have hi : i < M.1 9 - 1 := hi; omega), s4, s5, s6⟩
      have hF1 : rF z0 e (cN C 9 (C.1 9 - 1)) (dN M 9 (M.1 9 - 1)) := hF
      have hT1 : rTx (cN C 9 (C.1 9 - 1)) (dN M 9 (M.1 9 - 1)) := hT
      have hDs1 : rDs (cN C 9 (C.1 9 - 1)) (dN M 9 (M.1 9 - 1)) H := hDs
      refine sDN (M := dN M 9 (M.1 9 - 1)) hDs1 hN h40 hb hlen nm (fun C' M' hE m6 hr => ?_)
      have hF' := hF1.en hE
      have hT' := hT1.en hE
      have hS' := hS1.en hE
      obtain ⟨y1, y2, y3, y4, y5, y6, y7, y8, y9, y10, y11, y12, y13, y14, y15⟩ := hE
      have m3 : M'.1 3 = M.1 3 := y13 3 (by decide) (by decide) (by decide) (by decide) (by decide)
      have m15 : M'.1 15 = M.1 15 := y13 15 (by decide) (by decide) (by decide) (by decide) (by decide)
      have m6 : M'.1 6 = M.1 6 := m6
      unfold w_F_fitting
      refine ⟨by decide, fun z => absurd z (by decide), fun _ => hQ 55 _ ⟨by decide, fun z => absurd z (by decide), fun _ => ⟨by decide, fun z => absurd z (by decide), fun _ => ⟨by omega, fun z => by omega, fun _ => ?_⟩⟩⟩⟩
      unfold w_R_pop
      have ev : C.2.2.1 1 (C.1 9 - 1) = M.2.2.1 1 (M.1 9 - 1) := by rw [s1]; exact s3 _ (by omega)
      rw [ev] at hr
      refine ⟨by omega, by omega, hr _ ?_⟩
      exact ⟨by decide, by decide, y4, hF', (show M'.1 3 ≤ 160 by omega), fun _ => ⟨⟨hF', hT', hS', ⟨(show C'.1 5 = M'.1 6 by omega), (show M'.1 6 ≤ 1 by omega), fun z => absurd (show M'.1 6 = 1 from z) (by omega)⟩, y4, m15.trans h15.1, (y13 0 (by decide) (by decide) (by decide) (by decide) (by decide)).trans h15.2⟩, y7 3 (by decide), m3, y7 1 (by decide), y7 0 (by decide)⟩⟩
end SK
