/-! each word is done alike, further -/
section RE
variable {w : Nat} {n v : Int32} {C : xC} {M : xM} {Q : Nat → xC → Prop}
theorem rs1 (hw0 : 13 ≤ w) (hw : w < 19) (hS : rS C M) (hW : rW C M) (hb : M.1 1 = 0) (hQ : ∀ f C', (∀ Q' : xM → Prop, (∀ M', rP w C M C' f M' → Q' M') → w_R_perform (rcd w) v M Q') → Q f C') : w_M_perform w n C Q := by
  obtain ⟨s1, s2, s3, s4, s5, s6⟩ := hS
  have T : xwT w = 1 ∧ xwL w = 1 ∧ xwK w = 1 ∧ 14 ≤ rcd w ∧ rcd w < 20 := (by decide : ∀ w, w < 19 → 13 ≤ w → xwT w = 1 ∧ xwL w = 1 ∧ xwK w = 1 ∧ 14 ≤ rcd w ∧ rcd w < 20) w hw hw0
  obtain ⟨T, Lw, K, cd0, cd⟩ := T
  refine rpfC (by omega) (by omega) (fun c => hQ 58 C (fun Q' hq => rpfM_few (by omega) hb s2 (by omega) (hq _ (rP_no hW (rfC_rf C) rfl (by decide))))) (fun c1 c2 => by omega) (fun c1 c2 => ⟨fun q => by omega, fun _ => ?_, fun q => by omega, fun q => by omega, fun q => by omega, fun q => by omega, fun q => by omega⟩)
  have t1 : C.2.2.1 1 (C.1 9 - 1) = M.2.2.1 1 (M.1 9 - 1) := by rw [s1]; exact s3 _ (by omega)
  refine ⟨by omega, by omega, ronC w hw0 hw ⟨(show C.1 9 - 1 < 24 by omega), hQ 55 _ (fun Q' hq => ?_)⟩⟩
  refine rpfM_ok (by omega) hb s2 (by omega) (fun Q' h => rft0 (by omega) (by omega) hb s2 h) (fun q => by omega) (fun _ => ?_)
  unfold w_R_does
  refine ⟨by omega, fun q => by omega, fun _ => ⟨by omega, fun _ => ⟨by omega, fun q => by omega, fun _ => ?_⟩, fun q => by omega⟩⟩
  refine ⟨by omega, by omega, ronM w hw0 hw ⟨(show M.1 9 - 1 < 32 by omega), ?_⟩⟩
  refine hq _ (rP_ok hW ⟨?_, ?_, fun i hi => ?_, s4, s5, s6⟩ ⟨fun i h1 h2 h3 => by simp [cN, cA, xu, h1], rfl, rfl, rfl⟩ ⟨fun i h0 h1 h2 h3 => by simp [dN, dA, xu, h1], rfl, rfl, rfl⟩ hb (Nat.le_succ _) (by show M.1 9 - 1 + 1 + xwT w = M.1 9 + xwL w; omega) (by omega))
  · show C.1 9 - 1 + 1 = M.1 9 - 1 + 1; omega
  · show M.1 9 - 1 + 1 ≤ 24; omega
  · have hi : i < M.1 9 - 1 + 1 := hi
    show xu (C.2.2.1 1) (C.1 9 - 1) (rop1 w (C.2.2.1 1 (C.1 9 - 1))) i = xu (M.2.2.1 1) (M.1 9 - 1) (rop1 w (M.2.2.1 1 (M.1 9 - 1))) i
    rw [t1, s1]
    unfold xu
    split
    · rfl
    · exact s3 i (by omega)
theorem rs2 (hw0 : 19 ≤ w) (hw : w < 28) (hS : rS C M) (hW : rW C M) (hb : M.1 1 = 0) (hQ : ∀ f C', (∀ Q' : xM → Prop, (∀ M', rP w C M C' f M' → Q' M') → w_R_perform (rcd w) v M Q') → Q f C') : w_M_perform w n C Q := by
  have s1 := hS.1
  have s2 := hS.2.1
  have T : xwK w = 2 ∧ rcd w = w + 1 ∧ xwT w < 4 ∧ xwL w < 5 := (by decide : ∀ w, w < 28 → 19 ≤ w → xwK w = 2 ∧ rcd w = w + 1 ∧ xwT w < 4 ∧ xwL w < 5) w hw hw0
  obtain ⟨K, cd, a1, a2⟩ := T
  refine rpfC (by omega) (by omega) (fun c => hQ 58 C (fun Q' hq => rpfM_few (by omega) hb s2 (by omega) (hq _ (rP_no hW (rfC_rf C) rfl (by decide))))) (fun c1 c2 => hQ 58 C (fun Q' hq => rpfM_ok (by omega) hb s2 (by omega) (fun Q' h => rft0 (by omega) (by omega) hb s2 h) (fun _ => hq _ (rP_no hW (rfC_rf C) rfl (by decide))) (fun q => by omega))) (fun c1 c2 => ⟨fun q => by omega, fun q => by omega, fun _ => ?_, fun q => by omega, fun q => by omega, fun q => by omega, fun q => by omega⟩)
  have hq : ∀ C', (∀ Q' : xM → Prop, (∀ M', rP w C M C' 55 M' → Q' M') → w_R_does (rcd w) v M Q') → Q 55 C' := fun C' h => hQ 55 C' (fun Q0 hq => rpfM_ok (by omega) hb s2 (by omega) (fun Q' h => rft0 (by omega) (by omega) hb s2 h) (fun q => by omega) (fun _ => h Q0 hq))
  rw [s1] at c1 c2
  have : w = 19 ∨ w = 20 ∨ w = 21 ∨ w = 22 ∨ w = 23 ∨ w = 24 ∨ w = 25 ∨ w = 26 ∨ w = 27 := by omega
  rcases this with h | h | h | h | h | h | h | h | h <;> subst h
  · exact rmv_19 hS hW hb c1 c2 hq
  · exact rmv_20 hS hW hb c1 c2 hq
  · exact rmv_21 hS hW hb c1 c2 hq
  · exact rmv_22 hS hW hb c1 c2 hq
  · exact rmv_23 hS hW hb c1 c2 hq
  · exact rmv_24 hS hW hb c1 c2 hq
  · exact rmv_25 hS hW hb c1 c2 hq
  · exact rmv_26 hS hW hb c1 c2 hq
  · exact rmv_27 hS hW hb c1 c2 hq
theorem rcell {t : Int32} {Q : Nat → xC → Prop} (h1 : ∀ e, e ≤ 63 → t = nI e → Q 1 C) (h0 : (∀ e, e ≤ 63 → t ≠ nI e) → Q 0 C) : w_M_isCell t C Q := by
  unfold w_M_isCell
  refine ⟨fun q => h0 fun e he hq => ?_, fun e he hl => ⟨hl, fun q => absurd q (Nat.not_lt_zero _), fun _ => ⟨hl, fun q => h0 fun e2 h2 hq => ?_, fun q => h1 e (by omega) he⟩⟩⟩
  · rw [hq, Int32.lt_iff_toInt_lt, xt_N (by omega)] at q
    have : (0 : Int32).toInt = 0 := rfl
    omega
  · have e3 : (nI e).toInt = (nI e2).toInt := by rw [← he, hq]
    rw [xt_N hl, xt_N (by omega)] at e3
    omega
theorem rs3 (hw0 : 28 ≤ w) (hw : w < 31) (hS : rS C M) (hW : rW C M) (hb : M.1 1 = 0) (hQ : ∀ f C', (∀ Q' : xM → Prop, (∀ M', rP w C M C' f M' → Q' M') → w_R_perform (rcd w) v M Q') → Q f C') : w_M_perform w n C Q := by
  obtain ⟨s1, s2, s3, s4, s5, s6⟩ := hS
  have T : xwK w = 3 ∧ rcd w = w + 2 ∧ 1 ≤ xwT w ∧ xwL w ≤ xwT w ∧ xwT w ≤ 2 := (by decide : ∀ w, w < 31 → 28 ≤ w → xwK w = 3 ∧ rcd w = w + 2 ∧ 1 ≤ xwT w ∧ xwL w ≤ xwT w ∧ xwT w ≤ 2) w hw hw0
  obtain ⟨K, cd, a1, a2, a3⟩ := T
  refine rpfC (by omega) (by omega) (fun c => hQ 58 C (fun Q' hq => rpfM_few (by omega) hb s2 (by omega) (hq _ (rP_no hW (rfC_rf C) rfl (by decide))))) (fun c1 c2 => by omega) (fun c1 c2 => ⟨fun q => by omega, fun q => by omega, fun q => by omega, fun _ => ?_, fun q => by omega, fun q => by omega, fun q => by omega⟩)
  have t1 : C.2.2.1 1 (C.1 9 - 1) = M.2.2.1 1 (M.1 9 - 1) := by rw [s1]; exact s3 _ (by omega)
  refine ⟨by omega, by omega, ?_⟩
  unfold w_M_useCell
  refine rcell (fun e he hq => ⟨by decide, fun q => absurd q (by decide), fun _ => ⟨by omega, by omega, ?_⟩⟩) (fun hn => ⟨by decide, fun _ => hQ 58 _ (fun Q' hq => rpfM_no (b := 3) (by omega) hb s2 (by omega) (fun Q' h => rftc (by omega) hb s2 (by omega) (fun e he z => absurd (t1.trans z) (hn e he)) (fun _ => h)) (hq _ (rP_no hW ⟨fun i h1 h2 h3 => by simp [cN, xu, h1], rfl, rfl, rfl⟩ rfl (by decide)))), fun q => absurd rfl q⟩)
  have hM : M.2.2.1 1 (M.1 9 - 1) = nI e := t1.symm.trans hq
  have hq2 : ∀ C', (∀ Q' : xM → Prop, (∀ M', rP w C M C' 55 M' → Q' M') → w_R_access (rcd w) M Q') → Q 55 C' := fun C' h => hQ 55 C' (fun Q0 hq => rpfM_ok (by omega) hb s2 (by omega) (fun Q' h => rftc (by omega) hb s2 (by omega) (fun _ _ _ => h) (fun z => absurd hM (z e he))) (fun q => by omega) (fun _ => by
    unfold w_R_does
    exact ⟨by omega, fun q => by omega, fun _ => ⟨by omega, fun _ => ⟨by omega, fun _ => ⟨by omega, fun _ => ⟨by omega, fun q => by omega, fun _ => ⟨by omega, fun q => by omega, fun _ => h Q0 hq⟩⟩, fun q => by omega⟩, fun q => by omega⟩, fun q => by omega⟩⟩))
  have hsp := hW.1 e (by omega)
  have : w = 28 ∨ w = 29 ∨ w = 30 := by omega
  rcases this with h | h | h <;> subst h
  · refine ⟨by decide, fun _ => ⟨e, hq, by omega, (show C.1 9 - 1 < 24 by omega), hq2 _ (fun Q' hq => ?_)⟩, fun q => absurd rfl q⟩
    unfold w_R_access w_R_access_21
    refine ⟨by omega, by omega, by decide, fun _ => ⟨e, hM, by omega, (show M.1 9 - 1 < 32 by omega), by decide, fun q => absurd q (by decide), fun _ => ⟨by decide, fun q => absurd q (by decide), fun _ => ?_⟩⟩, fun q => absurd rfl q⟩
    refine hq _ (rP_ok hW ⟨?_, ?_, fun i hi => ?_, s4, s5, s6⟩ ⟨fun i h1 h2 h3 => by simp [cN, cA, xu, h1], rfl, rfl, rfl⟩ ⟨fun i h0 h1 h2 h3 => by simp [dN, dA, xu, h1], rfl, rfl, rfl⟩ hb (Nat.le_succ _) (by show M.1 9 - 1 + 1 + 1 = M.1 9 + 1; omega) (by omega))
    · show C.1 9 - 1 + 1 = M.1 9 - 1 + 1; omega
    · show M.1 9 - 1 + 1 ≤ 24; omega
    · have hi : i < M.1 9 - 1 + 1 := hi
      show xu (C.2.2.1 1) (C.1 9 - 1) (C.2.2.1 3 e) i = xu (M.2.2.1 1) (M.1 9 - 1) (M.2.2.1 3 e) i
      rw [hsp, s1]
      unfold xu
      split
      · rfl
      · exact s3 i (by omega)
  · have T2 : xwT 29 = 2 := rfl
    have t2 : C.2.2.1 1 (C.1 9 - 1 - 1) = M.2.2.1 1 (M.1 9 - 1 - 1) := by rw [s1]; exact s3 _ (by omega)
    refine ⟨by decide, fun q => absurd q (by decide), fun _ => ⟨fun _ => ⟨(show 1 ≤ C.1 9 - 1 by omega), (show C.1 9 - 1 - 1 < 24 by omega), e, hq, by omega, hq2 _ (fun Q' hq => ?_)⟩, fun q => absurd rfl q⟩⟩
    unfold w_R_access w_R_access_21
    refine ⟨by omega, by omega, by decide, fun q => absurd q (by decide), fun _ => ⟨by decide, fun _ => ⟨(show 1 ≤ M.1 9 - 1 by omega), (show M.1 9 - 1 - 1 < 32 by omega), e, hM, by omega, by decide, fun q => absurd q (by decide), fun _ => ?_⟩, fun q => absurd rfl q⟩⟩
    refine hq _ (rP_ok ⟨fun i hi => ?_, hW.2⟩ ⟨?_, ?_, fun i hi => ?_, s4, s5, s6⟩ ⟨fun i h1 h2 h3 => by simp [cN, cA, xu, h1], rfl, rfl, rfl⟩ ⟨fun i h0 h1 h2 h3 => by simp [dN, dA, xu, h1], rfl, rfl, rfl⟩ hb (Nat.le_succ _) (by show M.1 9 - 1 - 1 + 2 = M.1 9 + 0; omega) (by omega))
    · show xu (C.2.2.1 3) e (C.2.2.1 1 (C.1 9 - 1 - 1)) i = xu (M.2.2.1 3) e (M.2.2.1 1 (M.1 9 - 1 - 1)) i
      rw [t2]
      unfold xu
      split
      · rfl
      · exact hW.1 i hi
    · show C.1 9 - 1 - 1 = M.1 9 - 1 - 1; omega
    · show M.1 9 - 1 - 1 ≤ 24; omega
    · have hi : i < M.1 9 - 1 - 1 := hi
      exact s3 i (by omega)
  · have T2 : xwT 30 = 2 := rfl
    have t2 : C.2.2.1 1 (C.1 9 - 1 - 1) = M.2.2.1 1 (M.1 9 - 1 - 1) := by rw [s1]; exact s3 _ (by omega)
    refine ⟨by decide, fun q => absurd q (by decide), fun _ => ⟨fun q => absurd q (by decide), fun _ => ⟨e, hq, by omega, (show 1 ≤ C.1 9 - 1 by omega), (show C.1 9 - 1 - 1 < 24 by omega), e, hq, by omega, hq2 _ (fun Q' hq => ?_)⟩⟩⟩
    unfold w_R_access w_R_access_21
    refine ⟨by omega, by omega, by decide, fun q => absurd q (by decide), fun _ => ⟨by decide, fun q => absurd q (by decide), fun _ => ⟨by decide, fun _ => ⟨e, hM, by omega, (show 1 ≤ M.1 9 - 1 by omega), (show M.1 9 - 1 - 1 < 32 by omega), e, hM, by omega, ?_⟩, fun q => absurd rfl q⟩⟩⟩
    refine hq _ (rP_ok ⟨fun i hi => ?_, hW.2⟩ ⟨?_, ?_, fun i hi => ?_, s4, s5, s6⟩ ⟨fun i h1 h2 h3 => by simp [cN, cA, xu, h1], rfl, rfl, rfl⟩ ⟨fun i h0 h1 h2 h3 => by simp [dN, dA, xu, h1], rfl, rfl, rfl⟩ hb (Nat.le_succ _) (by show M.1 9 - 1 - 1 + 2 = M.1 9 + 0; omega) (by omega))
    · show xu (C.2.2.1 3) e (C.2.2.1 3 e + C.2.2.1 1 (C.1 9 - 1 - 1)) i = xu (M.2.2.1 3) e (M.2.2.1 3 e + M.2.2.1 1 (M.1 9 - 1 - 1)) i
      rw [t2, hsp]
      unfold xu
      split
      · rfl
      · exact hW.1 i hi
    · show C.1 9 - 1 - 1 = M.1 9 - 1 - 1; omega
    · show M.1 9 - 1 - 1 ≤ 24; omega
    · have hi : i < M.1 9 - 1 - 1 := hi
      exact s3 i (by omega)
end RE
