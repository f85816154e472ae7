/-! each word is done alike -/
theorem rP_no {w : Nat} {C C' : xC} {M : xM} {b f : Nat} (hW : rW C' M) (h1 : rfC C C') (hf : rfb f = b) (hn : f = 58 ∨ f = 59) : rP w C M C' f (dN M 1 b) :=
  ⟨hW, fun q => by omega, h1, ⟨fun i h1 _ _ _ => by simp [dN, xu, h1], rfl, rfl, rfl⟩, hf.symm, Nat.le_succ _, Or.inr hn⟩
theorem rP_ok {w : Nat} {C C' : xC} {M M' : xM} (hW : rW C' M') (hS : rS C' M') (h1 : rfC C C') (h2 : rfM M M') (hb : M'.1 1 = 0) (hs : M'.1 11 ≤ M.1 11 + 1) (hz : M'.1 9 + xwT w = M.1 9 + xwL w) (hz2 : xwT w ≤ M.1 9) : rP w C M C' 55 M' := ⟨hW, fun _ => ⟨hS, hz, hz2⟩, h1, h2, hb, hs, Or.inl rfl⟩
theorem rfC_rf (C : xC) : rfC C C := ⟨fun _ _ _ _ => rfl, rfl, rfl, rfl⟩
section RC
variable {w : Nat} {n v : Int32} {C : xC} {M : xM} {Q : Nat → xC → Prop}
theorem rs0 (hw : w < 13) (hS : rS C M) (hW : rW C M) (hb : M.1 1 = 0) (hQ : ∀ f C', (∀ Q' : xM → Prop, (∀ M', rP w C M C' f M' → Q' M') → w_R_perform (rcd w) v M Q') → Q f C') : w_M_perform w n C Q := by
  obtain ⟨s1, s2, s3, s4, s5, s6⟩ := hS
  have T : xwT w = 2 := (by decide : ∀ w, w < 13 → xwT w = 2) w hw
  have Lw : xwL w = 1 := (by decide : ∀ w, w < 13 → xwL w = 1) w hw
  have K : xwK w = 0 := (by decide : ∀ w, w < 13 → xwK w = 0) w hw
  have cd : rcd w < 14 ∧ ((w = 3 ∨ w = 4) ↔ (rcd w = 9 ∨ rcd w = 10)) := (by decide : ∀ w, w < 13 → rcd w < 14 ∧ ((w = 3 ∨ w = 4) ↔ (rcd w = 9 ∨ rcd w = 10))) w hw
  refine rpfC (by omega) (by omega) (fun c => hQ 58 C (fun Q' hq => rpfM_few (by omega) hb s2 (by omega) (hq _ (rP_no hW (rfC_rf C) rfl (by decide))))) (fun c1 c2 => by omega) (fun c1 c2 => ⟨fun _ => ?_, fun q => by omega, fun q => by omega, fun q => by omega, fun q => by omega, fun q => by omega, fun q => by omega⟩)
  have t1 : C.2.2.1 1 (C.1 9 - 1) = M.2.2.1 1 (M.1 9 - 1) := by rw [s1]; exact s3 _ (by omega)
  have t2 : C.2.2.1 1 (C.1 9 - 1 - 1) = M.2.2.1 1 (M.1 9 - 1 - 1) := by rw [s1]; exact s3 _ (by omega)
  have hz : ¬ ((w = 3 ∨ w = 4) ∧ C.2.2.1 1 (C.1 9 - 1) = 0) → w_M_ofTwo w (C.2.2.1 1 (C.1 9 - 1 - 1)) (C.2.2.1 1 (C.1 9 - 1)) (cN (cN C 9 (C.1 9 - 1)) 9 (C.1 9 - 1 - 1)) (fun r C6 => w_S_push_0 r C6 (fun C8 => Q 55 C8)) := fun hd => by
    refine rofC w hw (fun q z => hd ⟨q, z⟩) ⟨by show C.1 9 - 1 - 1 < 24; omega, hQ 55 _ (fun Q' hq => ?_)⟩
    refine rpfM_ok (by omega) hb s2 (by omega) (fun Q' h => ?_) (fun q => by omega) (fun _ => ?_)
    · by_cases hw3 : w = 3 ∨ w = 4
      · exact rftd (cd.2.mp hw3) hb s2 (by omega) (fun _ => h) (fun q => absurd ⟨hw3, t1.trans q⟩ hd)
      · exact rft0 (by omega) (by omega) hb s2 h
    · unfold w_R_does
      refine ⟨by omega, fun q => by omega, fun _ => ⟨by omega, fun q => by omega, fun _ => ?_⟩⟩
      refine ⟨by omega, by omega, (show 1 ≤ M.1 9 - 1 by omega), (show M.1 9 - 1 - 1 < 32 by omega), rofM w hw (fun q z => hd ⟨q, t1.trans z⟩) ⟨(show M.1 9 - 1 - 1 < 32 by omega), ?_⟩⟩
      refine hq _ (rP_ok hW ⟨?_, ?_, fun i hi => ?_, s4, s5, s6⟩ ⟨fun i h1 h2 h3 => by simp [cN, cA, xu, h1], rfl, rfl, rfl⟩ ⟨fun i h0 h1 h2 h3 => by simp [dN, dA, xu, h1], rfl, rfl, rfl⟩ hb (Nat.le_succ _) (by show M.1 9 - 1 - 1 + 1 + xwT w = M.1 9 + xwL w; omega) (by omega))
      · show C.1 9 - 1 - 1 + 1 = M.1 9 - 1 - 1 + 1; omega
      · show M.1 9 - 1 - 1 + 1 ≤ 24; omega
      · have hi : i < M.1 9 - 1 - 1 + 1 := hi
        show xu (C.2.2.1 1) (C.1 9 - 1 - 1) (rop w (C.2.2.1 1 (C.1 9 - 1 - 1)) (C.2.2.1 1 (C.1 9 - 1))) i = xu (M.2.2.1 1) (M.1 9 - 1 - 1) (rop w (M.2.2.1 1 (M.1 9 - 1 - 1)) (M.2.2.1 1 (M.1 9 - 1))) i
        rw [t1, t2, s1]
        unfold xu
        split
        · rfl
        · exact s3 i (by omega)
  have hd0 : (w = 3 ∨ w = 4) → C.2.2.1 1 (C.1 9 - 1) = 0 → Q 59 (cN (cN C 9 (C.1 9 - 1)) 9 (C.1 9 - 1 - 1)) := fun q z => hQ 59 _ (fun Q' hq => rpfM_no (b := 4) (by omega) hb s2 (by omega) (fun Q' h => rftd (cd.2.mp q) hb s2 (by omega) (fun y => absurd (t1.symm.trans z) y) (fun _ => h)) (hq _ (rP_no hW ⟨fun i h1 h2 h3 => by simp [cN, xu, h1], rfl, rfl, rfl⟩ rfl (by decide))))
  unfold w_M_performOfTwo
  refine ⟨by omega, by omega, (show 1 ≤ C.1 9 - 1 by omega), (show C.1 9 - 1 - 1 < 24 by omega), fun z => ⟨by omega, fun q => hd0 (Or.inl q) z, fun q => ⟨by omega, fun q2 => hd0 (Or.inr q2) z, fun q2 => hz (by rintro ⟨q3 | q3, _⟩ <;> contradiction)⟩⟩, fun z => hz (fun q => z q.2)⟩
end RC
