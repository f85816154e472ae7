/-! a word of the text is done, where nothing is compiled: alike -/
section SM
variable {z0 e : Nat} {C : xC} {M : xM} {Q : Nat → xC → Prop} {P : xM → Prop}
theorem aw_wr {c : Nat} (h1 : 53 ≤ c) (h2 : c < 100) (h : w_R_wrong 2 M P) : w_R_acts_32 0 (c + 1) M P := by
  unfold w_R_acts_32 w_R_acts_76 w_R_within_ZNN
  exact ⟨by omega, fun q => by omega, fun _ => ⟨by omega, fun q => by omega, fun _ => ⟨by omega, fun _ => ⟨by omega, by omega, by omega, fun q => by omega, fun _ => ⟨by omega, by omega, by omega, fun _ => ⟨by omega, fun _ => ⟨by omega, fun q => by omega, fun _ => h⟩, fun q => absurd rfl q⟩, fun q => by omega⟩⟩, fun q => by omega⟩⟩⟩
theorem aw_df {c : Nat} (h1 : 50 ≤ c) (h2 : c ≤ 52) (h : w_R_defines c M P) : w_R_acts_32 0 (c + 1) M P := by
  unfold w_R_acts_32 w_R_acts_76 w_R_within_ZNN
  exact ⟨by omega, fun q => by omega, fun _ => ⟨by omega, fun q => by omega, fun _ => ⟨by omega, fun _ => ⟨by omega, by omega, by omega, fun q => by omega, fun _ => ⟨by omega, by omega, by omega, fun q => by omega, fun _ => ⟨by omega, fun q => absurd q (by decide), fun _ => ⟨by omega, h⟩⟩⟩⟩, fun q => by omega⟩⟩⟩
theorem aw_nu (h : w_R_isNumber M (fun r3008 M3007 => (r3008 < 2147483648 ∧ ((r3008 = 0 → w_R_wrong 1 M3007 (fun M3011 => P M3011)) ∧ (¬ (r3008 = 0) → w_R_step M3007 (fun r3013 M3012 => (r3013 < 2147483648 ∧ ((r3013 = 0 → P M3012) ∧ (¬ (r3013 = 0) → w_R_number M3012 (fun r3017 M3016 => w_R_perform 40 r3017 M3016 (fun M3018 => P M3018))))))))))) : w_R_acts_32 0 0 M P := by
  unfold w_R_acts_32 w_R_acts_76 w_R_within_ZNN
  exact ⟨by omega, fun q => by omega, fun _ => ⟨by omega, fun _ => ⟨by omega, by omega, by omega, fun _ => ⟨by omega, fun _ => ⟨by omega, fun _ => h, fun q => by omega⟩, fun q => absurd rfl q⟩, fun q => by omega⟩, fun q => by omega⟩⟩
theorem aw_op {c : Nat} (h1 : 1 ≤ c) (h2 : c < 40) (h : w_R_step M (fun r M1 => (r < 2147483648 ∧ ((r = 0 → P M1) ∧ (¬ r = 0 → w_R_perform c (nI 0) M1 P))))) : w_R_acts_32 0 (c + 1) M P := by
  obtain ⟨r, x, ⟨b1, b2, b3⟩, b4⟩ := yd_R_step _ _ h
  unfold w_R_acts_32
  exact ⟨by omega, fun q => by omega, fun _ => ⟨by omega, fun q => by omega, fun _ => ⟨by omega, fun q => by omega, fun _ => b4 _ ⟨b1, b2, fun z => ⟨by omega, b3 z⟩⟩⟩⟩⟩
theorem rstp_inv {K : Nat → xM → Prop} (hb : M.1 1 = 0) (h : w_R_step M K) : (M.1 12 = 600 → K 0 (dN M 1 5)) ∧ (¬ M.1 12 = 600 → K 1 (dN M 12 (M.1 12 + 1))) := by
  obtain ⟨h1, h2, h3⟩ := h
  exact ⟨fun q => ((h2 q).2.1 hb).2.2 (fun z => absurd (show (5 : Nat) = 0 from z) (by decide)), fun q => (h3 q).2.1 hb⟩
theorem sact (hI : rI z0 e C M) (hd : rWd C M) (h6 : M.1 6 = 0) (he : e ≤ 1000) (hQ : ∀ f C', w_R_acts (rkM (M.2.1 0) (M.1 16) (M.1 17)) M (fun M' => rX z0 e C M C' f M') → Q f C') : w_F_interpretWord C Q := by
  obtain ⟨c1, c2, c3, c4, c5⟩ := hd.ch hI
  have hF := hI.1
  have h5 : C.1 5 = 0 := hI.2.2.2.1.1.trans h6
  have hW := hF.1
  have hCt := hF.2.1
  have hS := hI.2.2.1
  have hb := hI.2.2.2.2.1
  have h15 := hI.2.2.2.2.2.1
  obtain ⟨H, hDs⟩ := hF.2.2.2.2.1
  have h40 := hDs.2.1
  have hle := rfd_le M
  have h17 := hd.2.2.2.1
  have hd3 := hd.2.2.1.symm
  have hd5 := hd.2.2.2.2.1
  have m160 : M.1 3 ≤ 160 := by omega
  have wap : ∀ P : xM → Prop, (1 ≤ rfd M → w_R_acts_32 (rfd M) 42 M P) → (rfd M = 0 → rbo (rkM (M.2.1 0) (M.1 16) (M.1 17)) M (fun r M => w_R_acts_32 0 r M P)) → w_R_acts (rkM (M.2.1 0) (M.1 16) (M.1 17)) M P := fun P a b => by
    unfold w_R_acts
    refine sfdM hF (by omega) ⟨by omega, fun q => ?_, fun q => ⟨fun _ => a (by omega), fun z => absurd (by decide) z⟩⟩
    have q0 : rfd M = 0 := by omega
    have := b q0
    rw [q0]
    exact this
  have cod : ∀ {w : Nat} {n : Int32}, w_M_doWord w n C Q → w_F_compileOrDo w n C Q := fun {w n} k => by
    unfold w_F_compileOrDo
    exact ⟨by omega, fun _ => k, fun z => absurd h5 z⟩
  refine siw hI hd (fun q1 => ?_) (fun q0 w w1 w2 w3 hw => ?_) (fun q0 hno => ⟨fun hu => ?_, fun hu => ?_⟩)
  · refine cod (rdo_c (d := rfd M - 1) (by omega) (xe_cut (by omega)) hS hW hCt hDs hb h15 (fun f C' hr => hQ f C' (wap _ (fun _ => ?_) (fun z => by omega))))
    unfold w_R_acts_32
    exact ⟨by decide, fun _ => ⟨q1, hr _ (fun M' y => hI.g hd3 hd5 h6 y)⟩, fun z => absurd rfl z⟩
  · have wb : ∀ P : xM → Prop, w_R_acts_32 0 (rwc w + 1) M P → w_R_acts (rkM (M.2.1 0) (M.1 16) (M.1 17)) M P := fun P k => wap P (fun z => by omega) (fun _ => by rw [hw]; exact rbo_w w w1 w2 w3 k)
    by_cases a37 : w < 37
    · have e1 : rcd w = rwc w ∧ 1 ≤ rwc w ∧ rwc w < 40 ∧ xwK w < 6 := (by decide : ∀ w, w < 37 → rcd w = rwc w ∧ 1 ≤ rwc w ∧ rwc w < 40 ∧ xwK w < 6) w a37
      refine ⟨fun z => by omega, fun _ => ⟨fun z => by omega, fun _ => ⟨fun z => by omega, fun _ => ⟨fun z => by omega, fun _ => cod ?_⟩⟩⟩⟩
      refine rdo_v (v := nI 0) (by omega) (fun _ => rfl) hS hW hCt hb h15 (fun f C' hr => hQ f C' (wb _ (aw_op e1.2.1 e1.2.2.1 ?_)))
      rw [← e1.1]
      exact hr _ (fun M' y => hI.g hd3 hd5 h6 y)
    by_cases a52 : w < 52
    · have e1 : (xwK w = 6 ∨ xwK w = 7 ∨ xwK w = 8) ∧ 53 ≤ rwc w ∧ rwc w < 100 := (by decide : ∀ w, w < 52 → (¬ w < 37 ∧ w ≠ 37 ∧ w ≠ 49 → (xwK w = 6 ∨ xwK w = 7 ∨ xwK w = 8) ∧ 53 ≤ rwc w ∧ rwc w < 100)) w a52 ⟨a37, w2, w3⟩
      have z : Q 57 C := hQ 57 C (wb _ (aw_wr e1.2.1 e1.2.2 (rwr hb (hI.f (f := 57) m160 (by decide) (by decide)))))
      have zf : w_F_fitting 0 C (fun r25 C24 => Q r25 C24) := ⟨by decide, fun _ => z, fun y => absurd rfl y⟩
      exact ⟨fun _ => ⟨by omega, fun _ => zf, fun y => absurd h5 y⟩, fun n6 => ⟨fun _ => ⟨by omega, fun _ => zf, fun y => absurd h5 y⟩, fun n7 => ⟨fun _ => ⟨by omega, fun _ => zf, fun y => absurd h5 y⟩, fun n8 => by omega⟩⟩⟩
    have a3 : w = 52 ∨ w = 53 ∨ w = 54 := by omega
    have e1 : xwK w = 9 ∧ 50 ≤ rwc w ∧ rwc w ≤ 52 := by rcases a3 with z | z | z <;> subst z <;> decide
    refine ⟨fun z => by omega, fun _ => ⟨fun z => by omega, fun _ => ⟨fun z => by omega, fun _ => ⟨fun _ => ⟨by omega, fun _ => ?_, fun y => absurd h5 y⟩, fun z => by omega⟩⟩⟩⟩
    exact sdef hI hd3 hd5 h6 he a3 (fun f C' hr => hQ f C' (wb _ (aw_df e1.2.1 e1.2.2 hr)))
  · refine hQ 56 C (wap _ (fun z => by omega) (fun _ => rbo_n hno (aw_nu (risM c4 h17 c5 ?_))))
    rw [hu, if_neg (by decide)]
    exact ⟨by decide, fun _ => rwr hb (hI.f (f := 56) m160 (by decide) (by decide)), fun z => absurd rfl z⟩
  · refine cod (rdo_v (v := rnI (M.2.1 0) (M.1 16) (M.1 17)) (by decide) (fun _ => rfl) hS hW hCt hb h15 (fun f C' hr => hQ f C' (wap _ (fun z => by omega) (fun _ => rbo_n hno (aw_nu (risM c4 h17 c5 ?_))))))
    rw [hu, if_pos rfl]
    refine ⟨by decide, fun z => absurd z (by decide), fun _ => ?_⟩
    have hs := hr _ (fun M' y => hI.g hd3 hd5 h6 y)
    have t2 := hCt.2.1
    obtain ⟨s1, s2⟩ := rstp_inv hb hs
    refine rstp hb t2 (fun q => ⟨by decide, fun _ => (s1 q).2.1 rfl, fun z => absurd rfl z⟩) (fun q => ⟨by decide, fun z => absurd z (by decide), fun _ => ?_⟩)
    exact rnmM (M := dN M 12 (M.1 12 + 1)) c4 h17 c5 hu ((s2 (by omega)).2.2 (by decide))
end SM
