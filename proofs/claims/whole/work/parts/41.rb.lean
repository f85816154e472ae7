/-! doing a word: the two sides alike -/
theorem rpfC {w : Nat} {n : Int32} {C : xC} {Q : Nat → xC → Prop} (hw : w < 50) (hd : C.1 9 ≤ 24) (h1 : C.1 9 < xwT w → Q 58 C) (h3 : xwT w ≤ C.1 9 → 24 < C.1 9 - xwT w + xwL w → Q 58 C) (h0 : xwT w ≤ C.1 9 → C.1 9 - xwT w + xwL w ≤ 24 → ((xwK w = 0 → w_M_performOfTwo w C Q) ∧ (xwK w = 1 → w_S_pop_0 C (fun r C1 => w_M_ofOne w r C1 (fun r C2 => w_S_push_0 r C2 (fun C3 => Q 55 C3)))) ∧ (xwK w = 2 → w_M_move w C Q) ∧ (xwK w = 3 → w_S_pop_0 C (fun r C1 => w_M_useCell w r C1 Q)) ∧ (xwK w = 4 → w_M_useReturns w C Q) ∧ (xwK w = 5 → w_M_put w n C Q) ∧ (5 < xwK w → w_M_control w n C Q))) : w_M_perform w n C Q := by
  have e1 : ∀ w, w < 50 → xwT w < 5 ∧ xwL w < 5 ∧ xwK w < 10 := by decide
  obtain ⟨a1, a2, a3⟩ := e1 w hw
  have b1 : w < 55 := by omega
  have b2 : xwT w < 2147483648 := by omega
  have b3 : xwK w < 2147483648 := by omega
  unfold w_M_perform
  refine ⟨b1, by omega, b2, h1, fun c1 => ⟨b1, b1, b1, ?_⟩⟩
  unfold w_S_hasRoom_0
  refine ⟨by omega, b2, fun c2 => ⟨by decide, fun _ => h3 (by omega) (by omega), fun q => absurd rfl q⟩, fun c2 => ⟨by decide, fun q => absurd q (by decide), fun _ => ?_⟩⟩
  obtain ⟨k0, k1, k2, k3, k4, k5, k6⟩ := h0 (by omega) (by omega)
  exact ⟨b1, b3, k0, fun _ => ⟨k1, fun _ => ⟨k2, fun _ => ⟨k3, fun _ => ⟨k4, fun _ => ⟨k5, fun _ => k6 (by omega)⟩⟩⟩⟩⟩⟩
theorem rwr {b : Nat} {M : xM} {Q : xM → Prop} (hb : M.1 1 = 0) (h : Q (dN M 1 b)) : w_R_wrong b M Q := by
  unfold w_R_wrong
  exact ⟨by omega, fun _ => h, fun q => absurd hb q⟩
section RB
variable {w : Nat} {v : Int32} {M : xM} {Q : xM → Prop}
theorem rpfM_few (hw : w < 38) (hb : M.1 1 = 0) (hd : M.1 9 ≤ 24) (c : M.1 9 < xwT w) (h : Q (dN M 1 3)) : w_R_perform (rcd w) v M Q := by
  have e1 : ∀ w, w < 38 → xwT w < 5 := by decide
  have a1 := e1 w hw
  unfold w_R_perform
  refine rtkM w (by omega) (by omega) ⟨by omega, by omega, fun c1 => absurd c (by omega), fun c1 => rwr hb ?_⟩
  unfold w_R_perform_16
  have e : (dN M 1 3).1 1 = 3 := rfl
  exact ⟨by rw [e]; decide, fun _ => h, fun q => absurd (by rw [e]; decide) q⟩
theorem rpfM_no {b : Nat} (hw : w < 38) (hb : M.1 1 = 0) (hd : M.1 9 ≤ 24) (c : xwT w ≤ M.1 9) (hf : ∀ Q' : Nat → xM → Prop, Q' 0 (dN M 1 b) → w_R_fits (rcd w) M Q') (h : Q (dN M 1 b)) : w_R_perform (rcd w) v M Q := by
  have e1 : ∀ w, w < 38 → xwT w < 5 := by decide
  have a1 := e1 w hw
  unfold w_R_perform
  refine rtkM w (by omega) (by omega) ⟨by omega, by omega, fun _ => ?_, fun q => absurd c q⟩
  unfold w_R_perform_16
  exact ⟨by omega, fun q => by omega, fun _ => hf _ ⟨by decide, fun _ => h, fun q => absurd rfl q⟩⟩
theorem rpfM_ok (hw : w < 38) (hb : M.1 1 = 0) (hd : M.1 9 ≤ 24) (c : xwT w ≤ M.1 9) (hf : ∀ Q' : Nat → xM → Prop, Q' 1 M → w_R_fits (rcd w) M Q') (h3 : 24 < M.1 9 - xwT w + xwL w → Q (dN M 1 3)) (h : M.1 9 - xwT w + xwL w ≤ 24 → w_R_does (rcd w) v M Q) : w_R_perform (rcd w) v M Q := by
  have e1 : ∀ w, w < 38 → xwT w < 5 ∧ xwL w < 5 := by decide
  have a1 := e1 w hw
  unfold w_R_perform
  refine rtkM w (by omega) (by omega) ⟨by omega, by omega, fun _ => ?_, fun q => absurd c q⟩
  unfold w_R_perform_16
  exact ⟨by omega, fun q => by omega, fun _ => hf _ ⟨by decide, fun q => absurd q (by decide), fun _ => rtkM w (by omega) (by omega) (rgvM w (by omega) (by omega) ⟨by omega, by omega, fun c2 => h (by omega), fun c2 => rwr hb (h3 (by omega))⟩)⟩⟩
end RB
section RF
variable {w : Nat} {M : xM} {Q : Nat → xM → Prop}
theorem rft_109 {c : Nat} (hc : c < 47) (hb : M.1 1 < 2147483648) (h : Q (if M.1 1 = 0 then 1 else 0) M) : w_R_fits_109 c M Q := by
  unfold w_R_fits_109 w_R_fits_124
  have e : ¬ c = 47 := by omega
  have e2 : ¬ c = 48 := by omega
  exact ⟨by omega, fun q => absurd q e, fun _ => ⟨by omega, fun q => absurd q e2, fun _ => ⟨hb, fun q => by rw [if_pos q] at h; exact h, fun q => by rw [if_neg q] at h; exact h⟩⟩⟩
theorem rft_85 {c : Nat} (hc : c < 47) (c1 : c ≠ 34) (c2 : c ≠ 35) (hb : M.1 1 < 2147483648) (h : Q (if M.1 1 = 0 then 1 else 0) M) : w_R_fits_85 c M Q := by
  unfold w_R_fits_85
  exact ⟨by omega, fun q => absurd q c1, fun _ => ⟨by omega, fun q => absurd q c2, fun _ => rft_109 hc hb h⟩⟩
theorem rft_70 {c : Nat} (hc : c < 47) (c0 : c ≠ 33) (c1 : c ≠ 34) (c2 : c ≠ 35) (hb : M.1 1 < 2147483648) (h : Q (if M.1 1 = 0 then 1 else 0) M) : w_R_fits_70 c M Q := by
  unfold w_R_fits_70
  exact ⟨by omega, fun q => absurd q c0, fun _ => rft_85 hc c1 c2 hb h⟩
theorem rft_104 {c : Nat} (hc : c < 47) (hb : M.1 1 = 0) (h : Q 0 (dN M 1 3)) : w_R_fits_104 c M Q := by
  unfold w_R_fits_104
  have e : (dN M 1 3).1 1 = 3 := rfl
  exact rwr hb (rft_109 hc (by rw [e]; decide) (by rw [e]; exact h))
theorem rwi {a lo hi : Nat} {Q : Nat → xM → Prop} (ha : a < 2147483648) (hl : lo < 2147483648) (hh : hi < 2147483648) (h : Q (if lo ≤ a ∧ a ≤ hi then 1 else 0) M) : w_R_within_NNN a lo hi M Q := by
  unfold w_R_within_NNN
  by_cases c1 : lo ≤ a
  · by_cases c2 : a ≤ hi
    · rw [if_pos ⟨c1, c2⟩] at h
      exact ⟨ha, hl, fun q => absurd c1 (by omega), fun _ => ⟨ha, hh, fun q => absurd c2 (by omega), fun _ => h⟩⟩
    · rw [if_neg (fun q => c2 q.2)] at h
      exact ⟨ha, hl, fun q => absurd c1 (by omega), fun _ => ⟨ha, hh, fun _ => h, fun q => absurd c2 (by omega)⟩⟩
  · rw [if_neg (fun q => c1 q.1)] at h
    exact ⟨ha, hl, fun _ => h, fun q => absurd c1 (by omega)⟩
/-- an int within 0 and hi -/
theorem rwj {t : Int32} {hi : Nat} {Q : Nat → xM → Prop} (hh : hi < 2147483648) (h1 : ∀ e, e ≤ hi → t = nI e → Q 1 M) (h0 : (∀ e, e ≤ hi → t ≠ nI e) → Q 0 M) : w_R_within_INN t 0 hi M Q := by
  unfold w_R_within_INN
  refine ⟨by decide, fun q => h0 fun e he hq => ?_, fun e he hl => ⟨hl, by decide, fun q => absurd q (Nat.not_lt_zero _), fun _ => ⟨hl, hh, fun q => h0 fun e2 h2 hq => ?_, fun q => h1 e (by omega) he⟩⟩⟩
  · rw [hq, Int32.lt_iff_toInt_lt, xt_N (by omega)] at q
    have : (0 : Int32).toInt = 0 := rfl
    omega
  · have e3 : (nI e).toInt = (nI e2).toInt := by rw [← he, hq]
    rw [xt_N hl, xt_N (by omega)] at e3
    omega
theorem rft_44 {c : Nat} {t : Int32} (hc : c < 47) (c0 : c < 30 ∨ 35 < c) (hb : M.1 1 < 2147483648) (h : Q (if M.1 1 = 0 then 1 else 0) M) : w_R_fits_44 c t M Q := by
  unfold w_R_fits_44
  refine rwi (by omega) (by decide) (by decide) ?_
  rw [if_neg (by omega)]
  exact ⟨by decide, fun _ => rft_70 hc (by omega) (by omega) (by omega) hb h, fun q => absurd rfl q⟩
/-- words that fit always -/
theorem rft0 {c : Nat} (hc : c < 47) (c0 : c < 9 ∨ (10 < c ∧ c < 30) ∨ 35 < c) (hb : M.1 1 = 0) (hd : M.1 9 ≤ 24) (h : Q 1 M) : w_R_fits c M Q := by
  have h' : Q (if M.1 1 = 0 then 1 else 0) M := by rw [if_pos hb]; exact h
  have e1 : ¬ c = 9 := by omega
  have e2 : ¬ c = 10 := by omega
  unfold w_R_fits
  refine ⟨by omega, fun _ => ⟨by omega, fun q => absurd q e1, fun _ => ⟨by omega, fun q => absurd q e2, fun _ => rft_44 hc (by omega) (by omega) h'⟩⟩, fun _ => ⟨by omega, by omega, by omega, fun q => absurd q e1, fun _ => ⟨by omega, fun q => absurd q e2, fun _ => rft_44 hc (by omega) (by omega) h'⟩⟩⟩
/-- division -/
theorem rftd {c : Nat} (c0 : c = 9 ∨ c = 10) (hb : M.1 1 = 0) (hd : M.1 9 ≤ 24) (h1 : 1 ≤ M.1 9) (h : ¬ M.2.2.1 1 (M.1 9 - 1) = 0 → Q 1 M) (h2 : M.2.2.1 1 (M.1 9 - 1) = 0 → Q 0 (dN M 1 4)) : w_R_fits c M Q := by
  have k : w_R_fits_35 c (M.2.2.1 1 (M.1 9 - 1)) M Q := by
    unfold w_R_fits_35
    have e : (dN M 1 4).1 1 = 4 := rfl
    exact ⟨fun q => rwr hb (rft_44 (by omega) (by omega) (by rw [e]; decide) (by rw [e]; exact h2 q)), fun q => rft_44 (by omega) (by omega) (by omega) (by rw [if_pos hb]; exact h q)⟩
  unfold w_R_fits
  exact ⟨by omega, fun q => by omega, fun _ => ⟨h1, by omega, by omega, fun _ => k, fun _ => ⟨by omega, fun _ => k, fun q => by omega⟩⟩⟩
/-- cells -/
theorem rftc {c : Nat} (c0 : 30 ≤ c ∧ c ≤ 32) (hb : M.1 1 = 0) (hd : M.1 9 ≤ 24) (h1 : 1 ≤ M.1 9) (h : ∀ e, e ≤ 63 → M.2.2.1 1 (M.1 9 - 1) = nI e → Q 1 M) (h2 : (∀ e, e ≤ 63 → M.2.2.1 1 (M.1 9 - 1) ≠ nI e) → Q 0 (dN M 1 3)) : w_R_fits c M Q := by
  have e1 : ¬ c = 9 := by omega
  have e2 : ¬ c = 10 := by omega
  unfold w_R_fits
  refine ⟨by omega, fun q => by omega, fun _ => ⟨h1, by omega, by omega, fun q => absurd q e1, fun _ => ⟨by omega, fun q => absurd q e2, fun _ => ?_⟩⟩⟩
  unfold w_R_fits_44
  refine rwi (by omega) (by decide) (by decide) ?_
  rw [if_pos (by omega)]
  have e : (dN M 1 3).1 1 = 3 := rfl
  refine ⟨by decide, fun q => absurd q (by decide), fun _ => rwj (by decide) (fun e he hq => ⟨by decide, fun q => absurd q (by decide), fun _ => rft_70 (by omega) (by omega) (by omega) (by omega) (by omega) (by rw [if_pos hb]; exact h e he hq)⟩) (fun hq => ⟨by decide, fun _ => rwr hb (rft_70 (by omega) (by omega) (by omega) (by omega) (by rw [e]; decide) (by rw [e]; exact h2 hq)), fun q => absurd rfl q⟩)⟩
/-- the return stack -/
theorem rftr {c : Nat} (c0 : c = 33 ∨ c = 34 ∨ c = 35) (hb : M.1 1 = 0) (hd : M.1 9 ≤ 24) (hr : M.1 10 ≤ 24) (h : (c = 33 → M.1 10 < 24) → (c ≠ 33 → 0 < M.1 10) → Q 1 M) (h2 : (c = 33 ∧ M.1 10 = 24) ∨ (c ≠ 33 ∧ M.1 10 = 0) → Q 0 (dN M 1 3)) : w_R_fits c M Q := by
  have e1 : ¬ c = 9 := by omega
  have e2 : ¬ c = 10 := by omega
  have k : ∀ t, w_R_fits_44 c t M Q := by
    intro t
    unfold w_R_fits_44
    refine rwi (by omega) (by decide) (by decide) ?_
    rw [if_neg (by omega)]
    refine ⟨by decide, fun _ => ?_, fun q => absurd rfl q⟩
    unfold w_R_fits_70
    have z97 : c ≠ 33 → w_R_fits_97 c M Q := fun hc => by
      unfold w_R_fits_97
      exact ⟨by omega, fun q => rft_104 (by omega) hb (h2 (Or.inr ⟨hc, q⟩)), fun q => rft_109 (by omega) (by omega) (by rw [if_pos hb]; exact h (fun z => absurd z hc) (fun _ => by omega))⟩
    refine ⟨by omega, fun q => ⟨by omega, fun q2 => rft_104 (by omega) hb (h2 (Or.inl ⟨q, q2⟩)), fun q2 => rft_85 (by omega) (by omega) (by omega) (by omega) (by rw [if_pos hb]; exact h (fun _ => by omega) (fun z => absurd q z))⟩, fun q => ?_⟩
    unfold w_R_fits_85
    exact ⟨by omega, fun _ => z97 q, fun _ => ⟨by omega, fun _ => z97 q, fun z => by omega⟩⟩
  unfold w_R_fits
  exact ⟨by omega, fun _ => ⟨by omega, fun q => absurd q e1, fun _ => ⟨by omega, fun q => absurd q e2, fun _ => k _⟩⟩, fun _ => ⟨by omega, by omega, by omega, fun q => absurd q e1, fun _ => ⟨by omega, fun q => absurd q e2, fun _ => k _⟩⟩⟩
end RF
