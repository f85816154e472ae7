/-! a text is interpreted: alike -/
/-- both sides between calls -/
def rB (z0 e : Nat) (C : xC) (M : xM) : Prop := rF z0 e C M ∧ rTx C M ∧ rS C M ∧ rCp C M ∧ C.1 1 = 0 ∧ C.1 2 = 0 ∧ C.1 3 = 0
/-- the other object's number of an exception that interpreting throws -/
def rxi (ci : Nat) : Nat := if ci = 10 then 1 else if ci = 8 then 2 else if ci = 9 then 3 else if ci = 11 then 4 else if ci = 12 then 5 else 0
def rMz (M : xM) : xM := dN (dN (dN (dN (dN M 2 0) 9 0) 10 0) 6 0) 0 (M.1 1)
def rCz (C : xC) (ci : Nat) : xC := cX (cN (cN (cN (cN (cN (cN (cN C 0 0) 1 0) 2 0) 3 0) 9 0) 10 0) 5 0) ci
section SN
variable {z0 e : Nat} {C : xC} {M : xM} {Q E : Nat → xC → Prop}
theorem rF.cx {ci : Nat} (k : rF z0 e C M) : rF z0 (e + 1) (cX C ci) M := by
  obtain ⟨k1, k2, k3, k4, ⟨H, k5a, k5b, k5c⟩, k6, ⟨k7a, k7b⟩, k8⟩ := k
  refine ⟨k1, k2, k3, k4, ⟨H, k5a, k5b, fun d hd => ?_⟩, fun d hd => ?_, ⟨?_, ?_⟩, k8⟩
  · obtain ⟨a, D, x1, x2, x3⟩ := k5c d hd
    exact ⟨a, D, x1, x2.ap rfl, x3⟩
  · obtain ⟨a, D, x1, x2, x3⟩ := k6 d hd
    exact ⟨a, D, x1, x2.ap rfl, x3⟩
  · show (C.2.2.2.2.2.2.1 ++ [_]).length ≤ 5 * C.1 4 + (e + 1)
    rw [List.length_append]
    have : ∀ x : va_E, [x].length = 1 := fun _ => rfl
    rw [this]; omega
  · show C.2.2.2.2.2.2.2 + 6 ≤ z0 + 246 * C.1 4 + 6 * (e + 1)
    omega
theorem rF.cf {ci : Nat} (k : rF z0 e C M) : rB z0 (e + 1) (rCz C ci) (rMz M) := by
  have k8 := k.2.2.2.2.2.2.2
  refine ⟨rF.cx (C := cN (cN (cN (cN (cN (cN (cN C 0 0) 1 0) 2 0) 3 0) 9 0) 10 0) 5 0) k, ⟨rfl, Nat.zero_le _, k8, fun j hj => absurd (show j < 0 from hj) (by omega)⟩, ⟨rfl, Nat.zero_le _, fun j hj => absurd (show j < 0 from hj) (by omega), rfl, Nat.zero_le _, fun j hj => absurd (show j < 0 from hj) (by omega)⟩, ⟨rfl, Nat.zero_le _, fun q => absurd (show (0 : Nat) = 1 from q) (by decide)⟩, rfl, rfl, rfl⟩
/-- a fault ends the text: class's side -/
theorem sthr {f : Nat} {K : Nat → Nat → xC → Prop} (k : rF z0 e C M) (he : e ≤ 1000) (hf : 55 < f) (hf2 : f < 61) (hE : ∀ ci, rxi ci = rfb f → E ci (rCz C ci)) : w_F_interpret_48 K f C Q E := by
  have hlen : C.2.2.2.2.2.2.1.length + 38 < 1048576 := by
    have := k.2.2.2.2.2.2.1.1
    have := k.2.2.2.2.1
    obtain ⟨H, h5⟩ := this
    have := h5.1
    have := h5.2.1
    omega
  have hc : f = 56 ∨ f = 57 ∨ f = 58 ∨ f = 59 ∨ f = 60 := by omega
  unfold w_F_interpret_48 w_T_clear w_M_emptyStacks w_C_drop w_F_raise
  rcases hc with rfl | rfl | rfl | rfl | rfl
  · exact ⟨by decide, fun q => absurd q (by decide), fun _ => ⟨by decide, by decide, by decide, fun _ => ⟨hlen, hE 10 rfl⟩, fun q => absurd (by decide) q⟩⟩
  · exact ⟨by decide, fun q => absurd q (by decide), fun _ => ⟨by decide, by decide, by decide, fun q => absurd q (by decide), fun _ => ⟨fun _ => ⟨hlen, hE 8 rfl⟩, fun q => absurd (by decide) q⟩⟩⟩
  · exact ⟨by decide, fun q => absurd q (by decide), fun _ => ⟨by decide, by decide, by decide, fun q => absurd q (by decide), fun _ => ⟨fun q => absurd q (by decide), fun _ => ⟨fun _ => ⟨hlen, hE 9 rfl⟩, fun q => absurd (by decide) q⟩⟩⟩⟩
  · exact ⟨by decide, fun q => absurd q (by decide), fun _ => ⟨by decide, by decide, by decide, fun q => absurd q (by decide), fun _ => ⟨fun q => absurd q (by decide), fun _ => ⟨fun q => absurd q (by decide), fun _ => ⟨fun _ => ⟨hlen, hE 11 rfl⟩, fun q => absurd (by decide) q⟩⟩⟩⟩⟩
  · exact ⟨by decide, fun q => absurd q (by decide), fun _ => ⟨by decide, by decide, by decide, fun q => absurd q (by decide), fun _ => ⟨fun q => absurd q (by decide), fun _ => ⟨fun q => absurd q (by decide), fun _ => ⟨fun q => absurd q (by decide), fun _ => ⟨hlen, hE 12 rfl⟩⟩⟩⟩⟩⟩
/-- the text is at its end: both sides -/
theorem send {K : Nat → Nat → xC → Prop} (hI : rI z0 e C M) (h : rB z0 e (cN (cN (cN (cN C 0 0) 1 0) 2 0) 3 0) (dN M 2 0) → Q (C.1 1) (cN (cN (cN (cN C 0 0) 1 0) 2 0) 3 0)) : w_F_interpret_48 K 55 C Q E := by
  unfold w_F_interpret_48 w_T_clear
  refine ⟨by decide, fun _ => h ?_, fun q => absurd rfl q⟩
  exact ⟨hI.1, ⟨rfl, Nat.zero_le _, hI.1.2.2.2.2.2.2.2, fun j hj => absurd (show j < 0 from hj) (by omega)⟩, hI.2.2.1, hI.2.2.2.1, rfl, rfl, rfl⟩
/-- one turn, both sides -/
theorem sint_1 {l2 : Nat} {KC : Nat → Nat → xC → Prop} (he : e ≤ 1000) (hI : rI z0 e C M) (h3 : C.1 3 = M.1 3) (h30 : C.1 3 ≤ C.1 0) (hl : l2 ≤ C.1 3)
    (h0 : ∀ C', rB z0 e C' (dN (rM1 M) 2 0) → (∀ (Kn : Nat → xM → Prop) (P : Nat → xM → Prop), P (C.1 1) (dN (rM1 M) 2 0) → wi_R_interpret_42 Kn (C.1 1) M P) → Q (C.1 1) C')
    (hK : ∀ f C' M', rX z0 e (rC1 C M) (rM1 M) C' f M' → (∀ (Kn : Nat → xM → Prop) (P : Nat → xM → Prop), Kn (C.1 1 + 1 + (if M'.1 3 ≤ (rM1 M).1 3 then 0 else 1)) M' → wi_R_interpret_42 Kn (C.1 1) M P) → M.1 3 < (rM1 M).1 3 → (rM1 M).1 3 ≤ 160 → KC f (l2 + 1) C') : wi_F_interpret_13 KC 55 l2 C Q E := by
  have t1 := hI.2.1.1
  have t2 := hI.2.1.2.1
  have t4 := hI.2.1.2.2.2
  have hb := hI.2.2.2.2.1
  obtain ⟨b1, b2, b3, b4⟩ := rwd_b M (by omega)
  have n0 : ∀ (Kn : Nat → xM → Prop) (P : Nat → xM → Prop), (∀ Q' : Nat → xM → Prop, Q' 0 (rM1 M) → w_R_word M Q') → P (C.1 1) (dN (rM1 M) 2 0) → wi_R_interpret_42 Kn (C.1 1) M P := fun Kn P hm hp => by
    unfold wi_R_interpret_42
    refine ⟨by omega, fun _ => hm _ ⟨by decide, fun _ => ?_, fun z => absurd rfl z⟩, fun z => absurd hb z⟩
    unfold w_R_interpret_110
    exact ⟨(show M.1 1 < 2147483648 by omega), fun _ => hp, fun z => absurd hb z⟩
  unfold wi_F_interpret_13
  refine ⟨by omega, fun q => ?_, fun q => ⟨by decide, fun _ => ?_, fun z => absurd rfl z⟩⟩
  · have hI0 : rI z0 e C (rM1 M) := hI
    refine send hI0 (fun hB => h0 _ hB (fun Kn P hp => n0 Kn P (fun Q' hq => ?_) hp))
    refine rnxM t2 (fun j hj => by have := t4 j hj; omega) (by omega) (fun r hr => ?_)
    rw [if_pos (by omega)] at hr
    rw [hr]; exact hq
  · refine snxt hI h3 h30 (fun qe hI1 hm => ⟨by decide, fun _ => ?_, fun z => absurd rfl z⟩) (fun hI1 hd hd' hlt hm => ⟨by decide, fun z => absurd z (by decide), fun _ => ?_⟩)
    · exact send hI1 (fun hB => h0 _ hB (fun Kn P hp => n0 Kn P hm hp))
    · have h61 := hI.2.2.2.1.2.1
      by_cases h6 : M.1 6 = 0
      · have hd := hd h6
        obtain ⟨c1, c2, c3, c4, c5⟩ := hd.ch hI1
        refine sact (M := rM1 M) hI1 hd h6 he (fun f C' hr => ?_)
        obtain ⟨M', hx, hp⟩ := yd_R_acts _ _ _ hr
        have x3 := hx.2.2.2.2.1
        refine hK f C' M' hx (fun Kn P hk => ?_) hlt (show rwe (M.2.1 0) (M.1 2) (M.1 3) ≤ 160 by omega)
        unfold wi_R_interpret_42
        refine ⟨by omega, fun _ => hm _ ⟨by decide, fun z => absurd z (by decide), fun _ => ?_⟩, fun z => absurd hb z⟩
        have fin : w_R_acts (rkM ((rM1 M).2.1 0) ((rM1 M).1 16) ((rM1 M).1 17)) (rM1 M) (fun M2011 => (M2011.1 3 < 2147483648 ∧ ((rM1 M).1 3 < 2147483648 ∧ ((M2011.1 3 ≤ (rM1 M).1 3 → Kn (C.1 1 + 1) M2011) ∧ (¬ (M2011.1 3 ≤ (rM1 M).1 3) → Kn (C.1 1 + 2) M2011))))) := by
          refine hp _ ⟨by omega, (show rwe (M.2.1 0) (M.1 2) (M.1 3) < 2147483648 by omega), fun y => ?_, fun y => ?_⟩
          · rw [if_pos y] at hk; exact hk
          · rw [if_neg y] at hk; exact hk
        have sp : ∀ k, k = rkM ((rM1 M).2.1 0) ((rM1 M).1 16) ((rM1 M).1 17) → ((rM1 M).1 6 < 2147483648 ∧ (((rM1 M).1 6 = 0 → w_R_acts k (rM1 M) (fun M2011 => (M2011.1 3 < 2147483648 ∧ ((rM1 M).1 3 < 2147483648 ∧ ((M2011.1 3 ≤ (rM1 M).1 3 → Kn (C.1 1 + 1) M2011) ∧ (¬ (M2011.1 3 ≤ (rM1 M).1 3) → Kn (C.1 1 + 2) M2011)))))) ∧ (¬ ((rM1 M).1 6 = 0) → w_R_compile k (rM1 M) (fun M2015 => (M2015.1 3 < 2147483648 ∧ ((rM1 M).1 3 < 2147483648 ∧ ((M2015.1 3 ≤ (rM1 M).1 3 → Kn (C.1 1 + 1) M2015) ∧ (¬ (M2015.1 3 ≤ (rM1 M).1 3) → Kn (C.1 1 + 2) M2015)))))))) := fun k hk => by
          subst hk
          exact ⟨(show M.1 6 < 2147483648 by omega), fun _ => fin, fun z => absurd h6 z⟩
        exact rpk c4 hd.2.2.2.1 c5 (fun x => sp _ (by unfold rkM; rw [if_pos x])) (fun x => sp _ (by unfold rkM; rw [if_neg (by omega)]))
      · have h6 : M.1 6 = 1 := by omega
        have hd := hd' h6
        obtain ⟨c1, c2, c3, c4, c5⟩ := hd.ch hI1
        refine scmp (M := rM1 M) hI1 hd h6 he (fun f C' hr => ?_)
        obtain ⟨M', hx, hp⟩ := yd_R_compile _ _ _ hr
        have x3 := hx.2.2.2.2.1
        refine hK f C' M' hx (fun Kn P hk => ?_) hlt (show rwe (M.2.1 0) (M.1 2) (M.1 3) ≤ 160 by omega)
        unfold wi_R_interpret_42
        refine ⟨by omega, fun _ => hm _ ⟨by decide, fun z => absurd z (by decide), fun _ => ?_⟩, fun z => absurd hb z⟩
        have fin : w_R_compile (rkM ((rM1 M).2.1 0) ((rM1 M).1 16) ((rM1 M).1 17)) (rM1 M) (fun M2011 => (M2011.1 3 < 2147483648 ∧ ((rM1 M).1 3 < 2147483648 ∧ ((M2011.1 3 ≤ (rM1 M).1 3 → Kn (C.1 1 + 1) M2011) ∧ (¬ (M2011.1 3 ≤ (rM1 M).1 3) → Kn (C.1 1 + 2) M2011))))) := by
          refine hp _ ⟨by omega, (show rwe (M.2.1 0) (M.1 2) (M.1 3) < 2147483648 by omega), fun y => ?_, fun y => ?_⟩
          · rw [if_pos y] at hk; exact hk
          · rw [if_neg y] at hk; exact hk
        have sp : ∀ k, k = rkM ((rM1 M).2.1 0) ((rM1 M).1 16) ((rM1 M).1 17) → ((rM1 M).1 6 < 2147483648 ∧ (((rM1 M).1 6 = 0 → w_R_acts k (rM1 M) (fun M2011 => (M2011.1 3 < 2147483648 ∧ ((rM1 M).1 3 < 2147483648 ∧ ((M2011.1 3 ≤ (rM1 M).1 3 → Kn (C.1 1 + 1) M2011) ∧ (¬ (M2011.1 3 ≤ (rM1 M).1 3) → Kn (C.1 1 + 2) M2011)))))) ∧ (¬ ((rM1 M).1 6 = 0) → w_R_compile k (rM1 M) (fun M2015 => (M2015.1 3 < 2147483648 ∧ ((rM1 M).1 3 < 2147483648 ∧ ((M2015.1 3 ≤ (rM1 M).1 3 → Kn (C.1 1 + 1) M2015) ∧ (¬ (M2015.1 3 ≤ (rM1 M).1 3) → Kn (C.1 1 + 2) M2015)))))))) := fun k hk => by
          subst hk
          exact ⟨(show M.1 6 < 2147483648 by omega), fun z => absurd (h6.symm.trans z) (by decide), fun _ => fin⟩
        exact rpk c4 hd.2.2.2.1 c5 (fun x => sp _ (by unfold rkM; rw [if_pos x])) (fun x => sp _ (by unfold rkM; rw [if_neg (by omega)]))
/-- behind a fault, both sides -/
theorem sint_f {f l2 n : Nat} (k : rF z0 e C M) (he : e ≤ 1000) (hf : 55 < f) (hf2 : f < 61) (hb : M.1 1 = rfb f) (hl : l2 < 2147483648) (hE : ∀ ci C', (∀ (l1 k : Nat) (P : Nat → xM → Prop), (∀ M', M'.1 0 = rxi ci → 1 ≤ rxi ci → rB z0 (e + 1) C' M' → P 0 M') → w_R_interpret_42 (k + 1) l1 M P) → E ci C') : w_F_interpret_13 (n + 1) f l2 C Q E := by
  have hfb : 1 ≤ rfb f ∧ rfb f < 6 := by
    have hc : f = 56 ∨ f = 57 ∨ f = 58 ∨ f = 59 ∨ f = 60 := by omega
    rcases hc with rfl | rfl | rfl | rfl | rfl <;> decide
  have h48 : ∀ K, w_F_interpret_48 K f C Q E := fun K => sthr k he hf hf2 (fun ci hc => hE ci _ (fun l1 k' P hp => by
    unfold w_R_interpret_42 wi_R_interpret_42 w_R_interpret_110 w_R_fail
    refine ⟨by omega, fun z => by omega, fun _ => ⟨by omega, fun z => by omega, fun _ => ?_⟩⟩
    exact hp (rMz M) (hb.trans hc.symm) (by omega) k.cf))
  unfold w_F_interpret_13 wi_F_interpret_13
  exact ⟨hl, fun _ => h48 _, fun _ => ⟨hf2, fun z => by omega, fun _ => h48 _⟩⟩
theorem sint_l (he : e ≤ 1000) : ∀ (m l2 : Nat) (C : xC) (M : xM), rI z0 e C M → C.1 3 = M.1 3 → C.1 3 ≤ C.1 0 → l2 ≤ C.1 3 → 160 ≤ M.1 3 + m →
    (∀ r C', w_R_interpret_42 (m + 2) (C.1 1) M (fun r' M' => r' = r ∧ M'.1 0 = 0 ∧ rB z0 e C' M') → Q r C') →
    (∀ ci C', w_R_interpret_42 (m + 2) (C.1 1) M (fun _ M' => M'.1 0 = rxi ci ∧ 1 ≤ rxi ci ∧ rB z0 (e + 1) C' M') → E ci C') → w_F_interpret_13 (m + 2) 55 l2 C Q E := by
  intro m
  induction m with
  | zero =>
    intro l2 C M hI h3 h30 hl hm hQ hE
    unfold w_F_interpret_13
    refine sint_1 he hI h3 h30 hl (fun C' hB hw => hQ _ C' ?_) (fun f C' M' hx hw hlt hle => by omega)
    unfold w_R_interpret_42
    exact hw _ _ ⟨rfl, hI.2.2.2.2.2.2, hB⟩
  | succ m ih =>
    intro l2 C M hI h3 h30 hl hm hQ hE
    unfold w_F_interpret_13
    refine sint_1 he hI h3 h30 hl (fun C' hB hw => hQ _ C' ?_) (fun f C' M' hx hw hlt hle => ?_)
    · unfold w_R_interpret_42
      exact hw _ _ ⟨rfl, hI.2.2.2.2.2.2, hB⟩
    · have t1 := hI.2.1.1
      have t2 := hI.2.1.2.1
      obtain ⟨x1, x2, x3, x4, x5, x6⟩ := hx
      by_cases q : f = 55
      · obtain ⟨y1, y2, y3, y4, y5⟩ := x6 q
        subst q
        have e3 : (rC1 C M).1 3 = (rM1 M).1 3 := rfl
        have e1 : (rC1 C M).1 1 = C.1 1 + 1 := rfl
        rw [e1] at y5
        rw [← y5] at hw
        refine ih (l2 + 1) C' M' y1 y2 y4 (by omega) (by omega) (fun r C'' hr => hQ r C'' ?_) (fun ci C'' hr => hE ci C'' ?_)
        · unfold w_R_interpret_42; exact hw _ _ hr
        · unfold w_R_interpret_42; exact hw _ _ hr
      · refine sint_f (M := M') x4 he (by omega) x2 x3 (by omega) (fun ci C'' hr => hE ci C'' ?_)
        unfold w_R_interpret_42
        exact hw _ _ (hr _ (m + 1) _ (fun M'' a b c => ⟨a, b, c⟩))
theorem sint (he : e ≤ 1000) (hB : rB z0 e C M) (hQ : ∀ r C', w_R_interpret M (fun r' M' => r' = r ∧ M'.1 0 = 0 ∧ rB z0 e C' M') → Q r C') (hE : ∀ ci C', w_R_interpret M (fun _ M' => M'.1 0 = rxi ci ∧ 1 ≤ rxi ci ∧ rB z0 (e + 1) C' M') → E ci C') : w_F_interpret C Q E := by
  obtain ⟨⟨⟨k1a, k1b, k1c⟩, k2, k3, k4, k5, k6, k7⟩, hT, hS, hC, b1, b2, b3⟩ := hB
  have hI : rI z0 e (cN (cN (cN (cN C 13 0) 14 0) 15 0) 16 0) (dN (dN (dN (dN (dN (dN (dN (dN M 0 0) 1 0) 3 0) 11 0) 12 0) 13 0) 14 0) 15 0) := ⟨⟨⟨k1a, rfl, fun k _ hk => absurd (show k < 0 from hk) (by omega)⟩, ⟨rfl, Nat.zero_le _, rfl, rfl, Nat.le_refl 0⟩, k3, k4, k5, k6, k7⟩, hT, hS, hC, rfl, rfl, rfl⟩
  unfold w_F_interpret w_M_beginText
  refine ⟨162, sint_l he 160 0 _ _ hI b3 (show C.1 3 ≤ C.1 0 by omega) (Nat.zero_le _) (Nat.le_refl 160) (fun r C' hr => hQ r C' ⟨162, ?_⟩) (fun ci C' hr => hE ci C' ⟨162, ?_⟩)⟩
  · have : (cN (cN (cN (cN C 13 0) 14 0) 15 0) 16 0).1 1 = 0 := b1
    rw [this] at hr; exact hr
  · have : (cN (cN (cN (cN C 13 0) 14 0) 15 0) 16 0).1 1 = 0 := b1
    rw [this] at hr; exact hr
end SN
