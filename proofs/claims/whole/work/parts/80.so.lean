/-! the calls that only answer: alike -/
theorem sg_n {v : Int32} {k : Nat} (h : v < 0) (h2 : v = nI k) (l : k < 2147483648) : False := by
  rw [h2, Int32.lt_iff_toInt_lt, xt_N l] at h
  have : (0 : Int32).toInt = 0 := rfl
  omega
/-- a call's end: the other object's number of what was thrown, the row of the law, and both sides alike -/
def rOk (z0 e r : Nat) (C' : xC) (v : Int64) (M' : xM) : Prop := M'.1 0 = r ∧ r < 6 ∧ (r = 0 → C'.2.2.2.2.2.1 0 = v) ∧ rB z0 (e + 1) C' M'
section SO
variable {z0 e : Nat} {C : xC} {M : xM}
theorem rB.up (k : rB z0 e C M) : rB z0 (e + 1) C M := by
  obtain ⟨⟨k1, k2, k3, k4, k5, k6, ⟨k7a, k7b⟩, k8⟩, k9⟩ := k
  exact ⟨⟨k1, k2, k3, k4, k5, k6, ⟨by omega, by omega⟩, k8⟩, k9⟩
theorem rB.cx {ci t : Nat} (k : rB z0 e C M) : rB z0 (e + 1) (cX C ci) (dN (dN M 0 0) 0 t) := ⟨k.1.cx, k.2.1, k.2.2.1, k.2.2.2.1, k.2.2.2.2⟩
theorem rB.co {v : Int64} (k : rB z0 e C M) : rB z0 (e + 1) (cO C 0 v) (dN M 0 0) := k.up
theorem rB.len (k : rB z0 e C M) (he : e ≤ 1000) : C.2.2.2.2.2.2.1.length + 38 < 1048576 := by
  have := k.1.2.2.2.2.2.2.1.1
  obtain ⟨H, h5⟩ := k.1.2.2.2.2.1
  have := h5.1
  have := h5.2.1
  omega
theorem rB.no {ci t : Nat} {v : Int64} (k : rB z0 e C M) (h1 : 1 ≤ t) (h2 : t < 6) : rOk z0 e t (cX C ci) v (dN (dN M 0 0) 0 t) := ⟨rfl, h2, fun q => by omega, k.cx⟩
theorem rB.ye {v : Int64} (k : rB z0 e C M) : rOk z0 e 0 (cO C 0 v) v (dN M 0 0) := ⟨rfl, by decide, fun _ => rfl, k.co⟩
theorem lTop {x : Int32} {Q : Nat → xC → Prop} (hB : rB z0 e C M) (he : e ≤ 1000) (hQ : ∀ r C' (v : Int32) M', rOk z0 e r C' v.toInt64 M' → (∀ P : Int32 → xM → Prop, P v M' → w_R_top x M P) → Q r C') : w_L_top x C Q := by
  have hlen := hB.len he
  obtain ⟨s1, s2, s3, s4, s5, s6⟩ := hB.2.2.1
  have bad : (∀ P : Int32 → xM → Prop, P (nI 0) (dN (dN M 0 0) 0 1) → w_R_top x M P) → Q 1 (cX C 13) := fun hm => hQ 1 (cX C 13) (nI 0) _ (hB.no (by decide) (by decide)) hm
  unfold w_L_top w_F_top
  refine ⟨fun hx => ⟨hlen, fun _ => bad (fun P hp => ?_), fun z => absurd rfl z⟩, fun e1 hx h1 => ⟨h1, fun z => by omega, fun _ => ⟨h1, by omega, fun q => ?_, fun q => ⟨hlen, fun _ => bad (fun P hp => ?_), fun z => absurd rfl z⟩⟩⟩⟩
  · unfold w_R_top w_R_within_GNZ w_R_fail
    exact ⟨fun _ => ⟨hx, by decide, by decide, fun _ => hp, fun z => absurd rfl z⟩, fun k hk hl => (sg_n hx hk hl).elim⟩
  · unfold w_S_fromTop_0
    refine ⟨by omega, by omega, by decide, hQ 0 _ _ _ hB.ye (fun P hp => ?_)⟩
    unfold w_R_top w_R_within_NNZ
    refine ⟨fun z => (sg_n z hx h1).elim, fun k hk hl => ?_⟩
    have := d_inj hx hk h1 hl
    subst this
    refine ⟨by omega, by omega, fun z => by omega, fun _ => ⟨by omega, by omega, by decide, fun z => by omega, fun _ => ⟨by decide, fun z => absurd z (by decide), fun _ => ⟨(show 1 + k ≤ M.1 9 by omega), (show M.1 9 - (1 + k) < 32 by omega), ?_⟩⟩⟩⟩
    have := s3 (M.1 9 - (1 + k)) (by omega)
    rw [s1, this] at hp
    exact hp
  · unfold w_R_top w_R_within_NNZ w_R_fail
    refine ⟨fun z => (sg_n z hx h1).elim, fun k hk hl => ?_⟩
    have := d_inj hx hk h1 hl
    subst this
    exact ⟨by omega, by omega, fun z => by omega, fun _ => ⟨by omega, by omega, by decide, fun _ => ⟨by decide, fun _ => hp, fun z => absurd rfl z⟩, fun z => by omega⟩⟩
theorem lCell {x : Int32} {Q : Nat → xC → Prop} (hB : rB z0 e C M) (he : e ≤ 1000) (hQ : ∀ r C' (v : Int32) M', rOk z0 e r C' v.toInt64 M' → (∀ P : Int32 → xM → Prop, P v M' → w_R_cell x M P) → Q r C') : w_L_cell x C Q := by
  have hlen := hB.len he
  have bad : (∀ P : Int32 → xM → Prop, P (nI 0) (dN (dN M 0 0) 0 1) → w_R_cell x M P) → Q 1 (cX C 13) := fun hm => hQ 1 (cX C 13) (nI 0) _ (hB.no (by decide) (by decide)) hm
  unfold w_L_cell w_F_cell w_M_isCell
  refine ⟨fun hx => ⟨by decide, fun _ => ⟨hlen, fun _ => bad (fun P hp => ?_), fun z => absurd rfl z⟩, fun z => absurd rfl z⟩, fun e1 hx h1 => ⟨h1, fun z => by omega, fun _ => ⟨h1, fun q => ⟨by decide, fun _ => ⟨hlen, fun _ => bad (fun P hp => ?_), fun z => absurd rfl z⟩, fun z => absurd rfl z⟩, fun q => ⟨by decide, fun z => absurd z (by decide), fun _ => ⟨e1, hx, by omega, by decide, hQ 0 _ _ _ hB.ye (fun P hp => ?_)⟩⟩⟩⟩⟩
  · unfold w_R_cell w_R_within_GNN w_R_fail
    exact ⟨fun _ => ⟨hx, by decide, by decide, fun _ => hp, fun z => absurd rfl z⟩, fun k hk hl => (sg_n hx hk hl).elim⟩
  · unfold w_R_cell w_R_within_NNN w_R_fail
    refine ⟨fun z => (sg_n z hx h1).elim, fun k hk hl => ?_⟩
    have := d_inj hx hk h1 hl
    subst this
    exact ⟨by omega, by omega, fun z => by omega, fun _ => ⟨by omega, by omega, fun _ => ⟨by decide, fun _ => hp, fun z => absurd rfl z⟩, fun z => by omega⟩⟩
  · unfold w_R_cell w_R_within_NNN
    refine ⟨fun z => (sg_n z hx h1).elim, fun k hk hl => ?_⟩
    have := d_inj hx hk h1 hl
    subst this
    refine ⟨by omega, by omega, fun z => by omega, fun _ => ⟨by omega, by omega, fun z => by omega, fun _ => ⟨by decide, fun z => absurd z (by decide), fun _ => ⟨by omega, ?_⟩⟩⟩⟩
    rw [hB.1.1.1 k (by omega)] at hp
    exact hp
theorem lSaying {x : Int32} {Q : Nat → xC → Prop} (hB : rB z0 e C M) (he : e ≤ 1000) (hQ : ∀ r C' (v : Int32) M', rOk z0 e r C' v.toInt64 M' → (∀ P : Int32 → xM → Prop, P v M' → w_R_saying x M P) → Q r C') : w_L_saying x C Q := by
  have hlen := hB.len he
  obtain ⟨t1, t2, t3, t4, t5⟩ := hB.1.2.1
  obtain ⟨w1, w2, w3⟩ := hB.1.1
  have bad : (∀ P : Int32 → xM → Prop, P (nI 0) (dN (dN M 0 0) 0 1) → w_R_saying x M P) → Q 1 (cX C 13) := fun hm => hQ 1 (cX C 13) (nI 0) _ (hB.no (by decide) (by decide)) hm
  unfold w_L_saying w_F_saying
  refine ⟨fun hx => ⟨hlen, fun _ => bad (fun P hp => ?_), fun z => absurd rfl z⟩, fun e1 hx h1 => ⟨h1, fun z => by omega, fun _ => ⟨h1, fun q => ⟨hlen, fun _ => bad (fun P hp => ?_), fun z => absurd rfl z⟩, fun q => ⟨h1, by omega, fun q2 => ⟨by decide, (M.1 11 - 1 - e1) % 40, ?_, Nat.mod_lt _ (by decide), by decide, hQ 0 _ _ _ hB.ye (fun P hp => ?_)⟩, fun q2 => ⟨hlen, fun _ => bad (fun P hp => ?_), fun z => absurd rfl z⟩⟩⟩⟩⟩
  · unfold w_R_saying w_R_within_GNN w_R_fail
    exact ⟨fun _ => ⟨hx, by decide, by decide, fun _ => hp, fun z => absurd rfl z⟩, fun k hk hl => (sg_n hx hk hl).elim⟩
  · unfold w_R_saying w_R_within_NNN w_R_fail
    refine ⟨fun z => (sg_n z hx h1).elim, fun k hk hl => ?_⟩
    have := d_inj hx hk h1 hl
    subst this
    exact ⟨by omega, by omega, fun z => by omega, fun _ => ⟨by omega, by omega, fun _ => ⟨by decide, fun _ => hp, fun z => absurd rfl z⟩, fun z => by omega⟩⟩
  · rw [w2, xe_cut (by omega), xe_rem (by omega) (by decide) (by decide)]
    have : M.1 11 - (1 + e1) = M.1 11 - 1 - e1 := by omega
    rw [this]
  · unfold w_R_saying w_R_within_NNN
    refine ⟨fun z => (sg_n z hx h1).elim, fun k hk hl => ?_⟩
    have := d_inj hx hk h1 hl
    subst this
    refine ⟨by omega, by omega, fun z => by omega, fun _ => ⟨by omega, by omega, fun z => by omega, fun _ => ⟨by decide, fun z => absurd z (by decide), fun _ => ⟨by omega, (show M.1 11 < 2147483648 by omega), fun z => absurd (show M.1 11 ≤ k from z) (by omega), fun _ => ⟨by omega, ?_⟩⟩⟩⟩⟩
    rw [w3 k (by omega) (by omega)] at hp
    exact hp
  · unfold w_R_saying w_R_within_NNN w_R_fail
    refine ⟨fun z => (sg_n z hx h1).elim, fun k hk hl => ?_⟩
    have := d_inj hx hk h1 hl
    subst this
    exact ⟨by omega, by omega, fun z => by omega, fun _ => ⟨by omega, by omega, fun z => by omega, fun _ => ⟨by decide, fun z => absurd z (by decide), fun _ => ⟨by omega, (show M.1 11 < 2147483648 by omega), fun _ => hp, fun z => absurd (show M.1 11 ≤ k by omega) z⟩⟩⟩⟩
theorem lCount {x : Int32} {Q : Nat → xC → Prop} (hB : rB z0 e C M) (he : e ≤ 1000) (hQ : ∀ r C' (v : Nat) M', rOk z0 e r C' ((nI v).toInt64) M' → (∀ P : Nat → xM → Prop, P v M' → w_R_count x M P) → Q r C') : w_L_count x C Q := by
  have hlen := hB.len he
  obtain ⟨t1, t2, t3, t4, t5⟩ := hB.1.2.1
  obtain ⟨H, h5⟩ := hB.1.2.2.2.2.1
  have h4 := h5.1
  have h12 := hB.1.2.2.1
  have h10 := hB.2.2.1.2.2.2.1
  have bad : (∀ P : Nat → xM → Prop, P 0 (dN (dN M 0 0) 0 1) → w_R_count x M P) → Q 1 (cX C 13) := fun hm => hQ 1 (cX C 13) 0 _ (hB.no (by decide) (by decide)) hm
  have good : ∀ (n : Nat), (∀ P : Nat → xM → Prop, P n (dN M 0 0) → w_R_count x M P) → Q 0 (cO C 0 ((nI n).toInt64)) := fun n hm => hQ 0 _ n _ hB.ye hm
  have mm : ∀ (k : Nat) (P : Nat → xM → Prop), x = nI k → k < 2147483648 → (k ≤ 5 → P ([M.1 4, M.1 12, M.1 13, M.1 14, M.1 5, M.1 10].getD k 0) (dN M 0 0)) → (5 < k → P 0 (dN (dN M 0 0) 0 1)) → w_R_count x M P := fun k P hx h1 a b => by
    unfold w_R_count w_R_within_NNN w_R_fail
    refine ⟨fun z => (sg_n z hx h1).elim, fun k' hk hl => ?_⟩
    have := d_inj hx hk h1 hl
    subst this
    refine ⟨by omega, by omega, fun z => by omega, fun _ => ⟨by omega, by omega, fun z => ⟨by decide, fun _ => b z, fun z => absurd rfl z⟩, fun z => ⟨by decide, fun z => absurd z (by decide), fun _ => ?_⟩⟩⟩
    have a := a (by omega)
    have hc : k' = 0 ∨ k' = 1 ∨ k' = 2 ∨ k' = 3 ∨ k' = 4 ∨ k' = 5 := by omega
    rcases hc with rfl | rfl | rfl | rfl | rfl | rfl
    · exact ⟨by decide, fun z => absurd z (by decide), fun _ => ⟨by decide, fun _ => a, fun z => absurd rfl z⟩⟩
    · exact ⟨by decide, fun z => absurd z (by decide), fun _ => ⟨by decide, fun z => absurd z (by decide), fun _ => ⟨by decide, fun _ => a, fun z => absurd rfl z⟩⟩⟩
    · exact ⟨by decide, fun z => absurd z (by decide), fun _ => ⟨by decide, fun z => absurd z (by decide), fun _ => ⟨by decide, fun z => absurd z (by decide), fun _ => a⟩⟩⟩
    · exact ⟨by decide, fun _ => ⟨by decide, fun _ => a, fun z => absurd rfl z⟩, fun z => absurd (by decide) z⟩
    · exact ⟨by decide, fun _ => ⟨by decide, fun z => absurd z (by decide), fun _ => ⟨by decide, fun _ => a, fun z => absurd rfl z⟩⟩, fun z => absurd (by decide) z⟩
    · exact ⟨by decide, fun _ => ⟨by decide, fun z => absurd z (by decide), fun _ => ⟨by decide, fun z => absurd z (by decide), fun _ => a⟩⟩, fun z => absurd (by decide) z⟩
  unfold w_L_count w_F_count
  refine ⟨fun hx => ⟨hlen, fun _ => bad (fun P hp => ?_), fun z => absurd rfl z⟩, fun e1 hx h1 => ⟨h1, fun q => ⟨by decide, ?_⟩, fun q0 => ⟨fun q => ⟨by decide, ?_⟩, fun q1 => ⟨fun q => ⟨by decide, ?_⟩, fun q2 => ⟨fun q => ⟨by decide, ?_⟩, fun q3 => ⟨fun q => ⟨by decide, ?_⟩, fun q4 => ⟨fun q => ⟨by decide, ?_⟩, fun q5 => ⟨hlen, fun _ => bad (fun P hp => mm e1 P hx h1 (fun z => by omega) (fun _ => hp)), fun z => absurd rfl z⟩⟩⟩⟩⟩⟩⟩⟩
  · unfold w_R_count w_R_within_GNN w_R_fail
    exact ⟨fun _ => ⟨hx, by decide, by decide, fun _ => hp, fun z => absurd rfl z⟩, fun k hk hl => (sg_n hx hk hl).elim⟩
  · subst q; exact good _ (fun P hp => mm 0 P hx h1 (fun _ => by rw [h4] at hp; exact hp) (fun z => by omega))
  · subst q; exact good _ (fun P hp => mm 1 P hx h1 (fun _ => by rw [t1] at hp; exact hp) (fun z => by omega))
  · subst q; exact good _ (fun P hp => mm 2 P hx h1 (fun _ => by rw [t3] at hp; exact hp) (fun z => by omega))
  · subst q; exact good _ (fun P hp => mm 3 P hx h1 (fun _ => by rw [t4] at hp; exact hp) (fun z => by omega))
  · subst q; exact good _ (fun P hp => mm 4 P hx h1 (fun _ => by rw [h12] at hp; exact hp) (fun z => by omega))
  · subst q; exact good _ (fun P hp => mm 5 P hx h1 (fun _ => by rw [h10] at hp; exact hp) (fun z => by omega))
end SO
