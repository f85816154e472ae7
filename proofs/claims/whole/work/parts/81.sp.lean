/-! sums over a definition: alike -/
def rsu (f : Nat → Nat) : Nat → Nat → Nat → Nat
  | 0, s, _ => s
  | n + 1, s, i => rsu f n (s + f i) (i + 1)
theorem rsu_cg {f g : Nat → Nat} : ∀ (n s i : Nat), (∀ j, i ≤ j → j < i + n → f j = g j) → rsu f n s i = rsu g n s i
  | 0, _, _, _ => rfl
  | n + 1, s, i, h => by
    unfold rsu
    rw [h i (Nat.le_refl i) (by omega)]
    exact rsu_cg n _ _ (fun j h1 h2 => h j (by omega) (by omega))
theorem rsu_1 : ∀ (n s i : Nat), rsu (fun _ => 1) n s i = s + n
  | 0, _, _ => rfl
  | n + 1, s, i => by
    unfold rsu
    rw [rsu_1 n]; omega
theorem rsu_A3 {a : Nat} {D : xDf} {C : xC} {Q : Nat → xC → Prop} (hD : xD C a D) (h60 : D.2.1 ≤ 60) : ∀ (n l1 l2 : Nat), l2 + n = D.2.1 → Q (rsu D.2.2.2.2.1 n l1 l2) C → w_N_sum_A3_4 (n + 1) a D l1 l2 C Q
  | 0, l1, l2, h, k => ⟨hD, by omega, by omega, fun _ => k, fun z => by omega⟩
  | n + 1, l1, l2, h, k => ⟨hD, by omega, by omega, fun z => by omega, fun _ => ⟨by omega, rsu_A3 hD h60 n _ _ (by omega) k⟩⟩
theorem rsu_A4 {a : Nat} {D : xDf} {C : xC} {Q : Nat → xC → Prop} (hD : xD C a D) (h60 : D.2.1 ≤ 60) : ∀ (n l1 l2 : Nat), l2 + n = D.2.1 → Q (rsu D.2.2.2.2.2 n l1 l2) C → w_N_sum_A4_4 (n + 1) a D l1 l2 C Q
  | 0, l1, l2, h, k => ⟨hD, by omega, by omega, fun _ => k, fun z => by omega⟩
  | n + 1, l1, l2, h, k => ⟨hD, by omega, by omega, fun z => by omega, fun _ => ⟨by omega, rsu_A4 hD h60 n _ _ (by omega) k⟩⟩
theorem rsu_M {d t : Nat} {M : xM} {P : Nat → xM → Prop} {g : Nat → Nat} (hd : d < 40) (h60 : M.2.1 1 d ≤ 60) (ht : t ≤ 2) (hb : ∀ i, i < M.2.1 1 d → M.2.1 3 (60 * d + i) < 1000) (h0 : t = 0 → ∀ i, i < M.2.1 1 d → g i = 1) (h1 : t = 1 → ∀ i, i < M.2.1 1 d → g i = M.2.1 3 (60 * d + i) / 16) (h2 : t = 2 → ∀ i, i < M.2.1 1 d → g i = M.2.1 3 (60 * d + i) % 16) : ∀ (n l3 i : Nat), i + n = M.2.1 1 d → P (rsu g n l3 i) M → w_R_definition_42 (n + 1) d t l3 (60 * d + i) M P
  | 0, l3, i, h, k => ⟨by omega, by omega, by omega, fun _ => k, fun z => by omega⟩
  | n + 1, l3, i, h, k => by
    have ih := rsu_M (P := P) hd h60 ht hb h0 h1 h2 n (l3 + g i) (i + 1) (by omega) k
    have hbi := hb i (by omega)
    refine ⟨by omega, by omega, by omega, fun z => by omega, fun _ => ⟨by omega, fun z => ?_, fun z => ⟨by omega, fun z1 => ⟨by omega, by omega, ?_⟩, fun z1 => ⟨by omega, by omega, ?_⟩⟩⟩⟩
    · rw [h0 z i (by omega)] at ih; exact ih
    · rw [h1 z1 i (by omega)] at ih; exact ih
    · rw [h2 (by omega) i (by omega)] at ih; exact ih
section SP
variable {z0 e : Nat} {C : xC} {M : xM}
theorem lDefinition {x y : Int32} {Q : Nat → xC → Prop} (hB : rB z0 e C M) (he : e ≤ 1000) (hQ : ∀ r C' (v : Nat) M', rOk z0 e r C' ((nI v).toInt64) M' → (∀ P : Nat → xM → Prop, P v M' → w_R_definition x y M P) → Q r C') : w_L_definition x y C Q := by
  have hlen := hB.len he
  obtain ⟨H, d1, d2, d3⟩ := hB.1.2.2.2.2.1
  have bad : (∀ P : Nat → xM → Prop, P 0 (dN (dN M 0 0) 0 1) → w_R_definition x y M P) → Q 1 (cX C 13) := fun hm => hQ 1 (cX C 13) 0 _ (hB.no (by decide) (by decide)) hm
  have good : ∀ (n : Nat), (∀ P : Nat → xM → Prop, P n (dN M 0 0) → w_R_definition x y M P) → Q 0 (cO C 0 ((nI n).toInt64)) := fun n hm => hQ 0 _ n _ hB.ye hm
  -- the other side: the definition isn't there
  have m1 : ∀ P : Nat → xM → Prop, (x < 0 ∨ ∃ k, x = nI k ∧ k < 2147483648 ∧ M.1 4 ≤ k) → P 0 (dN (dN M 0 0) 0 1) → w_R_definition x y M P := fun P hc hp => by
    unfold w_R_definition w_R_within_GNZ w_R_within_NNZ w_R_fail
    rcases hc with hx | ⟨k, hx, hk, hm⟩
    · exact ⟨fun _ => ⟨fun _ => ⟨hx, by decide, by decide, fun _ => hp, fun z => absurd rfl z⟩, fun k _ _ => ⟨hx, by decide, by decide, fun _ => hp, fun z => absurd rfl z⟩⟩, fun k hk hl => (sg_n hx hk hl).elim⟩
    · refine ⟨fun z => (sg_n z hx hk).elim, fun k' hk' hl => ?_⟩
      have := d_inj hx hk' hk hl
      subst this
      exact ⟨fun _ => ⟨by omega, by omega, fun z => by omega, fun _ => ⟨by omega, by omega, by decide, fun _ => ⟨by decide, fun _ => hp, fun z => absurd rfl z⟩, fun z => by omega⟩⟩, fun _ _ _ => ⟨by omega, by omega, fun z => by omega, fun _ => ⟨by omega, by omega, by decide, fun _ => ⟨by decide, fun _ => hp, fun z => absurd rfl z⟩, fun z => by omega⟩⟩⟩
  unfold w_L_definition w_F_definition w_D_at
  refine ⟨fun hx => ⟨fun _ => ⟨hlen, fun _ => bad (fun P hp => m1 P (Or.inl hx) hp), fun z => absurd rfl z⟩, fun z => absurd rfl z⟩, fun d hx h1 => ⟨h1, fun z => by omega, fun _ => ⟨h1, by omega, fun q => ⟨fun _ => ⟨hlen, fun _ => bad (fun P hp => m1 P (Or.inr ⟨d, hx, h1, by omega⟩) hp), fun z => absurd rfl z⟩, fun z => absurd rfl z⟩, fun q => ⟨by omega, ?_⟩⟩⟩⟩
  obtain ⟨a, D, x1, x2, x3⟩ := d3 d (by omega)
  obtain ⟨f1, f2, f3, f4, f5⟩ := x3
  have hbd : ∀ i, i < M.2.1 1 d → M.2.1 3 (60 * d + i) < 1000 := fun i hi => by
    obtain ⟨w, hw⟩ := f5 i (by omega)
    exact hw.2.2.2.2.2.2.1
  -- the other side: the definition is there
  have m2 : ∀ P : Nat → xM → Prop, (y < 0 → P 0 (dN (dN M 0 0) 0 1)) → (∀ t, y = nI t → t < 2147483648 → (2 < t → P 0 (dN (dN M 0 0) 0 1)) ∧ (t ≤ 2 → ∃ n, w_R_definition_42 n d t 0 (60 * d) (dN M 0 0) P)) → w_R_definition x y M P := fun P a b => by
    unfold w_R_definition w_R_within_NNZ w_R_within_GNN w_R_within_NNN w_R_fail
    refine ⟨fun z => (sg_n z hx h1).elim, fun k' hk' hl => ?_⟩
    have := d_inj hx hk' h1 hl
    subst this
    refine ⟨fun hy => ⟨by omega, by omega, fun z => by omega, fun _ => ⟨by omega, by omega, by decide, fun z => by omega, fun _ => ⟨by decide, fun z => absurd z (by decide), fun _ => ⟨hy, by decide, by decide, fun _ => a hy, fun z => absurd rfl z⟩⟩⟩⟩, fun t ht htl => ⟨by omega, by omega, fun z => by omega, fun _ => ⟨by omega, by omega, by decide, fun z => by omega, fun _ => ⟨by decide, fun z => absurd z (by decide), fun _ => ⟨by omega, by omega, fun z => by omega, fun _ => ⟨by omega, by omega, fun z => ⟨by decide, fun _ => (b t ht htl).1 z, fun z => absurd rfl z⟩, fun z => ⟨by decide, fun z => absurd z (by decide), fun _ => (b t ht htl).2 (by omega)⟩⟩⟩⟩⟩⟩⟩
  refine ⟨fun z => absurd (x1.symm.trans z) (by simp), fun _ => ⟨a, D, x1, x2, fun hy => ⟨hlen, fun _ => bad (fun P hp => m2 P (fun _ => hp) (fun t ht htl => (sg_n hy ht htl).elim)), fun z => absurd rfl z⟩, fun t ht htl => ⟨htl, fun z => by omega, fun _ => ⟨htl, fun q2 => ?_, fun q2 => ⟨hlen, fun _ => bad (fun P hp => m2 P (fun _ => hp) (fun t' ht' hl' => ⟨fun _ => hp, fun z => by have := d_inj ht ht' htl hl'; omega⟩)), fun z => absurd rfl z⟩⟩⟩⟩⟩
  -- the sums
  have m3 : ∀ (g : Nat → Nat) (P : Nat → xM → Prop), (t = 0 → ∀ i, i < M.2.1 1 d → g i = 1) → (t = 1 → ∀ i, i < M.2.1 1 d → g i = M.2.1 3 (60 * d + i) / 16) → (t = 2 → ∀ i, i < M.2.1 1 d → g i = M.2.1 3 (60 * d + i) % 16) → P (rsu g (M.2.1 1 d) 0 0) (dN M 0 0) → w_R_definition x y M P := fun g P a0 a1 a2 hp => m2 P (fun hy => (sg_n hy ht htl).elim) (fun t' ht' hl' => by
    have := d_inj ht ht' htl hl'
    subst this
    exact ⟨fun z => by omega, fun _ => ⟨_, rsu_M (M := dN M 0 0) (by omega) (show M.2.1 1 d ≤ 60 by omega) q2 hbd a0 a1 a2 (M.2.1 1 d) 0 0 (Nat.zero_add _) hp⟩⟩)
  refine ⟨htl, fun q3 => ⟨by decide, good _ (fun P hp => m3 (fun _ => 1) P (fun _ _ _ => rfl) (fun z => by omega) (fun z => by omega) ?_)⟩, fun q3 => ⟨htl, fun q4 => ?_, fun q4 => ?_⟩⟩
  · rw [rsu_1, Nat.zero_add, ← f1]; exact hp
  · unfold w_N_sum_A3
    refine ⟨D.2.1 + 1, rsu_A3 x2 f3 D.2.1 0 0 (Nat.zero_add _) ⟨by decide, good _ (fun P hp => m3 D.2.2.2.2.1 P (fun z => by omega) (fun _ i hi => ?_) (fun z => by omega) ?_)⟩⟩
    · obtain ⟨w, hw⟩ := f5 i (by omega)
      exact hw.2.2.2.2.1
    · rw [← f1]; exact hp
  · unfold w_N_sum_A4
    refine ⟨D.2.1 + 1, rsu_A4 x2 f3 D.2.1 0 0 (Nat.zero_add _) ⟨by decide, good _ (fun P hp => m3 D.2.2.2.2.2 P (fun z => by omega) (fun z => by omega) (fun _ i hi => ?_) ?_)⟩⟩
    · obtain ⟨w, hw⟩ := f5 i (by omega)
      exact hw.2.2.2.2.2.1
    · rw [← f1]; exact hp
end SP
