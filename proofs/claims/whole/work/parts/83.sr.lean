/-! the law's loop: both sides stay alike -/
section SR
variable {z0 e : Nat} {C : xC} {M : xM}
theorem lfin {r : Nat} {v : Int64} {K B : Prop} (ok : rOk z0 e r C v M) (k : K) : (M.1 0 < 2147483648 ∧ (r < 2147483648 ∧ ((M.1 0 = r → (r < 2147483648 ∧ ((r = 0 → (0 < 1 ∧ ((C.2.2.2.2.2.1 0 = v → K) ∧ (¬ C.2.2.2.2.2.1 0 = v → B)))) ∧ (¬ r = 0 → K)))) ∧ (¬ M.1 0 = r → B)))) := by
  obtain ⟨o1, o2, o3, o4⟩ := ok
  exact ⟨by omega, by omega, fun _ => ⟨by omega, fun q => ⟨by decide, fun _ => k, fun z => absurd (o3 q) z⟩, fun _ => k⟩, fun z => absurd o1 z⟩
theorem slaw {L : Nat} {xs : Nat → Int32} {Q : Nat → (xC × xM) → Prop} (hL : L ≤ 4000) (hQ : ∀ s e, 4 * e ≤ L → rB z0 e s.1 s.2 → Q 1 s) : ∀ (n l4 e : Nat) (s : xC × xM), rB z0 e s.1 s.2 → 4 * e ≤ l4 → l4 ≤ L → L < l4 + 4 * n → w_L_law_23 L xs n l4 s Q
  | 0, l4, e, s, _, _, h2, h3 => by omega
  | n + 1, l4, e, s, hB, h1, h2, h3 => by
    have he : e ≤ 1000 := by omega
    refine ⟨by omega, by omega, fun _ => hQ (s.1, s.2) e (by omega) hB, fun q => ?_⟩
    have k : ∀ C' M', rB z0 (e + 1) C' M' → w_L_law_23 L xs n (l4 + 4) (C', M') Q := fun C' M' hB' => slaw hL hQ n (l4 + 4) (e + 1) (C', M') hB' (by omega) (by omega) (by omega)
    have ok : ∀ {r : Nat} {C' : xC} {v : Int64} {M' : xM}, rOk z0 e r C' v M' → w_L_law_23 L xs n (l4 + 4) (C', M') Q := fun o => k _ _ o.2.2.2
    refine ⟨by omega, fun _ => k _ _ hB.up, fun c hc hcl => ⟨hcl, fun _ => ⟨by omega, by omega, by omega, lWrite hB he (fun r C' v M' o hm => ⟨by omega, by omega, by omega, hm _ (lfin o (ok o))⟩)⟩, fun _ => ⟨fun _ => lInterpret hB he (fun r C' v M' o hm => hm _ (lfin o (ok o))), fun _ => ⟨fun _ => ?_, fun _ => ⟨fun _ => ?_, fun _ => ⟨fun _ => ⟨by omega, lTop hB he (fun r C' v M' o hm => ⟨by omega, hm _ (lfin o (ok o))⟩)⟩, fun _ => ⟨fun _ => ⟨by omega, lCell hB he (fun r C' v M' o hm => ⟨by omega, hm _ (lfin o (ok o))⟩)⟩, fun _ => ⟨fun _ => ?_, fun _ => ⟨fun _ => ⟨by omega, lSaying hB he (fun r C' v M' o hm => ⟨by omega, hm _ (lfin o (ok o))⟩)⟩, fun _ => ⟨fun _ => ⟨by omega, by omega, lDefinition hB he (fun r C' v M' o hm => ⟨by omega, by omega, hm _ (lfin o (ok o))⟩)⟩, fun _ => ⟨fun _ => ⟨by omega, lCount hB he (fun r C' v M' o hm => ⟨by omega, hm _ (lfin o (ok o))⟩)⟩, fun _ => k _ _ hB.up⟩⟩⟩⟩⟩⟩⟩⟩⟩⟩⟩
    · obtain ⟨c1, c2, c3⟩ := hB.2.2.2.1
      unfold w_F_compiling w_R_compiling
      exact ⟨by omega, c2, by omega, by omega, fun _ => k _ (dN s.2 0 0) hB.up, fun z => absurd c1 z⟩
    · obtain ⟨c1, c2, c3⟩ := hB.2.2.1
      unfold w_F_depth w_R_depth
      exact ⟨by omega, by omega, fun _ => k _ (dN s.2 0 0) hB.up, fun z => absurd c1 z⟩
    · obtain ⟨c1, c2, c3⟩ := hB.1.1
      have c4 := hB.1.2.1.2.2.2.2
      have c5 := hB.1.2.1.2.1
      unfold w_F_said w_R_said
      exact ⟨by omega, by omega, fun _ => k _ (dN s.2 0 0) hB.up, fun z => absurd c2 z⟩
end SR
