/-! a word is looked up: alike -/
def rWd (C : xC) (M : xM) : Prop := C.1 2 = M.1 16 ∧ C.1 3 = M.1 16 + M.1 17 ∧ M.1 3 = C.1 3 ∧ 1 ≤ M.1 17 ∧ C.1 3 ≤ C.1 0 ∧ ∀ j, j < M.1 17 → ¬ M.2.1 0 (M.1 16 + j) = 32
/-- a built-in word, class's side -/
def rWk (w : Nat) (C : xC) (Q : Nat → xC → Prop) : Prop := ((xwK w = 6 → (C.1 5 < 2147483648 ∧ ((C.1 5 = 0 → w_F_fitting 0 C (fun r25 C24 => Q r25 C24)) ∧ (¬ (C.1 5 = 0) → w_C_act w C (fun r27 C26 => (r27 < 2147483648 ∧ ((r27 = 0 → w_F_fitting 0 C26 (fun r31 C30 => Q r31 C30)) ∧ (¬ (r27 = 0) → w_F_fitting 1 C26 (fun r33 C32 => Q r33 C32))))))))) ∧ (¬ xwK w = 6 → ((xwK w = 7 → (C.1 5 < 2147483648 ∧ ((C.1 5 = 0 → w_F_fitting 0 C (fun r38 C37 => Q r38 C37)) ∧ (¬ (C.1 5 = 0) → w_C_act w C (fun r40 C39 => (r40 < 2147483648 ∧ ((r40 = 0 → w_F_fitting 0 C39 (fun r44 C43 => Q r44 C43)) ∧ (¬ (r40 = 0) → w_F_fitting 1 C39 (fun r46 C45 => Q r46 C45))))))))) ∧ (¬ xwK w = 7 → ((xwK w = 8 → (C.1 5 < 2147483648 ∧ ((C.1 5 = 0 → w_F_fitting 0 C (fun r51 C50 => Q r51 C50)) ∧ (¬ (C.1 5 = 0) → w_C_act w C (fun r53 C52 => (r53 < 2147483648 ∧ ((r53 = 0 → w_F_fitting 0 C52 (fun r57 C56 => Q r57 C56)) ∧ (¬ (r53 = 0) → w_F_fitting 1 C52 (fun r59 C58 => Q r59 C58))))))))) ∧ (¬ xwK w = 8 → ((xwK w = 9 → (C.1 5 < 2147483648 ∧ ((C.1 5 = 0 → w_F_define w C (fun r64 C63 => Q r64 C63)) ∧ (¬ (C.1 5 = 0) → Q 57 C)))) ∧ (¬ xwK w = 9 → w_F_compileOrDo w (nI 0) C (fun r66 C65 => Q r66 C65)))))))))
section SI
variable {z0 e : Nat} {C : xC} {M : xM} {Q : Nat → xC → Prop}
theorem rWd.ch (hI : rI z0 e C M) (hd : rWd C M) : (∀ j, j < M.1 17 → 1 ≤ M.2.1 0 (M.1 16 + j) ∧ M.2.1 0 (M.1 16 + j) < 128) ∧ (∀ j, j < C.1 3 → C.2.1 0 j < 128) ∧ C.1 3 ≤ 160 ∧ M.1 16 + M.1 17 ≤ 160 ∧ (∀ j, j < M.1 16 + M.1 17 → M.2.1 0 j < 128) := by
  obtain ⟨k1, ⟨t1, t2, t3, t4⟩, k3, k4, k5, k6⟩ := hI
  obtain ⟨d1, d2, d3, d4, d5, d6⟩ := hd
  refine ⟨fun j hj => ?_, fun j hj => ?_, by omega, by omega, fun j hj => ?_⟩
  · have := t4 (M.1 16 + j) (by omega); omega
  · rw [t3]; have := t4 j (by omega); omega
  · have := t4 j (by omega); omega
theorem siw (hI : rI z0 e C M) (hd : rWd C M)
    (h1 : 1 ≤ rfd M → w_F_compileOrDo 49 (nI (rfd M) - nI 1) C Q)
    (h2 : rfd M = 0 → ∀ w, w < 55 → w ≠ 37 → w ≠ 49 → rkM (M.2.1 0) (M.1 16) (M.1 17) = rwB w → rWk w C Q)
    (h3 : rfd M = 0 → (∀ w, w < 55 → w ≠ 37 → w ≠ 49 → ¬ rkM (M.2.1 0) (M.1 16) (M.1 17) = rwB w) → (rnu (M.2.1 0) (M.1 16) (M.1 17) = false → Q 56 C) ∧ (rnu (M.2.1 0) (M.1 16) (M.1 17) = true → w_F_compileOrDo 37 (rnI (M.2.1 0) (M.1 16) (M.1 17)) C Q)) : w_F_interpretWord C Q := by
  obtain ⟨c1, c2, c3, c4, c5⟩ := hd.ch hI
  have hF := hI.1
  have t3 := hI.2.1.2.2.1
  obtain ⟨d1, d2, d3, d4, d5, d6⟩ := hd
  have hle := rfd_le M
  have h40 : M.1 4 ≤ 40 := by obtain ⟨H, k5⟩ := hF.2.2.2.2.1; exact k5.2.1
  have el : C.1 3 - C.1 2 = M.1 17 := by omega
  have key : ∀ K : Int64 → xC → Prop, K (rkC (M.2.1 0) (M.1 16) (M.1 17)) C → w_T_key C K := fun K k => by
    unfold rkC at k
    refine rky c3 (by omega) c2 (fun z => ?_) (fun z => ?_)
    · rw [if_pos (by omega)] at k
      rw [t3, d1, show C.1 3 - M.1 16 = M.1 17 by omega]; exact k
    · rw [if_neg (by omega)] at k; exact k
  unfold w_F_interpretWord
  refine key _ (sfdC hF d4 c1 ⟨by omega, fun q => ?_, fun q => h1 (by omega)⟩)
  have q0 : rfd M = 0 := by omega
  refine rwkC0 ?_
  cases hk : rwk (rkC (M.2.1 0) (M.1 16) (M.1 17)) 55 0 with
  | none =>
    have hno := rwk_none 55 0 hk
    have hno2 : ∀ w, w < 55 → w ≠ 37 → w ≠ 49 → ¬ rkM (M.2.1 0) (M.1 16) (M.1 17) = rwB w := fun w w1 w2 w3 z => hno w (by omega) (by omega) ((rkw w1 w2 w3 c1).mpr z)
    obtain ⟨g1, g2⟩ := h3 q0 hno2
    refine ⟨fun _ => ?_, fun z => absurd rfl z⟩
    refine risC c3 (by omega) c2 ?_
    rw [t3, d1, show C.1 3 - M.1 16 = M.1 17 by omega]
    cases hu : rnu (M.2.1 0) (M.1 16) (M.1 17) with
    | false =>
      rw [if_neg (by decide)]
      exact ⟨by decide, fun _ => g1 hu, fun z => absurd rfl z⟩
    | true =>
      rw [if_pos rfl]
      refine ⟨by decide, fun z => absurd z (by decide), fun _ => ?_⟩
      refine rnmC c3 (by omega) c2 ?_ ?_
      · rw [t3, d1, show C.1 3 - M.1 16 = M.1 17 by omega]; exact hu
      · rw [t3, d1, show C.1 3 - M.1 16 = M.1 17 by omega]; exact g2 hu
  | some w =>
    obtain ⟨_, w1, w2⟩ := rwk_some 55 0 w hk
    have w3 : w ≠ 37 := fun z => rkw0 (Or.inl z) d4 c1 w2
    have w4 : w ≠ 49 := fun z => rkw0 (Or.inr z) d4 c1 w2
    have w5 := (rkw (by omega) w3 w4 c1).mp w2
    refine ⟨fun z => by (cases z), fun _ => ⟨w, rfl, by omega, ?_, h2 q0 w (by omega) w3 w4 w5⟩⟩
    have : xwK w < 10 := (by decide : ∀ w, w < 55 → xwK w < 10) w (by omega)
    omega
end SI
