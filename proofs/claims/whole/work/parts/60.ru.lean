/-! numbers of the text are read alike -/
def rdg (f : Nat → Nat) : Nat → Nat → Bool
  | 0, _ => true
  | m + 1, i => decide (48 ≤ f i) && (decide (f i ≤ 57) && rdg f m (i + 1))
def rsg (f : Nat → Nat) (s : Nat) : Nat := if f s = 45 then 1 else 0
def rnu (f : Nat → Nat) (s l : Nat) : Bool := decide (rsg f s < l) && (decide (l ≤ rsg f s + 9) && rdg f (l - rsg f s) (s + rsg f s))
def rnm (f : Nat → Nat) : Nat → Nat → Nat → Nat
  | 0, _, v => v
  | m + 1, i, v => rnm f m (i + 1) (v * 10 + f i - 48)
def rnI (f : Nat → Nat) (s l : Nat) : Int32 := if f s = 45 then -(nI (rnm f (l - rsg f s) (s + rsg f s) 0)) else nI (rnm f (l - rsg f s) (s + rsg f s) 0)
section RNU
variable {C : xC} {M : xM}
theorem rfd1 {Q : Nat → xC → Prop} (h3 : C.1 3 ≤ 160) (h2 : C.1 2 < C.1 3) (hf : ∀ j, j < C.1 3 → C.2.1 0 j < 128) (h : Q (C.1 2 + rsg (C.2.1 0) (C.1 2)) C) : w_T_firstDigit C Q := by
  have := hf (C.1 2) h2
  unfold w_T_firstDigit
  unfold rsg at h
  refine ⟨by omega, by omega, fun q => by omega, fun _ => ⟨by omega, by omega, fun q => ?_, fun q => ?_⟩⟩
  · rw [if_pos q] at h; exact h
  · rw [if_neg q] at h; exact h
theorem risC {Q : Nat → xC → Prop} (h3 : C.1 3 ≤ 160) (h2 : C.1 2 < C.1 3) (hf : ∀ j, j < C.1 3 → C.2.1 0 j < 128) (h : Q (if rnu (C.2.1 0) (C.1 2) (C.1 3 - C.1 2) = true then 1 else 0) C) : w_T_isNumber C Q := by
  have key : ∀ m i, i + m = C.1 3 → Q (if rdg (C.2.1 0) m i = true then 1 else 0) C → w_T_isNumber_28 (m + 1) i C Q := by
    intro m
    induction m with
    | zero =>
      intro i hi k
      unfold w_T_isNumber_28 wi_T_isNumber_28
      exact ⟨by omega, by omega, fun _ => k, fun q => by omega⟩
    | succ m ih =>
      intro i hi k
      have := hf i (by omega)
      unfold w_T_isNumber_28 wi_T_isNumber_28
      refine ⟨by omega, by omega, fun q => by omega, fun _ => ⟨by omega, by omega, fun q => ?_, fun q => ⟨by omega, by omega, fun q2 => ?_, fun q2 => ?_⟩⟩⟩
      · have e : rdg (C.2.1 0) (m + 1) i = false := by simp [rdg]; omega
        rw [e] at k; exact k
      · have e : rdg (C.2.1 0) (m + 1) i = rdg (C.2.1 0) m (i + 1) := by simp [rdg, q2]; omega
        rw [e] at k; exact ih (i + 1) (by omega) k
      · have e : rdg (C.2.1 0) (m + 1) i = false := by simp [rdg]; omega
        rw [e] at k; exact k
  have hs : rsg (C.2.1 0) (C.1 2) ≤ 1 := by unfold rsg; split <;> omega
  unfold w_T_isNumber
  refine rfd1 h3 h2 hf ⟨by omega, by omega, fun q => ?_, fun q => ⟨by omega, by omega, fun q2 => ⟨C.1 3 - (C.1 2 + rsg (C.2.1 0) (C.1 2)) + 1, key _ _ (by omega) ?_⟩, fun q2 => ?_⟩⟩
  · have e : rnu (C.2.1 0) (C.1 2) (C.1 3 - C.1 2) = false := by simp [rnu]; omega
    rw [e] at h; exact h
  · have e : rnu (C.2.1 0) (C.1 2) (C.1 3 - C.1 2) = rdg (C.2.1 0) (C.1 3 - (C.1 2 + rsg (C.2.1 0) (C.1 2))) (C.1 2 + rsg (C.2.1 0) (C.1 2)) := by
      unfold rnu
      rw [decide_eq_true (show rsg (C.2.1 0) (C.1 2) < C.1 3 - C.1 2 by omega), decide_eq_true (show C.1 3 - C.1 2 ≤ rsg (C.2.1 0) (C.1 2) + 9 by omega), Bool.true_and, Bool.true_and, Nat.sub_sub]
    rw [e] at h; exact h
  · have e : rnu (C.2.1 0) (C.1 2) (C.1 3 - C.1 2) = false := by simp [rnu]; omega
    rw [e] at h; exact h
theorem risM {Q : Nat → xM → Prop} (h3 : M.1 16 + M.1 17 ≤ 160) (h2 : 1 ≤ M.1 17) (hf : ∀ j, j < M.1 16 + M.1 17 → M.2.1 0 j < 128) (h : Q (if rnu (M.2.1 0) (M.1 16) (M.1 17) = true then 1 else 0) M) : w_R_isNumber M Q := by
  have key1 : ∀ m i, i + m = M.1 17 → Q (if rdg (M.2.1 0) m (M.1 16 + i) = true then 1 else 0) M → w_R_isNumber_47 (m + 2) 1 i M Q := by
    intro m
    induction m with
    | zero =>
      intro i hi k
      unfold w_R_isNumber_47 wi_R_isNumber_47
      exact ⟨by omega, by omega, fun _ => ⟨by decide, k⟩, fun q => by omega⟩
    | succ m ih =>
      intro i hi k
      have := hf (M.1 16 + i) (by omega)
      rw [w_R_isNumber_47]
      unfold wi_R_isNumber_47
      refine ⟨by omega, by omega, fun q => by omega, fun _ => ⟨by decide, fun q => absurd q (by decide), fun _ => ⟨by omega, rwi (by omega) (by decide) (by decide) ?_⟩⟩⟩
      by_cases c : 48 ≤ M.2.1 0 (M.1 16 + i) ∧ M.2.1 0 (M.1 16 + i) ≤ 57
      · rw [if_pos c]
        have e : rdg (M.2.1 0) (m + 1) (M.1 16 + i) = rdg (M.2.1 0) m (M.1 16 + (i + 1)) := by simp [rdg, c, Nat.add_assoc]
        rw [e] at k
        exact ih (i + 1) (by omega) k
      · rw [if_neg c]
        have e : rdg (M.2.1 0) (m + 1) (M.1 16 + i) = false := by simp [rdg]; omega
        rw [e] at k
        unfold w_R_isNumber_47 wi_R_isNumber_47
        exact ⟨by omega, by omega, fun _ => ⟨by decide, k⟩, fun _ => ⟨by decide, fun _ => ⟨by decide, k⟩, fun q => absurd rfl q⟩⟩
  have key0 : ∀ i, i ≤ 1 → Q 0 M → ∃ fu, w_R_isNumber_47 fu 0 i M Q := fun i hi k => ⟨1, by
    unfold w_R_isNumber_47 wi_R_isNumber_47
    exact ⟨by omega, by omega, fun _ => ⟨by decide, k⟩, fun _ => ⟨by decide, fun _ => ⟨by decide, k⟩, fun q => absurd rfl q⟩⟩⟩
  have := hf (M.1 16) (by omega)
  unfold w_R_isNumber
  refine ⟨by omega, by omega, fun c => ⟨by omega, fun q => key0 1 (by decide) ?_, fun q => ⟨by omega, fun q2 => key0 1 (by decide) ?_, fun q2 => ⟨_, key1 (M.1 17 - 1) 1 (by omega) ?_⟩⟩⟩, fun c => ⟨by omega, fun q => key0 0 (by decide) ?_, fun q => ⟨by omega, fun q2 => key0 0 (by decide) ?_, fun q2 => ⟨_, key1 (M.1 17) 0 (by omega) ?_⟩⟩⟩⟩
  · have e : rnu (M.2.1 0) (M.1 16) (M.1 17) = false := by simp [rnu, rsg, c]; omega
    rw [e] at h; exact h
  · have e : rnu (M.2.1 0) (M.1 16) (M.1 17) = false := by simp [rnu, rsg, c]; omega
    rw [e] at h; exact h
  · have e : rnu (M.2.1 0) (M.1 16) (M.1 17) = rdg (M.2.1 0) (M.1 17 - 1) (M.1 16 + 1) := by
      unfold rnu rsg
      rw [if_pos c, decide_eq_true (show 1 < M.1 17 by omega), decide_eq_true (show M.1 17 ≤ 1 + 9 by omega), Bool.true_and, Bool.true_and]
    rw [e] at h; exact h
  · have e : rnu (M.2.1 0) (M.1 16) (M.1 17) = false := by simp [rnu, rsg, c]; omega
    rw [e] at h; exact h
  · have e : rnu (M.2.1 0) (M.1 16) (M.1 17) = false := by simp [rnu, rsg, c]; omega
    rw [e] at h; exact h
  · have e : rnu (M.2.1 0) (M.1 16) (M.1 17) = rdg (M.2.1 0) (M.1 17) (M.1 16 + 0) := by
      unfold rnu rsg
      rw [if_neg c, decide_eq_true (show 0 < M.1 17 by omega), decide_eq_true (show M.1 17 ≤ 0 + 9 by omega), Bool.true_and, Bool.true_and, Nat.sub_zero]
    rw [e] at h; exact h
theorem rdg_s {f : Nat → Nat} : ∀ m i, rdg f (m + 1) i = true → 48 ≤ f i ∧ f i ≤ 57 ∧ rdg f m (i + 1) = true := by
  intro m i h
  simp [rdg] at h
  exact h
theorem rnmC {Q : Int32 → xC → Prop} (h3 : C.1 3 ≤ 160) (h2 : C.1 2 < C.1 3) (hf : ∀ j, j < C.1 3 → C.2.1 0 j < 128) (hn : rnu (C.2.1 0) (C.1 2) (C.1 3 - C.1 2) = true) (h : Q (rnI (C.2.1 0) (C.1 2) (C.1 3 - C.1 2)) C) : w_T_number C Q := by
  have hs : rsg (C.2.1 0) (C.1 2) ≤ 1 := by unfold rsg; split <;> omega
  unfold rnu at hn
  simp only [Bool.and_eq_true, decide_eq_true_eq] at hn
  have key : ∀ m i v, i + m = C.1 3 → rdg (C.2.1 0) m i = true → Q (if C.1 2 + rsg (C.2.1 0) (C.1 2) = C.1 2 then nI (rnm (C.2.1 0) m i v) else -(nI (rnm (C.2.1 0) m i v))) C → w_T_number_9 (m + 1) v (C.1 2 + rsg (C.2.1 0) (C.1 2)) i C Q := by
    intro m
    induction m with
    | zero =>
      intro i v hi _ k
      unfold w_T_number_9 wi_T_number_9
      refine ⟨by omega, by omega, fun _ => ⟨by omega, by omega, fun q => ?_, fun q => ?_⟩, fun q => by omega⟩
      · rw [if_pos q] at k; exact k
      · rw [if_neg q] at k; exact k
    | succ m ih =>
      intro i v hi hd k
      obtain ⟨d1, d2, d3⟩ := rdg_s m i hd
      unfold w_T_number_9 wi_T_number_9
      exact ⟨by omega, by omega, fun q => by omega, fun _ => ⟨by omega, by omega, ih (i + 1) _ (by omega) d3 k⟩⟩
  unfold w_T_number
  refine rfd1 h3 h2 hf ⟨C.1 3 - C.1 2 - rsg (C.2.1 0) (C.1 2) + 1, key (C.1 3 - C.1 2 - rsg (C.2.1 0) (C.1 2)) (C.1 2 + rsg (C.2.1 0) (C.1 2)) 0 (by omega) hn.2.2 ?_⟩
  unfold rnI at h
  by_cases c : C.2.1 0 (C.1 2) = 45
  · rw [if_pos c] at h
    rw [if_neg (by unfold rsg; rw [if_pos c]; omega)]
    exact h
  · rw [if_neg c] at h
    rw [if_pos (by unfold rsg; rw [if_neg c]; omega)]
    exact h
theorem rnmM {Q : Int32 → xM → Prop} (h3 : M.1 16 + M.1 17 ≤ 160) (h2 : 1 ≤ M.1 17) (hf : ∀ j, j < M.1 16 + M.1 17 → M.2.1 0 j < 128) (hn : rnu (M.2.1 0) (M.1 16) (M.1 17) = true) (h : Q (rnI (M.2.1 0) (M.1 16) (M.1 17)) M) : w_R_number M Q := by
  unfold rnu at hn
  simp only [Bool.and_eq_true, decide_eq_true_eq] at hn
  have h0 := hf (M.1 16) (by omega)
  have key : ∀ m i v, i + m = M.1 17 → rdg (M.2.1 0) m (M.1 16 + i) = true → Q (if M.2.1 0 (M.1 16) = 45 then -(nI (rnm (M.2.1 0) m (M.1 16 + i) v)) else nI (rnm (M.2.1 0) m (M.1 16 + i) v)) M → w_R_number_22 (m + 1) v i M Q := by
    intro m
    induction m with
    | zero =>
      intro i v hi _ k
      unfold w_R_number_22 wi_R_number_22
      refine ⟨by omega, by omega, fun _ => ⟨by omega, by omega, fun q => ?_, fun q => ?_⟩, fun q => by omega⟩
      · rw [if_pos q] at k; exact k
      · rw [if_neg q] at k; exact k
    | succ m ih =>
      intro i v hi hd k
      obtain ⟨d1, d2, d3⟩ := rdg_s m _ hd
      unfold w_R_number_22 wi_R_number_22
      refine ⟨by omega, by omega, fun q => by omega, fun _ => ⟨by omega, by omega, ih (i + 1) _ (by omega) d3 ?_⟩⟩
      rw [Nat.mul_comm 10 v]
      exact k
  unfold w_R_number
  unfold rnI at h
  refine ⟨by omega, by omega, fun c => ⟨_, key (M.1 17 - 1) 1 0 (by omega) ?_ ?_⟩, fun c => ⟨_, key (M.1 17) 0 0 (by omega) ?_ ?_⟩⟩
  · have := hn.2.2; unfold rsg at this; rw [if_pos c] at this; exact this
  · unfold rsg at h; simp only [if_pos c] at h ⊢; exact h
  · have := hn.2.2; unfold rsg at this; rw [if_neg c] at this; exact this
  · unfold rsg at h; simp only [if_neg c] at h ⊢; exact h
end RNU
