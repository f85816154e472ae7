/-! the text: words are found alike -/
theorem cN_cN (C : xC) (i a b : Nat) : cN (cN C i a) i b = cN C i b := by simp only [cN, xu_xu]
theorem dN_dN (M : xM) (i a b : Nat) : dN (dN M i a) i b = dN M i b := by simp only [dN, xu_xu]
/-- past spaces; past what is no space -/
def rsp (f : Nat → Nat) (n : Nat) : Nat → Nat → Nat
  | 0, i => i
  | m + 1, i => if i < n ∧ f i = 32 then rsp f n m (i + 1) else i
def rnw (f : Nat → Nat) (n : Nat) : Nat → Nat → Nat
  | 0, i => i
  | m + 1, i => if i < n ∧ ¬ f i = 32 then rnw f n m (i + 1) else i
theorem rsp_le (f : Nat → Nat) (n : Nat) : ∀ m i, i ≤ n → i ≤ rsp f n m i ∧ rsp f n m i ≤ n
  | 0, i, h => ⟨Nat.le_refl _, h⟩
  | m + 1, i, h => by
    unfold rsp
    split
    · have := rsp_le f n m (i + 1) (by omega); omega
    · omega
theorem rnw_le (f : Nat → Nat) (n : Nat) : ∀ m i, i ≤ n → i ≤ rnw f n m i ∧ rnw f n m i ≤ n ∧ ∀ j, i ≤ j → j < rnw f n m i → ¬ f j = 32
  | 0, i, h => ⟨Nat.le_refl _, h, fun j h1 h2 => by simp only [rnw] at h2; omega⟩
  | m + 1, i, h => by
    unfold rnw
    split
    · rename_i c
      have := rnw_le f n m (i + 1) (by omega)
      refine ⟨by omega, by omega, fun j h1 h2 => ?_⟩
      by_cases hj : j = i
      · subst hj; exact c.2
      · exact this.2.2 j (by omega) h2
    · exact ⟨Nat.le_refl _, h, fun j h1 h2 => by omega⟩
theorem rsp_eq {f g : Nat → Nat} {n : Nat} (h : ∀ j, j < n → f j = g j) : ∀ m i, rsp f n m i = rsp g n m i
  | 0, _ => rfl
  | m + 1, i => by
    unfold rsp
    by_cases c : i < n
    · rw [h i c, rsp_eq h m (i + 1)]
    · rw [if_neg (fun q => c q.1), if_neg (fun q => c q.1)]
theorem rnw_eq {f g : Nat → Nat} {n : Nat} (h : ∀ j, j < n → f j = g j) : ∀ m i, rnw f n m i = rnw g n m i
  | 0, _ => rfl
  | m + 1, i => by
    unfold rnw
    by_cases c : i < n
    · rw [h i c, rnw_eq h m (i + 1)]
    · rw [if_neg (fun q => c q.1), if_neg (fun q => c q.1)]
section RTX
variable {C : xC} {M : xM} {Q : Nat → xC → Prop} {Q' : Nat → xM → Prop}
theorem rT54 (hl : C.1 0 ≤ 160) (hf : ∀ j, j < C.1 0 → C.2.1 0 j < 1000) : ∀ m i, i + m = C.1 0 → w_T_nextWord_92 (fun _ => False) (cN C 3 (rnw (C.2.1 0) (C.1 0) (m + 1) i)) Q → w_T_nextWord_54 (m + 1) (cN C 3 i) Q
  | 0, i, hm, k => by
    unfold w_T_nextWord_54 wi_T_nextWord_54
    have e : rnw (C.2.1 0) (C.1 0) (0 + 1) i = i := by unfold rnw; rw [if_neg (by omega)]
    rw [e] at k
    exact ⟨(show i < 2147483648 by omega), (show C.1 0 < 2147483648 by omega), fun _ => k, fun q => absurd (show C.1 0 ≤ i by omega) q⟩
  | m + 1, i, hm, k => by
    unfold w_T_nextWord_54 wi_T_nextWord_54
    have := hf i (by omega)
    refine ⟨(show i < 2147483648 by omega), (show C.1 0 < 2147483648 by omega), fun q => absurd (show C.1 0 ≤ i from q) (by omega), fun _ => ⟨(show i < 160 by omega), (show C.2.1 0 i < 2147483648 by omega), fun q => ?_, fun q => ?_⟩⟩
    · have q : C.2.1 0 i = 32 := q
      have e : rnw (C.2.1 0) (C.1 0) (m + 1 + 1) i = i := by unfold rnw; rw [if_neg (fun z => z.2 q)]
      rw [e] at k
      exact k
    · have q : ¬ C.2.1 0 i = 32 := q
      have e : rnw (C.2.1 0) (C.1 0) (m + 1 + 1) i = rnw (C.2.1 0) (C.1 0) (m + 1) (i + 1) := by rw [rnw, if_pos ⟨by omega, q⟩]
      rw [e] at k
      show w_T_nextWord_54 (m + 1) (cN (cN C 3 i) 3 (i + 1)) Q
      rw [cN_cN]
      exact rT54 hl hf m (i + 1) (by omega) k
theorem rT8 (hl : C.1 0 ≤ 160) (hf : ∀ j, j < C.1 0 → C.2.1 0 j < 1000) : ∀ m i, i + m = C.1 0 → (∃ fu, w_T_nextWord_54 fu (cN (cN C 2 (rsp (C.2.1 0) (C.1 0) (m + 1) i)) 3 (rsp (C.2.1 0) (C.1 0) (m + 1) i)) Q) → w_T_nextWord_8 (m + 1) (cN C 2 i) Q
  | 0, i, hm, k => by
    unfold w_T_nextWord_8 wi_T_nextWord_8
    have e : rsp (C.2.1 0) (C.1 0) (0 + 1) i = i := by unfold rsp; rw [if_neg (by omega)]
    rw [e] at k
    exact ⟨(show i < 2147483648 by omega), (show C.1 0 < 2147483648 by omega), fun _ => k, fun q => absurd (show C.1 0 ≤ i by omega) q⟩
  | m + 1, i, hm, k => by
    unfold w_T_nextWord_8 wi_T_nextWord_8
    have := hf i (by omega)
    refine ⟨(show i < 2147483648 by omega), (show C.1 0 < 2147483648 by omega), fun q => absurd (show C.1 0 ≤ i from q) (by omega), fun _ => ⟨(show i < 160 by omega), (show C.2.1 0 i < 2147483648 by omega), fun q => ?_, fun q => ?_⟩⟩
    · have q : C.2.1 0 i = 32 := q
      have e : rsp (C.2.1 0) (C.1 0) (m + 1 + 1) i = rsp (C.2.1 0) (C.1 0) (m + 1) (i + 1) := by rw [rsp, if_pos ⟨by omega, q⟩]
      rw [e] at k
      show w_T_nextWord_8 (m + 1) (cN (cN C 2 i) 2 (i + 1)) Q
      rw [cN_cN]
      exact rT8 hl hf m (i + 1) (by omega) k
    · have q : ¬ C.2.1 0 i = 32 := q
      have e : rsp (C.2.1 0) (C.1 0) (m + 1 + 1) i = i := by unfold rsp; rw [if_neg (fun z => q z.2)]
      rw [e] at k
      exact k
theorem rM46 (hl : M.1 2 ≤ 160) (hf : ∀ j, j < M.1 2 → M.2.1 0 j < 1000) : ∀ m i, i + m = M.1 2 → w_R_word_84 (fun _ => False) (dN M 3 (rnw (M.2.1 0) (M.1 2) (m + 1) i)) Q' → w_R_word_46 (m + 1) (dN M 3 i) Q'
  | 0, i, hm, k => by
    unfold w_R_word_46 wi_R_word_46
    have e : rnw (M.2.1 0) (M.1 2) (0 + 1) i = i := by unfold rnw; rw [if_neg (by omega)]
    rw [e] at k
    exact ⟨(show i < 2147483648 by omega), (show M.1 2 < 2147483648 by omega), fun _ => k, fun q => absurd (show M.1 2 ≤ i by omega) q⟩
  | m + 1, i, hm, k => by
    unfold w_R_word_46 wi_R_word_46
    have := hf i (by omega)
    refine ⟨(show i < 2147483648 by omega), (show M.1 2 < 2147483648 by omega), fun q => absurd (show M.1 2 ≤ i from q) (by omega), fun _ => ⟨(show i < 160 by omega), (show M.2.1 0 i < 2147483648 by omega), fun q => ?_, fun q => ?_⟩⟩
    · have q : M.2.1 0 i = 32 := q
      have e : rnw (M.2.1 0) (M.1 2) (m + 1 + 1) i = i := by unfold rnw; rw [if_neg (fun z => z.2 q)]
      rw [e] at k
      exact k
    · have q : ¬ M.2.1 0 i = 32 := q
      have e : rnw (M.2.1 0) (M.1 2) (m + 1 + 1) i = rnw (M.2.1 0) (M.1 2) (m + 1) (i + 1) := by rw [rnw, if_pos ⟨by omega, q⟩]
      rw [e] at k
      show w_R_word_46 (m + 1) (dN (dN M 3 i) 3 (i + 1)) Q'
      rw [dN_dN]
      exact rM46 hl hf m (i + 1) (by omega) k
theorem rM0 (hl : M.1 2 ≤ 160) (hf : ∀ j, j < M.1 2 → M.2.1 0 j < 1000) : ∀ m i, i + m = M.1 2 → (∃ fu, w_R_word_46 fu (dN (dN M 3 (rsp (M.2.1 0) (M.1 2) (m + 1) i)) 16 (rsp (M.2.1 0) (M.1 2) (m + 1) i)) Q') → w_R_word_0 (m + 1) (dN M 3 i) Q'
  | 0, i, hm, k => by
    unfold w_R_word_0 wi_R_word_0
    have e : rsp (M.2.1 0) (M.1 2) (0 + 1) i = i := by unfold rsp; rw [if_neg (by omega)]
    rw [e] at k
    exact ⟨(show i < 2147483648 by omega), (show M.1 2 < 2147483648 by omega), fun _ => k, fun q => absurd (show M.1 2 ≤ i by omega) q⟩
  | m + 1, i, hm, k => by
    unfold w_R_word_0 wi_R_word_0
    have := hf i (by omega)
    refine ⟨(show i < 2147483648 by omega), (show M.1 2 < 2147483648 by omega), fun q => absurd (show M.1 2 ≤ i from q) (by omega), fun _ => ⟨(show i < 160 by omega), (show M.2.1 0 i < 2147483648 by omega), fun q => ?_, fun q => ?_⟩⟩
    · have q : M.2.1 0 i = 32 := q
      have e : rsp (M.2.1 0) (M.1 2) (m + 1 + 1) i = rsp (M.2.1 0) (M.1 2) (m + 1) (i + 1) := by rw [rsp, if_pos ⟨by omega, q⟩]
      rw [e] at k
      show w_R_word_0 (m + 1) (dN (dN M 3 i) 3 (i + 1)) Q'
      rw [dN_dN]
      exact rM0 hl hf m (i + 1) (by omega) k
    · have q : ¬ M.2.1 0 i = 32 := q
      have e : rsp (M.2.1 0) (M.1 2) (m + 1 + 1) i = i := by unfold rsp; rw [if_neg (fun z => q z.2)]
      rw [e] at k
      exact k
/-- where the next word begins, and ends -/
def rws (f : Nat → Nat) (n i : Nat) : Nat := rsp f n (n - i + 1) i
def rwe (f : Nat → Nat) (n i : Nat) : Nat := rnw f n (n - rws f n i + 1) (rws f n i)
theorem rnxC (hl : C.1 0 ≤ 160) (hf : ∀ j, j < C.1 0 → C.2.1 0 j < 1000) (h3 : C.1 3 ≤ C.1 0)
    (h0 : rws (C.2.1 0) (C.1 0) (C.1 3) = rwe (C.2.1 0) (C.1 0) (C.1 3) → Q 0 (cN (cN C 2 (rws (C.2.1 0) (C.1 0) (C.1 3))) 3 (rwe (C.2.1 0) (C.1 0) (C.1 3))))
    (h1 : ¬ rws (C.2.1 0) (C.1 0) (C.1 3) = rwe (C.2.1 0) (C.1 0) (C.1 3) → Q 1 (cN (cN (cN C 2 (rws (C.2.1 0) (C.1 0) (C.1 3))) 3 (rwe (C.2.1 0) (C.1 0) (C.1 3))) 1 (C.1 1 + 1))) : w_T_nextWord C Q := by
  have a1 := rsp_le (C.2.1 0) (C.1 0) (C.1 0 - C.1 3 + 1) (C.1 3) h3
  have a2 := rnw_le (C.2.1 0) (C.1 0) (C.1 0 - rws (C.2.1 0) (C.1 0) (C.1 3) + 1) (rws (C.2.1 0) (C.1 0) (C.1 3)) a1.2
  unfold w_T_nextWord
  refine ⟨C.1 0 - C.1 3 + 1, rT8 hl hf (C.1 0 - C.1 3) (C.1 3) (by omega) ⟨C.1 0 - rws (C.2.1 0) (C.1 0) (C.1 3) + 1, ?_⟩⟩
  refine rT54 (C := cN C 2 (rws (C.2.1 0) (C.1 0) (C.1 3))) hl hf (C.1 0 - rws (C.2.1 0) (C.1 0) (C.1 3)) (rws (C.2.1 0) (C.1 0) (C.1 3)) (show rws (C.2.1 0) (C.1 0) (C.1 3) + (C.1 0 - rws (C.2.1 0) (C.1 0) (C.1 3)) = C.1 0 by have : rws (C.2.1 0) (C.1 0) (C.1 3) ≤ C.1 0 := a1.2; omega) ?_
  unfold w_T_nextWord_92
  have b1 : rws (C.2.1 0) (C.1 0) (C.1 3) ≤ C.1 0 := a1.2
  have b2 : rwe (C.2.1 0) (C.1 0) (C.1 3) ≤ C.1 0 := a2.2.1
  exact ⟨(show rws (C.2.1 0) (C.1 0) (C.1 3) < 2147483648 by omega), (show rwe (C.2.1 0) (C.1 0) (C.1 3) < 2147483648 by omega), h0, h1⟩
theorem rnxM (hl : M.1 2 ≤ 160) (hf : ∀ j, j < M.1 2 → M.2.1 0 j < 1000) (h3 : M.1 3 ≤ M.1 2)
    (h : ∀ r, r = (if rws (M.2.1 0) (M.1 2) (M.1 3) = rwe (M.2.1 0) (M.1 2) (M.1 3) then 0 else 1) → Q' r (dN (dN (dN (dN M 3 (rws (M.2.1 0) (M.1 2) (M.1 3))) 16 (rws (M.2.1 0) (M.1 2) (M.1 3))) 3 (rwe (M.2.1 0) (M.1 2) (M.1 3))) 17 (rwe (M.2.1 0) (M.1 2) (M.1 3) - rws (M.2.1 0) (M.1 2) (M.1 3)))) : w_R_word M Q' := by
  have a1 := rsp_le (M.2.1 0) (M.1 2) (M.1 2 - M.1 3 + 1) (M.1 3) h3
  have a2 := rnw_le (M.2.1 0) (M.1 2) (M.1 2 - rws (M.2.1 0) (M.1 2) (M.1 3) + 1) (rws (M.2.1 0) (M.1 2) (M.1 3)) a1.2
  have b1 : rws (M.2.1 0) (M.1 2) (M.1 3) ≤ M.1 2 := a1.2
  have b2 : rwe (M.2.1 0) (M.1 2) (M.1 3) ≤ M.1 2 := a2.2.1
  have b3 : rws (M.2.1 0) (M.1 2) (M.1 3) ≤ rwe (M.2.1 0) (M.1 2) (M.1 3) := a2.1
  have e : dN M 3 (M.1 3) = M := by
    obtain ⟨a, b⟩ := M
    simp only [dN]
    congr 1
    funext j
    simp only [xu]
    split
    · rename_i hj; rw [hj]
    · rfl
  unfold w_R_word
  refine ⟨M.1 2 - M.1 3 + 1, ?_⟩
  have q := rM0 hl hf (M.1 2 - M.1 3) (M.1 3) (by omega) (Q' := Q') ⟨M.1 2 - rws (M.2.1 0) (M.1 2) (M.1 3) + 1, ?_⟩
  · rw [e] at q; exact q
  have e2 : dN (dN (dN M 3 (rws (M.2.1 0) (M.1 2) (M.1 3))) 16 (rws (M.2.1 0) (M.1 2) (M.1 3))) 3 (rws (M.2.1 0) (M.1 2) (M.1 3)) = dN (dN M 3 (rws (M.2.1 0) (M.1 2) (M.1 3))) 16 (rws (M.2.1 0) (M.1 2) (M.1 3)) := by
    simp only [dN]
    congr 1
    funext j
    simp only [xu]
    by_cases h3 : j = 3
    · subst h3; simp
    · simp [h3]
  have q := rM46 (M := dN (dN M 3 (rws (M.2.1 0) (M.1 2) (M.1 3))) 16 (rws (M.2.1 0) (M.1 2) (M.1 3))) (Q' := Q') hl hf (M.1 2 - rws (M.2.1 0) (M.1 2) (M.1 3)) (rws (M.2.1 0) (M.1 2) (M.1 3)) (show rws (M.2.1 0) (M.1 2) (M.1 3) + (M.1 2 - rws (M.2.1 0) (M.1 2) (M.1 3)) = M.1 2 by omega) ?_
  · rw [e2] at q; exact q
  · unfold w_R_word_84
    refine ⟨(show rws (M.2.1 0) (M.1 2) (M.1 3) ≤ rwe (M.2.1 0) (M.1 2) (M.1 3) from b3), (show rwe (M.2.1 0) (M.1 2) (M.1 3) - rws (M.2.1 0) (M.1 2) (M.1 3) < 2147483648 by omega), fun q => ?_, fun q => ?_⟩
    · have q : rwe (M.2.1 0) (M.1 2) (M.1 3) - rws (M.2.1 0) (M.1 2) (M.1 3) ≤ 0 := q
      exact h 0 (by rw [if_pos (by omega)])
    · have q : ¬ rwe (M.2.1 0) (M.1 2) (M.1 3) - rws (M.2.1 0) (M.1 2) (M.1 3) ≤ 0 := q
      exact h 1 (by rw [if_neg (by omega)])
end RTX
