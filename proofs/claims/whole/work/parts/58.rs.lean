/-! keys, and the search in the lists -/
section RKY
variable {C : xC} {M : xM}
theorem rky_l {Q : Int64 → xC → Prop} (h3 : C.1 3 ≤ 160) (h8 : C.1 3 ≤ 8 + C.1 2) (hf : ∀ j, j < C.1 3 → C.2.1 0 j < 128) (h : Q (Int64.ofNat (rle (C.2.1 0) (C.1 2) (C.1 3 - C.1 2))) C) : ∀ m l, l = C.1 2 + m → l ≤ C.1 3 → w_T_key_27 (m + 1) (Int64.ofNat (rle (C.2.1 0) l (C.1 3 - l))) l C Q
  | 0, l, hl, hle => by
    unfold w_T_key_27 wi_T_key_27
    have : l = C.1 2 := by omega
    subst this
    exact ⟨by omega, by omega, fun _ => h, fun q => by omega⟩
  | m + 1, l, hl, hle => by
    unfold w_T_key_27 wi_T_key_27
    refine ⟨by omega, by omega, fun q => by omega, fun _ => ⟨by omega, by omega, by omega, ?_⟩⟩
    have e : rle (C.2.1 0) (l - 1) (C.1 3 - (l - 1)) = rle (C.2.1 0) l (C.1 3 - l) * 256 + C.2.1 0 (l - 1) := by
      rw [show C.1 3 - (l - 1) = (C.1 3 - l) + 1 by omega, rle, show l - 1 + 1 = l by omega]
    have b := rle_lt (C.2.1 0) (C.1 3 - l) l (fun j hj => hf _ (by omega))
    have b2 : (2 : Nat) ^ (8 * (C.1 3 - l)) ≤ 2 ^ 56 := Nat.pow_le_pow_right (by decide) (by omega)
    rw [rsh8 (by omega) (hf _ (by omega)), ← e]
    exact rky_l h3 h8 hf h m (l - 1) (by omega) (by omega)
theorem rky {Q : Int64 → xC → Prop} (h3 : C.1 3 ≤ 160) (h2 : C.1 2 ≤ C.1 3) (hf : ∀ j, j < C.1 3 → C.2.1 0 j < 128) (h : C.1 3 ≤ 8 + C.1 2 → Q (Int64.ofNat (rle (C.2.1 0) (C.1 2) (C.1 3 - C.1 2))) C) (hn : 8 + C.1 2 < C.1 3 → Q (-1) C) : w_T_key C Q := by
  unfold w_T_key
  refine ⟨by omega, by omega, fun q => ⟨C.1 3 - C.1 2 + 1, ?_⟩, fun q => hn (by omega)⟩
  have := rky_l h3 q hf (h q) (C.1 3 - C.1 2) (C.1 3) (by omega) (Nat.le_refl _)
  rw [Nat.sub_self] at this
  exact this
theorem rpk_l {Q : Int64 → xM → Prop} (h3 : M.1 16 + M.1 17 ≤ 160) (h8 : M.1 17 ≤ 8) (hf : ∀ j, j < M.1 16 + M.1 17 → M.2.1 0 j < 128) (h : Q (Int64.ofNat (rbe (M.2.1 0) (M.1 16) (M.1 17))) M) : ∀ m l, l + m = M.1 17 → w_R_packed_4 (m + 1) (Int64.ofNat (rbe (M.2.1 0) (M.1 16) l)) l M Q
  | 0, l, hl => by
    unfold w_R_packed_4 wi_R_packed_4
    have : l = M.1 17 := by omega
    subst this
    exact ⟨by omega, by omega, fun _ => h, fun q => by omega⟩
  | m + 1, l, hl => by
    unfold w_R_packed_4 wi_R_packed_4
    refine ⟨by omega, by omega, fun q => by omega, fun _ => ⟨by omega, fun q => by omega, fun _ => ⟨by omega, ?_⟩⟩⟩
    have e : rbe (M.2.1 0) (M.1 16) (l + 1) = rbe (M.2.1 0) (M.1 16) l * 256 + M.2.1 0 (M.1 16 + l) := rfl
    have b := rbe_lt (M.2.1 0) (M.1 16) l (fun j hj => hf _ (by omega))
    have b2 : (2 : Nat) ^ (8 * l) ≤ 2 ^ 56 := Nat.pow_le_pow_right (by decide) (by omega)
    rw [rsh8 (by omega) (hf _ (by omega)), ← e]
    exact rpk_l h3 h8 hf h m (l + 1) (by omega)
theorem rpk {Q : Int64 → xM → Prop} (h3 : M.1 16 + M.1 17 ≤ 160) (hp : 1 ≤ M.1 17) (hf : ∀ j, j < M.1 16 + M.1 17 → M.2.1 0 j < 128) (h : M.1 17 ≤ 8 → Q (Int64.ofNat (rbe (M.2.1 0) (M.1 16) (M.1 17))) M) (hn : 8 < M.1 17 → Q (Int64.ofNat 0) M) : w_R_packed M Q := by
  unfold w_R_packed
  by_cases h8 : M.1 17 ≤ 8
  · exact ⟨M.1 17 + 1, rpk_l h3 h8 hf (h h8) (M.1 17) 0 (by omega)⟩
  · refine ⟨1, ?_⟩
    unfold w_R_packed_4 wi_R_packed_4
    exact ⟨by decide, by omega, fun q => by omega, fun _ => ⟨by omega, fun _ => hn (by omega), fun q => by omega⟩⟩
/-- the latest place with a property, one more; 0 where there is none -/
def rfi (P : Nat → Bool) : Nat → Nat
  | 0 => 0
  | n + 1 => if P n = true then n + 1 else rfi P n
theorem rfi_eq {P P' : Nat → Bool} : ∀ n, (∀ d, d < n → P d = P' d) → rfi P n = rfi P' n
  | 0, _ => rfl
  | n + 1, h => by rw [rfi, rfi, h n (by omega), rfi_eq n (fun d hd => h d (by omega))]
theorem rfi_no {P : Nat → Bool} : ∀ n, (∀ d, d < n → P d = false) → rfi P n = 0
  | 0, _ => rfl
  | n + 1, h => by rw [rfi, h n (by omega), if_neg (by decide), rfi_no n (fun d hd => h d (by omega))]
theorem rfi_le (P : Nat → Bool) : ∀ n, rfi P n ≤ n
  | 0 => Nat.le_refl 0
  | n + 1 => by
    rw [rfi]
    split
    · exact Nat.le_refl _
    · have := rfi_le P n; omega
theorem rfdC {Q : Nat → xC → Prop} {k : Int64} {P : Nat → Bool} (h4 : C.1 4 ≤ 40) (hd : ∀ d, d < C.1 4 → ∃ a D, C.2.2.2.2.1 0 d = some a ∧ xD C a D ∧ (D.1 = k ↔ P d = true)) (h : Q (rfi P (C.1 4)) C) : w_D_find k C Q := by
  have key : ∀ n, n ≤ C.1 4 → Q (rfi P n) C → w_D_find_7 (n + 1) k n C Q := by
    intro n
    induction n with
    | zero =>
      intro _ h
      unfold w_D_find_7 wi_D_find_7
      exact ⟨by decide, fun _ => h, fun q => absurd (by decide) q⟩
    | succ n ih =>
      intro hn h
      unfold w_D_find_7 wi_D_find_7
      obtain ⟨a, D, k1, k2, k3⟩ := hd n (by omega)
      refine ⟨by omega, fun q => by omega, fun _ => ⟨by omega, by omega, a, D, k1, k2, fun q => ?_, fun q => ⟨by omega, ?_⟩⟩⟩
      · rw [rfi, if_pos (k3.mp q)] at h; exact h
      · rw [rfi, if_neg (fun z => q (k3.mpr z))] at h
        exact ih (by omega) h
  exact ⟨C.1 4 + 1, key _ (Nat.le_refl _) h⟩
theorem rfdM {Q : Nat → xM → Prop} {k : Int64} (h4 : M.1 4 ≤ 40) (h17 : M.1 17 ≤ 160) (h : M.1 17 ≤ 7 → Q (rfi (fun d => decide (M.2.2.2 d = k)) (M.1 4)) M) (hn : 7 < M.1 17 → Q 0 M) : w_R_find k M Q := by
  unfold w_R_find
  by_cases h7 : M.1 17 ≤ 7
  · have key : ∀ m l, l + m = M.1 4 → w_R_find_5 (m + 1) k (rfi (fun d => decide (M.2.2.2 d = k)) l) l M Q := by
      intro m
      induction m with
      | zero =>
        intro l hl
        have : l = M.1 4 := by omega
        subst this
        unfold w_R_find_5 wi_R_find_5
        exact ⟨by omega, by omega, fun _ => h h7, fun q => by omega⟩
      | succ m ih =>
        intro l hl
        unfold w_R_find_5 wi_R_find_5
        have := ih (l + 1) (by omega)
        refine ⟨by omega, by omega, fun q => by omega, fun _ => ⟨by omega, fun q => by omega, fun _ => ⟨by omega, fun q => ?_, fun q => ?_⟩⟩⟩
        · rw [rfi, if_pos (by simp [q])] at this; exact this
        · rw [rfi, if_neg (by simp [q])] at this; exact this
    exact ⟨M.1 4 + 1, key (M.1 4) 0 (by omega)⟩
  · refine ⟨1, ?_⟩
    unfold w_R_find_5 wi_R_find_5
    by_cases h0 : M.1 4 = 0
    · exact ⟨by decide, by omega, fun _ => hn (by omega), fun q => by omega⟩
    · exact ⟨by decide, by omega, fun _ => hn (by omega), fun _ => ⟨by omega, fun _ => hn (by omega), fun q => by omega⟩⟩
/-- the built-in words: the first of the list with the key -/
def rwk (k : Int64) : Nat → Nat → Option Nat
  | 0, _ => none
  | m + 1, l => if xwY l = k then some l else rwk k m (l + 1)
theorem rwkC {Q : Option Nat → xC → Prop} {k : Int64} : ∀ m l, l + m = 55 → Q ((rwk k m l).map (1048576 + ·)) C → w_W_withKey_2 (m + 1) k l C Q
  | 0, l, hl, h => by
    unfold w_W_withKey_2 wi_W_withKey_2
    exact ⟨by omega, fun _ => h, fun q => by omega⟩
  | m + 1, l, hl, h => by
    unfold w_W_withKey_2 wi_W_withKey_2
    refine ⟨by omega, fun q => by omega, fun _ => ⟨by omega, by omega, fun q => ⟨by omega, ?_⟩, fun q => ?_⟩⟩
    · rw [rwk, if_pos q] at h; exact h
    · rw [rwk, if_neg q] at h
      exact rwkC m (l + 1) (by omega) h
theorem rwkC0 {Q : Option Nat → xC → Prop} {k : Int64} (h : Q ((rwk k 55 0).map (1048576 + ·)) C) : w_W_withKey k C Q := ⟨56, rwkC 55 0 (by decide) h⟩
end RKY
