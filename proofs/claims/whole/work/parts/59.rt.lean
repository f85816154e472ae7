/-! the built-in words are found alike -/
/-- the letters of the built-in words; their numbers on the other side -/
def rwl (w : Nat) : List Nat := [[43], [45], [42], [47], [77, 79, 68], [65, 78, 68], [79, 82], [88, 79, 82], [77, 73, 78], [77, 65, 88], [60], [61], [62], [78, 69, 71, 65, 84, 69], [73, 78, 86, 69, 82, 84], [65, 66, 83], [49, 43], [48, 61], [48, 60], [68, 85, 80], [68, 82, 79, 80], [83, 87, 65, 80], [79, 86, 69, 82], [82, 79, 84], [78, 73, 80], [84, 85, 67, 75], [50, 68, 85, 80], [50, 68, 82, 79, 80], [64], [33], [43, 33], [62, 82], [82, 62], [82, 64], [73], [68, 69, 80, 84, 72], [46], [], [73, 70], [85, 78, 84, 73, 76], [87, 72, 73, 76, 69], [68, 79], [69, 76, 83, 69], [65, 71, 65, 73, 78], [82, 69, 80, 69, 65, 84], [76, 79, 79, 80], [69, 88, 73, 84], [82, 69, 67, 85, 82, 83, 69], [59], [], [84, 72, 69, 78], [66, 69, 71, 73, 78], [58], [86, 65, 82, 73, 65, 66, 76, 69], [67, 79, 78, 83, 84, 65, 78, 84]].getD w []
def rwc (w : Nat) : Nat := [1, 2, 3, 9, 10, 4, 5, 6, 7, 8, 11, 12, 13, 14, 15, 16, 17, 18, 19, 20, 21, 22, 23, 24, 25, 26, 27, 28, 30, 31, 32, 33, 34, 35, 35, 29, 36, 0, 56, 60, 62, 64, 57, 61, 63, 65, 54, 55, 53, 0, 58, 59, 50, 51, 52].getD w 0
def rwB (w : Nat) : Int64 := ([43, 45, 42, 47, 5066564, 4279876, 20306, 5787474, 5065038, 5063000, 60, 61, 62, 86059455173701, 80600803660372, 4276819, 12587, 12349, 12348, 4478288, 1146244944, 1398227280, 1331053906, 5394260, 5130576, 1414873931, 843339088, 215894609744, 64, 33, 11041, 15954, 21054, 21056, 73, 293220668488, 46, 0, 18758, 366386366796, 374874917957, 17487, 1162629957, 280368335182, 90457652937044, 1280266064, 1163413844, 23157103586857797, 59, 0, 1414022478, 284630141262, 58, 6215339435328949317, 4850181443504131668] : List Int64).getD w 0
def rwf (w j : Nat) : Nat := (rwl w).getD j 0
theorem rwl_a : ∀ w, w < 55 → (∀ j, j < (rwl w).length → 1 ≤ rwf w (0 + j) ∧ rwf w (0 + j) < 128) ∧ (rwl w).length ≤ 8 ∧ Int64.ofNat (rle (rwf w) 0 (rwl w).length) = xwY w ∧ Int64.ofNat (rbe (rwf w) 0 (rwl w).length) = rwB w := by decide
/-- a word has a built-in word's key on the one side just where it has it on the other -/
theorem rkq {f : Nat → Nat} {s l w : Nat} (hw : w < 55) (hl : l ≤ 8) (hf : ∀ j, j < l → 1 ≤ f (s + j) ∧ f (s + j) < 128) : xwY w = Int64.ofNat (rle f s l) ↔ Int64.ofNat (rbe f s l) = rwB w := by
  obtain ⟨a1, a2, a3, a4⟩ := rwl_a w hw
  have b1 := rle_lt f l s (fun j hj => (hf j hj).2)
  have b2 := rbe_lt f s l (fun j hj => (hf j hj).2)
  have b3 := rle_lt (rwf w) (rwl w).length 0 (fun j hj => (a1 j hj).2)
  have b4 := rbe_lt (rwf w) 0 (rwl w).length (fun j hj => (a1 j hj).2)
  have c1 : (2 : Nat) ^ (8 * l) ≤ 2 ^ 64 := Nat.pow_le_pow_right (by decide) (by omega)
  have c2 : (2 : Nat) ^ (8 * (rwl w).length) ≤ 2 ^ 64 := Nat.pow_le_pow_right (by decide) (by omega)
  have key : ∀ a b : Nat, a < 2 ^ 64 → b < 2 ^ 64 → Int64.ofNat a = Int64.ofNat b → a = b := fun a b ha hb h => by
    have h2 : (Int64.ofNat a).toBitVec.toNat = (Int64.ofNat b).toBitVec.toNat := by rw [h]
    have e1 : (Int64.ofNat a).toBitVec = BitVec.ofNat 64 a := rfl
    have e2 : (Int64.ofNat b).toBitVec = BitVec.ofNat 64 b := rfl
    rw [e1, e2, BitVec.toNat_ofNat, BitVec.toNat_ofNat, Nat.mod_eq_of_lt ha, Nat.mod_eq_of_lt hb] at h2
    exact h2
  constructor
  · intro h
    rw [← a3] at h
    obtain ⟨e1, e2⟩ := rle_inj (rwf w) f (rwl w).length l 0 s a1 hf (key _ _ (by omega) (by omega) h)
    rw [← a4]
    congr 1
    subst e1
    have : ∀ n, n ≤ (rwl w).length → rbe f s n = rbe (rwf w) 0 n := by
      intro n
      induction n with
      | zero => intro _; rfl
      | succ n ih => intro hn; rw [rbe, rbe, ih (by omega), e2 n (by omega)]
    exact this _ (Nat.le_refl _)
  · intro h
    rw [← a4] at h
    obtain ⟨e1, e2⟩ := rbe_inj f (rwf w) s 0 l (rwl w).length hf a1 (key _ _ (by omega) (by omega) h)
    rw [← a3]
    congr 1
    subst e1
    have : ∀ n i, i + n = (rwl w).length → rle (rwf w) (0 + i) n = rle f (s + i) n := by
      intro n
      induction n with
      | zero => intro i _; rfl
      | succ n ih =>
        intro i hi
        have q := ih (i + 1) (by omega)
        rw [rle, rle, show 0 + i + 1 = 0 + (i + 1) by omega, show s + i + 1 = s + (i + 1) by omega, q, e2 i (by omega)]
    exact this (rwl w).length 0 (by omega)
theorem rwk_some {k : Int64} : ∀ m l w, rwk k m l = some w → l ≤ w ∧ w < l + m ∧ xwY w = k
  | 0, _, _, h => by cases h
  | m + 1, l, w, h => by
    rw [rwk] at h
    split at h
    · rename_i c; cases h; exact ⟨Nat.le_refl _, by omega, c⟩
    · have := rwk_some m (l + 1) w h
      exact ⟨by omega, by omega, this.2.2⟩
theorem rwk_none {k : Int64} : ∀ m l, rwk k m l = none → ∀ w, l ≤ w → w < l + m → ¬ xwY w = k
  | 0, _, _, w, h1, h2 => by omega
  | m + 1, l, h, w, h1, h2 => by
    rw [rwk] at h
    split at h
    · cases h
    · rename_i c
      by_cases hw : w = l
      · subst hw; exact c
      · exact rwk_none m (l + 1) h w (by omega) (by omega)
section RBO
variable {M : xM} {Q : Nat → xM → Prop}
/-- the other side's two lists, one behind the other -/
def rbo (k : Int64) (M : xM) (Q : Nat → xM → Prop) : Prop := w_R_builtIn k M (fun r6 M5 => (r6 < 2147483648 ∧ ((1 ≤ r6 → Q r6 M5) ∧ (¬ 1 ≤ r6 → w_R_other k M5 (fun r10 M9 => Q r10 M9)))))
set_option maxHeartbeats 4000000 in
theorem rbo_w : ∀ w, w < 55 → w ≠ 37 → w ≠ 49 → Q (rwc w + 1) M → rbo (rwB w) M Q := by
  have H : ∀ w, w ∈ List.range 55 → w ≠ 37 → w ≠ 49 → Q (rwc w + 1) M → rbo (rwB w) M Q := by
    simp only [List.range, List.range.loop, List.forall_mem_cons]
    simp [rwB, rwc, rbo, w_R_builtIn, w_R_other]
  exact fun w hw => H w (List.mem_range.mpr hw)
theorem rbo_n {k : Int64} (hk : ∀ w, w < 55 → w ≠ 37 → w ≠ 49 → ¬ k = rwB w) (h : Q 0 M) : rbo k M Q := by
  have e0 : ¬ k = 43 := hk 0 (by decide) (by decide) (by decide)
  have e1 : ¬ k = 45 := hk 1 (by decide) (by decide) (by decide)
  have e2 : ¬ k = 42 := hk 2 (by decide) (by decide) (by decide)
  have e3 : ¬ k = 47 := hk 3 (by decide) (by decide) (by decide)
  have e4 : ¬ k = 5066564 := hk 4 (by decide) (by decide) (by decide)
  have e5 : ¬ k = 4279876 := hk 5 (by decide) (by decide) (by decide)
  have e6 : ¬ k = 20306 := hk 6 (by decide) (by decide) (by decide)
  have e7 : ¬ k = 5787474 := hk 7 (by decide) (by decide) (by decide)
  have e8 : ¬ k = 5065038 := hk 8 (by decide) (by decide) (by decide)
  have e9 : ¬ k = 5063000 := hk 9 (by decide) (by decide) (by decide)
  have e10 : ¬ k = 60 := hk 10 (by decide) (by decide) (by decide)
  have e11 : ¬ k = 61 := hk 11 (by decide) (by decide) (by decide)
  have e12 : ¬ k = 62 := hk 12 (by decide) (by decide) (by decide)
  have e13 : ¬ k = 86059455173701 := hk 13 (by decide) (by decide) (by decide)
  have e14 : ¬ k = 80600803660372 := hk 14 (by decide) (by decide) (by decide)
  have e15 : ¬ k = 4276819 := hk 15 (by decide) (by decide) (by decide)
  have e16 : ¬ k = 12587 := hk 16 (by decide) (by decide) (by decide)
  have e17 : ¬ k = 12349 := hk 17 (by decide) (by decide) (by decide)
  have e18 : ¬ k = 12348 := hk 18 (by decide) (by decide) (by decide)
  have e19 : ¬ k = 4478288 := hk 19 (by decide) (by decide) (by decide)
  have e20 : ¬ k = 1146244944 := hk 20 (by decide) (by decide) (by decide)
  have e21 : ¬ k = 1398227280 := hk 21 (by decide) (by decide) (by decide)
  have e22 : ¬ k = 1331053906 := hk 22 (by decide) (by decide) (by decide)
  have e23 : ¬ k = 5394260 := hk 23 (by decide) (by decide) (by decide)
  have e24 : ¬ k = 5130576 := hk 24 (by decide) (by decide) (by decide)
  have e25 : ¬ k = 1414873931 := hk 25 (by decide) (by decide) (by decide)
  have e26 : ¬ k = 843339088 := hk 26 (by decide) (by decide) (by decide)
  have e27 : ¬ k = 215894609744 := hk 27 (by decide) (by decide) (by decide)
  have e28 : ¬ k = 64 := hk 28 (by decide) (by decide) (by decide)
  have e29 : ¬ k = 33 := hk 29 (by decide) (by decide) (by decide)
  have e30 : ¬ k = 11041 := hk 30 (by decide) (by decide) (by decide)
  have e31 : ¬ k = 15954 := hk 31 (by decide) (by decide) (by decide)
  have e32 : ¬ k = 21054 := hk 32 (by decide) (by decide) (by decide)
  have e33 : ¬ k = 21056 := hk 33 (by decide) (by decide) (by decide)
  have e34 : ¬ k = 73 := hk 34 (by decide) (by decide) (by decide)
  have e35 : ¬ k = 293220668488 := hk 35 (by decide) (by decide) (by decide)
  have e36 : ¬ k = 46 := hk 36 (by decide) (by decide) (by decide)
  have e38 : ¬ k = 18758 := hk 38 (by decide) (by decide) (by decide)
  have e39 : ¬ k = 366386366796 := hk 39 (by decide) (by decide) (by decide)
  have e40 : ¬ k = 374874917957 := hk 40 (by decide) (by decide) (by decide)
  have e41 : ¬ k = 17487 := hk 41 (by decide) (by decide) (by decide)
  have e42 : ¬ k = 1162629957 := hk 42 (by decide) (by decide) (by decide)
  have e43 : ¬ k = 280368335182 := hk 43 (by decide) (by decide) (by decide)
  have e44 : ¬ k = 90457652937044 := hk 44 (by decide) (by decide) (by decide)
  have e45 : ¬ k = 1280266064 := hk 45 (by decide) (by decide) (by decide)
  have e46 : ¬ k = 1163413844 := hk 46 (by decide) (by decide) (by decide)
  have e47 : ¬ k = 23157103586857797 := hk 47 (by decide) (by decide) (by decide)
  have e48 : ¬ k = 59 := hk 48 (by decide) (by decide) (by decide)
  have e50 : ¬ k = 1414022478 := hk 50 (by decide) (by decide) (by decide)
  have e51 : ¬ k = 284630141262 := hk 51 (by decide) (by decide) (by decide)
  have e52 : ¬ k = 58 := hk 52 (by decide) (by decide) (by decide)
  have e53 : ¬ k = 6215339435328949317 := hk 53 (by decide) (by decide) (by decide)
  have e54 : ¬ k = 4850181443504131668 := hk 54 (by decide) (by decide) (by decide)
  simp [rbo, w_R_builtIn, w_R_other, h, e0, e1, e2, e3, e4, e5, e6, e7, e8, e9, e10, e11, e12, e13, e14, e15, e16, e17, e18, e19, e20, e21, e22, e23, e24, e25, e26, e27, e28, e29, e30, e31, e32, e33, e34, e35, e36, e38, e39, e40, e41, e42, e43, e44, e45, e46, e47, e48, e50, e51, e52, e53, e54]
end RBO
