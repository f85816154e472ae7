/-! the two sides alike: stacks; cells and said numbers -/
def rS (C : xC) (M : xM) : Prop := C.1 9 = M.1 9 ∧ M.1 9 ≤ 24 ∧ (∀ i, i < M.1 9 → C.2.2.1 1 i = M.2.2.1 1 i) ∧ C.1 10 = M.1 10 ∧ M.1 10 ≤ 24 ∧ (∀ i, i < M.1 10 → C.2.2.1 2 i = M.2.2.1 2 i)
def rW (C : xC) (M : xM) : Prop := (∀ i, i < 64 → C.2.2.1 3 i = M.2.2.1 3 i) ∧ C.1 13 = M.1 11 ∧ (∀ k, k < 40 → k < M.1 11 → C.2.2.1 4 ((M.1 11 - 1 - k) % 40) = M.2.2.1 4 k)
/-- what doing a word leaves alone -/
def rfC (C C' : xC) : Prop := (∀ i, i ≠ 9 → i ≠ 10 → i ≠ 13 → C'.1 i = C.1 i) ∧ C'.2.1 = C.2.1 ∧ C'.2.2.1 0 = C.2.2.1 0 ∧ C'.2.2.2 = C.2.2.2
def rfM (M M' : xM) : Prop := (∀ i, i ≠ 1 → i ≠ 9 → i ≠ 10 → i ≠ 11 → M'.1 i = M.1 i) ∧ M'.2.1 = M.2.1 ∧ M'.2.2.1 0 = M.2.2.1 0 ∧ M'.2.2.2 = M.2.2.2
/-- the fault's number on the other side -/
def rfb (f : Nat) : Nat := [0, 1, 2, 3, 4, 5].getD (f - 55) 0
def rP (w : Nat) (C : xC) (M : xM) (C' : xC) (f : Nat) (M' : xM) : Prop := rW C' M' ∧ (f = 55 → rS C' M' ∧ M'.1 9 + xwT w = M.1 9 + xwL w ∧ xwT w ≤ M.1 9) ∧ rfC C C' ∧ rfM M M' ∧ M'.1 1 = rfb f ∧ M'.1 11 ≤ M.1 11 + 1 ∧ (f = 55 ∨ f = 58 ∨ f = 59)
/-- a word's number on the other side -/
def rcd (w : Nat) : Nat := [1, 2, 3, 9, 10, 4, 5, 6, 7, 8, 11, 12, 13, 14, 15, 16, 17, 18, 19, 20, 21, 22, 23, 24, 25, 26, 27, 28, 30, 31, 32, 33, 34, 35, 35, 29, 36, 40, 45, 45, 45, 47, 46, 46, 46, 48, 42, 0, 42, 41].getD w 0
def rop (w : Nat) (a b : Int32) : Int32 := match w with
  | 0 => a + b
  | 1 => a - b
  | 2 => a * b
  | 3 => a / b
  | 4 => a - a / b * b
  | 5 => a &&& b
  | 6 => a ||| b
  | 7 => a ^^^ b
  | 8 => if b < a then b else a
  | 9 => if a < b then b else a
  | 10 => if a < b then -1 else nI 0
  | 11 => if a = b then -1 else nI 0
  | _ => if b < a then -1 else nI 0
def rop1 (w : Nat) (a : Int32) : Int32 := match w with
  | 13 => -a
  | 14 => a ^^^ -1
  | 15 => if a < 0 then -a else a
  | 16 => a + nI 1
  | 17 => if a = 0 then -1 else nI 0
  | _ => if a < 0 then -1 else nI 0
theorem r13 {p : Nat → Prop} (h0 : p 0) (h1 : p 1) (h2 : p 2) (h3 : p 3) (h4 : p 4) (h5 : p 5) (h6 : p 6) (h7 : p 7) (h8 : p 8) (h9 : p 9) (h10 : p 10) (h11 : p 11) (h12 : p 12) : ∀ w, w < 13 → p w := by
  intro w hw
  have : w = 0 ∨ w = 1 ∨ w = 2 ∨ w = 3 ∨ w = 4 ∨ w = 5 ∨ w = 6 ∨ w = 7 ∨ w = 8 ∨ w = 9 ∨ w = 10 ∨ w = 11 ∨ w = 12 := by omega
  rcases this with h | h | h | h | h | h | h | h | h | h | h | h | h <;> subst h <;> assumption
theorem i32_nlt {a b : Int32} : ¬ a < b ↔ b ≤ a := by rw [Int32.lt_iff_toInt_lt, Int32.le_iff_toInt_le]; omega
theorem i32_nle {a b : Int32} : ¬ a ≤ b ↔ b < a := by rw [Int32.lt_iff_toInt_lt, Int32.le_iff_toInt_le]; omega
theorem i32_eq {a b : Int32} (h1 : a ≤ b) (h2 : b ≤ a) : a = b := by
  rw [Int32.le_iff_toInt_le] at h1 h2
  exact Int32.toInt_inj.mp (by omega)
theorem rofC {C : xC} {Q : Int32 → xC → Prop} {a b : Int32} : ∀ w, w < 13 → ((w = 3 ∨ w = 4) → ¬ b = 0) → Q (rop w a b) C → w_M_ofTwo w a b C Q := by
  apply r13
  all_goals
    intro hb h
    simp [rop] at hb h
    simp [w_M_ofTwo, xwV, w_M_flag, h, hb]
  · exact ⟨fun h1 => by rw [if_neg (i32_nlt.mpr h1)] at h; exact h, fun h1 => by rw [if_pos h1] at h; exact h⟩
  · exact ⟨fun h1 => by rw [if_pos h1] at h; exact h, fun h1 => by rw [if_neg h1] at h; exact h⟩
  · exact ⟨fun h1 => by rw [if_neg (i32_nlt.mpr h1)] at h; exact h, fun h1 => by rw [if_pos h1] at h; exact h⟩
theorem rofM {M : xM} {Q : Int32 → xM → Prop} {a b : Int32} : ∀ w, w < 13 → ((w = 3 ∨ w = 4) → ¬ b = 0) → Q (rop w a b) M → w_R_arithmetic (rcd w) a b M Q := by
  apply r13
  all_goals
    intro hb h
    simp [rop] at hb h
    simp [w_R_arithmetic, rcd, h, hb]
  · exact ⟨fun h1 => by
      by_cases h2 : b < a
      · rw [if_pos h2] at h; exact h
      · rw [if_neg h2] at h; rw [i32_eq h1 (i32_nlt.mp h2)]; exact h, fun h1 => by rw [if_neg (i32_nlt.mpr (by rw [Int32.le_iff_toInt_le]; rw [Int32.lt_iff_toInt_lt] at h1; omega))] at h; exact h⟩
  · exact ⟨fun h1 => by
      by_cases h2 : a < b
      · rw [if_pos h2] at h; exact h
      · rw [if_neg h2] at h; rw [← i32_eq h1 (i32_nlt.mp h2)]; exact h, fun h1 => by rw [if_neg (i32_nlt.mpr (by rw [Int32.le_iff_toInt_le]; rw [Int32.lt_iff_toInt_lt] at h1; omega))] at h; exact h⟩
  · exact ⟨fun h1 => by rw [if_neg (i32_nlt.mpr h1)] at h; exact h, fun h1 => by rw [if_pos h1] at h; exact h⟩
  · exact ⟨fun h1 => by rw [if_pos h1] at h; exact h, fun h1 => by rw [if_neg h1] at h; exact h⟩
  · exact ⟨fun h1 => by rw [if_neg (i32_nlt.mpr h1)] at h; exact h, fun h1 => by rw [if_pos h1] at h; exact h⟩
theorem r6 {p : Nat → Prop} (h0 : p 13) (h1 : p 14) (h2 : p 15) (h3 : p 16) (h4 : p 17) (h5 : p 18) : ∀ w, 13 ≤ w → w < 19 → p w := by
  intro w hw hw2
  have : w = 13 ∨ w = 14 ∨ w = 15 ∨ w = 16 ∨ w = 17 ∨ w = 18 := by omega
  rcases this with h | h | h | h | h | h <;> subst h <;> assumption
theorem ronC {C : xC} {Q : Int32 → xC → Prop} {a : Int32} : ∀ w, 13 ≤ w → w < 19 → Q (rop1 w a) C → w_M_ofOne w a C Q := by
  apply r6
  all_goals
    intro h
    simp [rop1] at h
    simp [w_M_ofOne, xwV, w_M_flag, h]
  · exact ⟨fun h1 => by rw [if_pos h1] at h; exact h, fun h1 => by rw [if_neg h1] at h; exact h⟩
  · exact ⟨fun h1 => by rw [if_neg (i32_nlt.mpr h1)] at h; exact h, fun h1 => by rw [if_pos h1] at h; exact h⟩
theorem ronM {M : xM} {Q : Int32 → xM → Prop} {a : Int32} : ∀ w, 13 ≤ w → w < 19 → Q (rop1 w a) M → w_R_single (rcd w) a M Q := by
  apply r6
  all_goals
    intro h
    simp [rop1] at h
    simp [w_R_single, rcd, h]
  · exact ⟨fun h1 => by rw [if_neg (i32_nlt.mpr h1)] at h; exact h, fun h1 => by rw [if_pos h1] at h; exact h⟩
  · exact ⟨fun h1 => by rw [if_pos h1] at h; exact h, fun h1 => by rw [if_neg h1] at h; exact h⟩
  · exact ⟨fun h1 => by rw [if_neg (i32_nlt.mpr h1)] at h; exact h, fun h1 => by rw [if_pos h1] at h; exact h⟩
/-- one of the first fifty -/
theorem r50 {p : Nat → Prop} (h : ∀ w, w ∈ List.range 50 → p w) : ∀ w, w < 50 → p w := fun w hw => h w (List.mem_range.mpr hw)
theorem rtkM {M : xM} {Q : Nat → xM → Prop} : ∀ w, w < 50 → w ≠ 47 → Q (xwT w) M → w_R_takes (rcd w) M Q := by
  apply r50
  simp only [List.range, List.range.loop, List.forall_mem_cons]
  simp [rcd, xwT, w_R_takes]
theorem rgvM {M : xM} {Q : Nat → xM → Prop} : ∀ w, w < 50 → w ≠ 47 → Q (xwL w) M → w_R_gives (rcd w) M Q := by
  apply r50
  simp only [List.range, List.range.loop, List.forall_mem_cons]
  simp [rcd, xwL, xwS, xwG, w_R_gives]
