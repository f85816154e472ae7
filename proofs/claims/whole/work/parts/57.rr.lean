/-! words as numbers: the first letter lowest, or highest -/
def rle (f : Nat → Nat) : Nat → Nat → Nat
  | _, 0 => 0
  | s, l + 1 => rle f (s + 1) l * 256 + f s
def rbe (f : Nat → Nat) (s : Nat) : Nat → Nat
  | 0 => 0
  | l + 1 => rbe f s l * 256 + f (s + l)
theorem rle_lt (f : Nat → Nat) : ∀ l s, (∀ j, j < l → f (s + j) < 128) → rle f s l < 2 ^ (8 * l)
  | 0, s, _ => by simp [rle]
  | l + 1, s, h => by
    have ih := rle_lt f l (s + 1) (fun j hj => by have := h (j + 1) (by omega); rw [show s + 1 + j = s + (j + 1) by omega]; exact this)
    have h0 := h 0 (by omega)
    unfold rle
    rw [show 8 * (l + 1) = 8 * l + 8 by omega, Nat.pow_add]
    simp only [Nat.add_zero] at h0
    omega
theorem rbe_lt (f : Nat → Nat) (s : Nat) : ∀ l, (∀ j, j < l → f (s + j) < 128) → rbe f s l < 2 ^ (8 * l)
  | 0, _ => by simp [rbe]
  | l + 1, h => by
    have ih := rbe_lt f s l (fun j hj => h j (by omega))
    have h0 := h l (by omega)
    unfold rbe
    rw [show 8 * (l + 1) = 8 * l + 8 by omega, Nat.pow_add]
    omega
theorem rle_inj (f g : Nat → Nat) : ∀ l l' s t, (∀ j, j < l → 1 ≤ f (s + j) ∧ f (s + j) < 128) → (∀ j, j < l' → 1 ≤ g (t + j) ∧ g (t + j) < 128) → rle f s l = rle g t l' → l = l' ∧ ∀ j, j < l → f (s + j) = g (t + j)
  | 0, 0, _, _, _, _, _ => ⟨rfl, fun j hj => by omega⟩
  | 0, l' + 1, s, t, _, hg, h => by
    have := hg 0 (by omega)
    simp only [rle, Nat.add_zero] at h this
    omega
  | l + 1, 0, s, t, hf, _, h => by
    have := hf 0 (by omega)
    simp only [rle, Nat.add_zero] at h this
    omega
  | l + 1, l' + 1, s, t, hf, hg, h => by
    have h1 := hf 0 (by omega)
    have h2 := hg 0 (by omega)
    simp only [Nat.add_zero] at h1 h2
    unfold rle at h
    obtain ⟨e1, e2⟩ := rle_inj f g l l' (s + 1) (t + 1) (fun j hj => by have := hf (j + 1) (by omega); rw [show s + 1 + j = s + (j + 1) by omega]; exact this) (fun j hj => by have := hg (j + 1) (by omega); rw [show t + 1 + j = t + (j + 1) by omega]; exact this) (by omega)
    refine ⟨by omega, fun j hj => ?_⟩
    cases j with
    | zero => simp only [Nat.add_zero]; omega
    | succ j =>
      have := e2 j (by omega)
      rw [show s + (j + 1) = s + 1 + j by omega, show t + (j + 1) = t + 1 + j by omega]
      exact this
theorem rbe_inj (f g : Nat → Nat) (s t : Nat) : ∀ l l', (∀ j, j < l → 1 ≤ f (s + j) ∧ f (s + j) < 128) → (∀ j, j < l' → 1 ≤ g (t + j) ∧ g (t + j) < 128) → rbe f s l = rbe g t l' → l = l' ∧ ∀ j, j < l → f (s + j) = g (t + j)
  | 0, 0, _, _, _ => ⟨rfl, fun j hj => by omega⟩
  | 0, l' + 1, _, hg, h => by
    have := hg l' (by omega)
    simp only [rbe] at h
    omega
  | l + 1, 0, hf, _, h => by
    have := hf l (by omega)
    simp only [rbe] at h
    omega
  | l + 1, l' + 1, hf, hg, h => by
    have h1 := hf l (by omega)
    have h2 := hg l' (by omega)
    unfold rbe at h
    obtain ⟨e1, e2⟩ := rbe_inj f g s t l l' (fun j hj => hf j (by omega)) (fun j hj => hg j (by omega)) (by omega)
    subst e1
    refine ⟨rfl, fun j hj => ?_⟩
    by_cases hj2 : j = l
    · subst hj2; omega
    · exact e2 j (by omega)
/-- one letter more -/
theorem rsh8 {k c : Nat} (hk : k < 2 ^ 56) (hc : c < 128) : (Int64.ofNat k <<< ((nI 8).toInt64 &&& 63)) ||| (nI c).toInt64 = Int64.ofNat (k * 256 + c) := by
  have e1 : ((nI 8).toInt64 &&& 63) = 8 := by decide
  have e2 : (nI c).toInt64 = Int64.ofNat c := by
    apply Int64.toInt_inj.mp
    rw [Int32.toInt_toInt64, xt_N (by omega), Int64.toInt_ofNat_of_lt (by omega)]
  rw [e1, e2]
  apply Int64.toBitVec_inj.mp
  apply BitVec.eq_of_toNat_eq
  have e3 : (Int64.ofNat k <<< (8 : Int64)).toBitVec = (BitVec.ofNat 64 k) <<< 8 := rfl
  have e4 : (Int64.ofNat k <<< (8 : Int64) ||| Int64.ofNat c).toBitVec = (BitVec.ofNat 64 k) <<< 8 ||| BitVec.ofNat 64 c := rfl
  have e5 : (Int64.ofNat (k * 256 + c)).toBitVec = BitVec.ofNat 64 (k * 256 + c) := rfl
  rw [e4, e5, BitVec.toNat_or, BitVec.toNat_shiftLeft, BitVec.toNat_ofNat, BitVec.toNat_ofNat, BitVec.toNat_ofNat]
  have h1 : k % 2 ^ 64 = k := Nat.mod_eq_of_lt (by omega)
  have h2 : c % 2 ^ 64 = c := Nat.mod_eq_of_lt (by omega)
  have h3 : (k <<< 8) % 2 ^ 64 = k <<< 8 := Nat.mod_eq_of_lt (by rw [Nat.shiftLeft_eq]; omega)
  have h4 : (k * 256 + c) % 2 ^ 64 = k * 256 + c := Nat.mod_eq_of_lt (by omega)
  rw [h1, h2, h3, h4, ← Nat.shiftLeft_add_eq_or_of_lt (by omega), Nat.shiftLeft_eq]
theorem rof_inj {a b : Nat} (ha : a < 2 ^ 63) (hb : b < 2 ^ 63) (h : Int64.ofNat a = Int64.ofNat b) : a = b := by
  have h2 : (Int64.ofNat a).toInt = (Int64.ofNat b).toInt := by rw [h]
  rw [Int64.toInt_ofNat_of_lt (by omega), Int64.toInt_ofNat_of_lt (by omega)] at h2
  omega
