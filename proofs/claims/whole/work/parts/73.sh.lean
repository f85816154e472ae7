/-! keys: alike -/
theorem rle_cg {f g : Nat → Nat} : ∀ l s t, (∀ j, j < l → f (s + j) = g (t + j)) → rle f s l = rle g t l
  | 0, _, _, _ => rfl
  | l + 1, s, t, h => by
    have h0 : f s = g t := h 0 (by omega)
    have ih := rle_cg l (s + 1) (t + 1) (fun j hj => by have := h (j + 1) (by omega); rw [show s + 1 + j = s + (j + 1) by omega, show t + 1 + j = t + (j + 1) by omega]; exact this)
    simp only [rle]
    rw [h0, ih]
theorem rbe_cg {f g : Nat → Nat} {s t : Nat} : ∀ l, (∀ j, j < l → f (s + j) = g (t + j)) → rbe f s l = rbe g t l
  | 0, _ => rfl
  | l + 1, h => by
    have ih := rbe_cg l (fun j hj => h j (by omega))
    have h0 := h l (by omega)
    simp only [rbe]
    rw [h0, ih]
def rkC (f : Nat → Nat) (s l : Nat) : Int64 := if l ≤ 8 then Int64.ofNat (rle f s l) else -1
def rkM (f : Nat → Nat) (s l : Nat) : Int64 := if l ≤ 8 then Int64.ofNat (rbe f s l) else Int64.ofNat 0
theorem rkC_cg {f g : Nat → Nat} {s l : Nat} (h : ∀ j, j < l → f (s + j) = g (s + j)) : rkC f s l = rkC g s l := by
  unfold rkC; rw [rle_cg l s s h]
theorem p256 {l k : Nat} (h : l ≤ k) : 2 ^ (8 * l) ≤ 2 ^ (8 * k) := Nat.pow_le_pow_right (by decide) (by omega)
theorem rof_neg {a : Nat} (ha : a < 2 ^ 63) : ¬ Int64.ofNat a = -1 := by
  intro h
  have := congrArg Int64.toInt h
  rw [Int64.toInt_ofNat_of_lt ha] at this
  have e : (-1 : Int64).toInt = -1 := by decide
  omega
theorem rle_half (f : Nat → Nat) : ∀ m t, (∀ j, j < m → f (t + j) < 128) → 2 * rle f t m < 2 ^ (8 * m) ∨ m = 0
  | 0, _, _ => Or.inr rfl
  | m + 1, t, ht => by
    left
    have h0 := ht 0 (by omega)
    rw [Nat.add_zero] at h0
    have e : rle f t (m + 1) = rle f (t + 1) m * 256 + f t := rfl
    have p : (2 : Nat) ^ (8 * (m + 1)) = 256 * 2 ^ (8 * m) := by rw [show 8 * (m + 1) = 8 * m + 8 by omega, Nat.pow_add]; omega
    rcases rle_half f m (t + 1) (fun j hj => by have := ht (j + 1) (by omega); rw [show t + 1 + j = t + (j + 1) by omega]; exact this) with i1 | i1
    · rw [e, p]; omega
    · subst i1
      have : rle f (t + 1) 0 = 0 := rfl
      rw [e, this]
      have : (2 : Nat) ^ (8 * (0 + 1)) = 256 := by decide
      omega
theorem rle_63 (f : Nat → Nat) (m t : Nat) (hm : m ≤ 8) (ht : ∀ j, j < m → f (t + j) < 128) : rle f t m < 2 ^ 63 := by
  rcases rle_half f m t ht with w | w
  · have : (2 : Nat) ^ (8 * 8) = 2 * 2 ^ 63 := by decide
    have : (2 : Nat) ^ (8 * m) ≤ 2 ^ (8 * 8) := p256 hm
    omega
  · subst w; show 0 < 2 ^ 63; decide
section SH
variable {f : Nat → Nat} {s l : Nat}
theorem rkn {k m : Int64} (hl : 1 ≤ l) (hf : ∀ j, j < l → 1 ≤ f (s + j) ∧ f (s + j) < 128) (hn : rNm1 k m) : k = rkC f s l ↔ (l ≤ 7 ∧ m = rkM f s l) := by
  obtain ⟨nf, nl, n1, n7, nc, rfl, rfl⟩ := hn
  have nc' : ∀ j, j < nl → 1 ≤ nf (0 + j) ∧ nf (0 + j) < 128 := fun j hj => by rw [Nat.zero_add]; exact nc j hj
  have b1 := rle_lt nf nl 0 (fun j hj => (nc' j hj).2)
  have b2 := rbe_lt nf 0 nl (fun j hj => (nc' j hj).2)
  have q1 : (2 : Nat) ^ (8 * nl) ≤ 2 ^ (8 * 7) := p256 n7
  have q2 : (2 : Nat) ^ (8 * 7) < 2 ^ 63 := by decide
  unfold rkC rkM
  by_cases c : l ≤ 8
  · rw [if_pos c, if_pos c]
    constructor
    · intro h
      have c7 : l ≤ 7 := by
        rcases Nat.lt_or_ge l 8 with z | z
        · omega
        · -- eight letters: the numbers differ, whatever the sign
          have l8 : l = 8 := by omega
          subst l8
          have b3 := rle_lt f 8 s (fun j hj => (hf j hj).2)
          have b4 := rle_63 f 8 s (by decide) (fun j hj => (hf j hj).2)
          have := rof_inj (by omega) b4 h
          have := (rle_inj nf f nl 8 0 s nc' hf this).1
          omega
      have p7 : (2 : Nat) ^ (8 * l) ≤ 2 ^ (8 * 7) := p256 c7
      have b3 := rle_lt f l s (fun j hj => (hf j hj).2)
      have e := rof_inj (by omega) (by omega) h
      obtain ⟨e1, e2⟩ := rle_inj nf f nl l 0 s nc' hf e
      subst e1
      exact ⟨c7, by rw [rbe_cg nl e2]⟩
    · rintro ⟨c7, h⟩
      have p7 : (2 : Nat) ^ (8 * l) ≤ 2 ^ (8 * 7) := p256 c7
      have b3 := rbe_lt f s l (fun j hj => (hf j hj).2)
      have e := rof_inj (by omega) (by omega) h
      obtain ⟨e1, e2⟩ := rbe_inj nf f 0 s nl l nc' hf e
      subst e1
      rw [rle_cg nl 0 s e2]
  · rw [if_neg c]
    constructor
    · intro h; exact absurd h (rof_neg (by omega))
    · rintro ⟨c7, _⟩; omega
theorem xwY_n : ∀ w, w < 55 → ¬ xwY w = -1 := by decide
theorem rwB_0 : ∀ w, w < 55 → w ≠ 37 → w ≠ 49 → ¬ Int64.ofNat 0 = rwB w := by decide
theorem rkw {w : Nat} (hw : w < 55) (h1 : w ≠ 37) (h2 : w ≠ 49) (hf : ∀ j, j < l → 1 ≤ f (s + j) ∧ f (s + j) < 128) : xwY w = rkC f s l ↔ rkM f s l = rwB w := by
  unfold rkC rkM
  by_cases c : l ≤ 8
  · rw [if_pos c, if_pos c]; exact rkq hw c hf
  · rw [if_neg c, if_neg c]
    exact ⟨fun h => absurd h (xwY_n w hw), fun h => absurd h (rwB_0 w hw h1 h2)⟩
theorem rkw0 {w : Nat} (h : w = 37 ∨ w = 49) (hl : 1 ≤ l) (hf : ∀ j, j < l → 1 ≤ f (s + j) ∧ f (s + j) < 128) : ¬ xwY w = rkC f s l := by
  have e0 : xwY w = Int64.ofNat 0 := by rcases h with h | h <;> subst h <;> decide
  have hw : w < 55 := by omega
  intro q
  unfold rkC at q
  by_cases c : l ≤ 8
  · rw [if_pos c] at q
    rw [e0] at q
    obtain ⟨m, rfl⟩ : ∃ m, l = m + 1 := ⟨l - 1, by omega⟩
    have u : rle f s (m + 1) = rle f (s + 1) m * 256 + f s := rfl
    have h0 := hf 0 (by omega)
    rw [Nat.add_zero] at h0
    have := rof_inj (by decide) (rle_63 f (m + 1) s c (fun j hj => (hf j hj).2)) q
    omega
  · rw [if_neg c] at q; exact absurd q (xwY_n w hw)
end SH
section SH2
variable {C : xC} {M : xM} {z0 e : Nat}
/-- the place of a definition with the name, one more -/
def rfd (M : xM) : Nat := if M.1 17 ≤ 7 then rfi (fun d => decide (M.2.2.2 d = rkM (M.2.1 0) (M.1 16) (M.1 17))) (M.1 4) else 0
theorem rfd_le (M : xM) : rfd M ≤ M.1 4 := by
  unfold rfd
  split
  · exact rfi_le _ _
  · exact Nat.zero_le _
theorem sfdC {Q : Nat → xC → Prop} (hF : rF z0 e C M) (hl : 1 ≤ M.1 17) (hf : ∀ j, j < M.1 17 → 1 ≤ M.2.1 0 (M.1 16 + j) ∧ M.2.1 0 (M.1 16 + j) < 128) (h : Q (rfd M) C) : w_D_find (rkC (M.2.1 0) (M.1 16) (M.1 17)) C Q := by
  obtain ⟨k1, k2, k3, k4, ⟨H, k5⟩, k6, k7⟩ := hF
  have e4 := k5.1
  refine rfdC (P := fun d => decide (M.1 17 ≤ 7 ∧ M.2.2.2 d = rkM (M.2.1 0) (M.1 16) (M.1 17))) (by rw [e4]; exact k5.2.1) (fun d hd => ?_) ?_
  · obtain ⟨a, D, a1, a2, a3⟩ := k6 d (by omega)
    exact ⟨a, D, a1, a2, by rw [rkn hl hf a3]; simp⟩
  · rw [e4]
    unfold rfd at h
    by_cases c : M.1 17 ≤ 7
    · rw [if_pos c] at h
      rw [rfi_eq (P' := fun d => decide (M.2.2.2 d = rkM (M.2.1 0) (M.1 16) (M.1 17))) (M.1 4) (fun d _ => by simp [c])]
      exact h
    · rw [if_neg c] at h
      rw [rfi_no (M.1 4) (fun d _ => by simp [c])]
      exact h
theorem sfdM {Q : Nat → xM → Prop} (hF : rF z0 e C M) (h160 : M.1 17 ≤ 160) (h : Q (rfd M) M) : w_R_find (rkM (M.2.1 0) (M.1 16) (M.1 17)) M Q := by
  obtain ⟨k1, k2, k3, k4, ⟨H, k5⟩, k6, k7⟩ := hF
  unfold rfd at h
  exact rfdM k5.2.1 h160 (fun c => by rw [if_pos c] at h; exact h) (fun c => by rw [if_neg (by omega)] at h; exact h)
end SH2
