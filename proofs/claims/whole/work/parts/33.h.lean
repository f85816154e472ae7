/-! how a method ends: with a number, an int, a number less one, a long, a constant, an object or none, without answer; or it throws -/
section XP
variable {X : Type}
def xPN (Q : Nat → X → Prop) (o : mj_O) (x : X) : Prop := ∃ r, o = .inl (some (.int (nI r))) ∧ Q r x
def xPI (Q : Int32 → X → Prop) (o : mj_O) (x : X) : Prop := ∃ r, o = .inl (some (.int r)) ∧ Q r x
def xPM (Q : Nat → X → Prop) (o : mj_O) (x : X) : Prop := ∃ r, o = .inl (some (.int (nI r - nI 1))) ∧ Q r x
def xPL (Q : Int64 → X → Prop) (o : mj_O) (x : X) : Prop := ∃ r, o = .inl (some (.long r)) ∧ Q r x
def xPW (Q : Nat → X → Prop) (o : mj_O) (x : X) : Prop := ∃ r, o = .inl (some (.ref (1048576 + r))) ∧ Q r x
def xPO (Q : Option Nat → X → Prop) (o : mj_O) (x : X) : Prop := ∃ r, o = .inl (some (va_rf r)) ∧ Q r x
def xPV (Q : X → Prop) (o : mj_O) (x : X) : Prop := o = .inl none ∧ Q x
end XP
def xEX (E : Nat → xC → Prop) (o : mj_O) (C : xC) : Prop := ∃ ci, o = .inr (C.2.2.2.2.2.2.1.length + 37) ∧ (C.2.2.2.2.2.2.1.length + 37 < 1048576 ∧ C.2.2.2.2.2.2.1[C.2.2.2.2.2.2.1.length - 1]? = some (.inr (ci, [])) ∧ 1 ≤ C.2.2.2.2.2.2.1.length) ∧ E ci C
theorem xEX_mk {C : xC} {ci : Nat} {E : Nat → xC → Prop} (c : C.2.2.2.2.2.2.1.length + 38 < 1048576) (h : E ci (cX C ci)) : xEX E (.inr (C.2.2.2.2.2.2.1.length + 38)) (cX C ci) := by
  have hl : (cX C ci).2.2.2.2.2.2.1.length = C.2.2.2.2.2.2.1.length + 1 := by simp [cX]
  refine ⟨ci, by rw [hl], ⟨by rw [hl]; omega, ?_, by rw [hl]; omega⟩, h⟩
  rw [hl]
  simp [cX]
def xEN (Q : Nat → xC → Prop) (E : Nat → xC → Prop) (o : mj_O) (C : xC) : Prop := xPN Q o C ∨ xEX E o C
def xEI (Q : Int32 → xC → Prop) (E : Nat → xC → Prop) (o : mj_O) (C : xC) : Prop := xPI Q o C ∨ xEX E o C
def xEV (Q : xC → Prop) (E : Nat → xC → Prop) (o : mj_O) (C : xC) : Prop := xPV Q o C ∨ xEX E o C
section XH
variable {X Y : Type} {en : xEn X Y} {gt : mx_Gt} {d : Nat} {I : mx_I} {x : X} {P : mj_O → X → Prop}
theorem xG.zret {pc t : Nat} {lv : List (Nat × Value)} (hl : I.2.2.2.2.2.1.lookup pc = some (.ireturn, 1)) (hr : I.2.2.2.1 = some .boolean) (ht : t ≤ 1) (k : P (.inl (some (.int (nI t)))) x) : xG en gt d I (pc, lv, [.int (nI t)]) x P := by
  refine xG.fin (fun y => ?_) k
  have h : t = 0 ∨ t = 1 := by omega
  rcases h with h | h <;> subst h <;> simp only [mx_step, hl, hr] <;> rfl
theorem xG.idiv {pc : Nat} {a b : Int32} {lv : List (Nat × Value)} {st : List Value} (hl : I.2.2.2.2.2.1.lookup pc = some (.idiv, 1)) (hb : ¬ b = 0) (k : xG en gt d I (pc + 1, lv, .int (a / b) :: st) x P) : xG en gt d I (pc, lv, .int b :: .int a :: st) x P := by
  refine xG.seg 1 (fun y => ?_) k
  simp only [mx_seg, mx_step, hl, mx_p, hb, if_true, if_false, mx_ofF]
theorem xG.irem {pc : Nat} {a b : Int32} {lv : List (Nat × Value)} {st : List Value} (hl : I.2.2.2.2.2.1.lookup pc = some (.irem, 1)) (hb : ¬ b = 0) (k : xG en gt d I (pc + 1, lv, .int (a - a / b * b) :: st) x P) : xG en gt d I (pc, lv, .int b :: .int a :: st) x P := by
  refine xG.seg 1 (fun y => ?_) k
  simp only [mx_seg, mx_step, hl, mx_p, hb, if_true, if_false, mx_ofF]
theorem xG.tswn {pc t len : Nat} {df lo hi : Int} {offs : Array Int} {v : Int32} {lv : List (Nat × Value)} {st : List Value} (hl : I.2.2.2.2.2.1.lookup pc = some (.tableswitch df lo hi offs, len)) (hv : v < 0) (ht : (pc : Int) + df = (t : Int)) (hlo : 0 ≤ lo)
    (k : xG en gt d I (t, lv, st) x P) : xG en gt d I (pc, lv, .int v :: st) x P := by
  refine xG.seg 1 (fun y => ?_) k
  have h1 : v.toInt < lo := by
    rw [Int32.lt_iff_toInt_lt] at hv
    have : (0 : Int32).toInt = 0 := rfl
    omega
  simp only [mx_seg, mx_step, hl, mx_p, h1, true_or, if_true, ht, Int.natCast_nonneg, Int.toNat_natCast, mx_ofF]
end XH
theorem mx_pr_e {I : mx_I} {ix k : Nat} {g : List Value → Option (Option Value)} {pc : Nat} {lv : List (Nat × Value)} {st : List Value} {r : Option Value} (h1 : I.2.2.2.2.1.2.2.2.2.2.2.2.2.2.2 ix = some (k, g)) (h2 : k ≤ st.length) (h3 : ((st.drop k).map fun v => v.category).sum ≤ 8) (h4 : g (st.take k).reverse = some r) : mx_pr I ix (pc, lv, st) = some (pc + 3, lv, r.toList ++ st.drop k) := by
  simp only [mx_pr, h1, h2, h3, h4, if_true]
theorem xgc_0 {l : List (Nat × Nat)} {ix w : Nat} (h : l.lookup ix = some 0) (hw : w < 55) : xk_cf l ix (1048576 + w) = some (.long (xwY w)) := (xk_cf_e h).trans (xwY_e hw)
theorem xgc_1 {l : List (Nat × Nat)} {ix w : Nat} (h : l.lookup ix = some 1) (hw : w < 55) : xk_cf l ix (1048576 + w) = some (.int (nI (xwK w))) := (xk_cf_e h).trans (xwK_e hw)
theorem xgc_2 {l : List (Nat × Nat)} {ix w : Nat} (h : l.lookup ix = some 2) (hw : w < 55) : xk_cf l ix (1048576 + w) = some (.int (nI (xwT w))) := (xk_cf_e h).trans (xwT_e hw)
theorem xgc_3 {l : List (Nat × Nat)} {ix w : Nat} (h : l.lookup ix = some 3) (hw : w < 55) : xk_cf l ix (1048576 + w) = some (.ref (1048641 + xwG w)) := (xk_cf_e h).trans (xwG_e hw)
theorem xpg_0 {w : Nat} (hw : w < 55) : xp_g 0 [.ref (1048641 + xwG w)] = some (some (.int (nI (xwL w)))) := by simp only [xp_g, xwL_e hw, Option.map_some]
theorem xpg_1 {w i : Nat} (hw : w < 55) (hi : i < xwL w) : xp_g 1 [.ref (1048641 + xwG w), .int (nI i)] = some (some (.int (nI (xwC w i)))) := by simp only [xp_g, xwC_e hw hi, Option.map_some]
theorem xpg_2 {w : Nat} (hw : w < 55) : xp_g 2 [.ref (1048576 + w)] = some (some (.int (nI w))) := by
  have h1 : ¬ 1048576 + w < 1048576 := by omega
  have h2 : 1048576 + w < 1048576 + 55 := by omega
  simp [xp_g, xp_f, h2]
theorem xpg_7 {w : Nat} (hw : 55 ≤ w ∧ w < 61) : xp_g 7 [.ref (1048576 + w)] = some (some (.int (nI (w - 55)))) := by
  have h1 : ¬ 1048576 + w < 1048576 + 55 := by omega
  have h2 : 1048576 + w < 1048576 + 61 := by omega
  have h3 : 1048576 + w - (1048576 + 55) = w - 55 := by omega
  simp [xp_g, xp_f, h2, h3]
  omega
theorem xpg_3 {p n : Nat} (hp : p < 2147483648) (hn : n < 2147483648) : xp_g 3 [.int (nI 0), .int (nI p - nI n)] = some (some (.int (nI (p - n)))) := by
  have e : (if nI 0 < nI p - nI n then nI p - nI n else nI 0) = nI (p - n) := by
    have h0 : (nI 0).toInt = 0 := rfl
    by_cases h : n < p
    · rw [if_pos (by rw [Int32.lt_iff_toInt_lt, xt_Z hp hn, h0]; omega)]
      exact xe_cut (by omega)
    · rw [if_neg (by rw [Int32.lt_iff_toInt_lt, xt_Z hp hn, h0]; omega)]
      rw [show p - n = 0 by omega]
  simp only [xp_g, xp_f, e, Option.map_some]
theorem xpg_4 {p q : Nat} (hp : p < 2147483648) (hq : q < 2147483648) : xp_g 4 [.int (nI p), .int (nI q)] = some (some (.int (nI (min p q)))) := by
  have e : (if nI q < nI p then nI q else nI p) = nI (min p q) := by
    by_cases h : q < p
    · rw [if_pos (by rw [Int32.lt_iff_toInt_lt, xt_N hp, xt_N hq]; omega)]
      rw [Nat.min_eq_right (by omega)]
    · rw [if_neg (by rw [Int32.lt_iff_toInt_lt, xt_N hp, xt_N hq]; omega)]
      rw [Nat.min_eq_left (by omega)]
  simp only [xp_g, xp_f, e, Option.map_some]
theorem xe_lce (x y : Int64) [Decidable (x = y)] : mx_c .eq (lg_cmp x y) 0 = decide (x = y) := by
  simp only [mx_c, lg_cmp]
  by_cases h : x = y
  · subst h; simp
  · split
    · simp [h]
    · simp [h]
theorem xe_lcn (x y : Int64) [Decidable (¬ (x = y))] : mx_c .ne (lg_cmp x y) 0 = decide (¬ (x = y)) := by
  simp only [mx_c, lg_cmp]
  by_cases h : x = y
  · subst h; simp
  · split
    · simp [h]
    · simp [h]
theorem xe_rn (x y : Int32) [Decidable (¬ (x = y))] : mx_c .ne x y = decide (¬ (x = y)) := by simp [mx_c]
theorem xe_ng {c : ClassFile.Cond} {x : Int32} {t : Nat} (hx : x < 0) (ht : t < 2147483648) : mx_c c x (nI t) = decide (c = .lt ∨ c = .le ∨ c = .ne) := by
  have h : x.toInt < 0 := by rw [Int32.lt_iff_toInt_lt] at hx; exact hx
  have h2 := xt_N ht
  have e1 : x < nI t := by rw [Int32.lt_iff_toInt_lt, h2]; omega
  have e2 : x ≤ nI t := by rw [Int32.le_iff_toInt_le, h2]; omega
  have e3 : ¬ nI t < x := by rw [Int32.lt_iff_toInt_lt, h2]; omega
  have e4 : ¬ nI t ≤ x := by rw [Int32.le_iff_toInt_le, h2]; omega
  have e5 : ¬ x = nI t := by rw [← Int32.toInt_inj, h2]; omega
  cases c <;> simp only [mx_c, e1, e2, e3, e4, e5] <;> rfl
theorem xe_ng0 {c : ClassFile.Cond} {x : Int32} (hx : x < 0) : mx_c c x 0 = decide (c = .lt ∨ c = .le ∨ c = .ne) := xe_ng (t := 0) hx (by decide)
theorem xcst_W {e : Nat} (h : e < 61) : mx_cst 61 (.ref (1048576 + e)) = some (some (1048576 + e)) := by
  have hq : 1048576 ≤ 1048576 + e ∧ 1048576 + e < 1048576 + 61 := by omega
  simp only [mx_cst]; rw [if_pos hq]
theorem xcst_O {t : Option Nat} (h : ∀ a, t = some a → 1048576 ≤ a ∧ a < 1048637) : mx_cst 61 (va_rf t) = some t := by
  cases t with
  | none => rfl
  | some a => simp only [va_rf, mx_cst]; rw [if_pos (h a rfl)]
theorem xe_ae {p q : Option Nat} {A : Prop} [Decidable A] (h : p = q ↔ A) : cond (decide (ClassFile.ACond.eq = .eq)) (decide (p = q)) (!decide (p = q)) = decide A := by simp [h]
theorem xe_an {p q : Option Nat} {A : Prop} [Decidable A] (h : ¬ p = q ↔ A) : cond (decide (ClassFile.ACond.ne = .eq)) (decide (p = q)) (!decide (p = q)) = decide A := by simp [← h]
theorem xe_decN (p : Nat) : nI p + Int32.ofInt (-1) = nI p - nI 1 := by
  rw [Int32.sub_eq_add_neg]; rfl
theorem xe_dec (p n : Nat) : nI p - nI n + Int32.ofInt (-1) = nI p - nI (n + 1) := by
  rw [← xe_zsn p n 1, Int32.sub_eq_add_neg (nI p - nI n)]; rfl
theorem xe_dn {p n k : Nat} (h : n ≤ p) : nI p - nI (n + k) = nI (p - n) - nI k := by
  have : p = (p - n) + n := by omega
  rw [← xe_zsn, ← xe_cut h]
/-- a definition in the cells behind: name, size, words, numbers, loads, stores -/
abbrev xDf : Type := Int64 × Nat × (Nat → Option Nat) × (Nat → Int32) × (Nat → Nat) × (Nat → Nat)
def xDk (C : xC) (a : Nat) : Prop := a < 1048576 ∧ 38 ≤ a ∧ ∃ fs, C.2.2.2.2.2.2.1[a - 38]? = some (.inr (3, fs))
def xD (C : xC) (a : Nat) (D : xDf) : Prop := 38 ≤ a ∧ a + 4 < 1048576 ∧ D.2.1 ≤ 60 ∧ C.2.2.2.2.2.2.1[a - 38]? = some (.inr (3, [.long D.1, .int (nI D.2.1), .ref (a + 1), .ref (a + 2), .ref (a + 3), .ref (a + 4)])) ∧ C.2.2.2.2.2.2.1[a - 38 + 1]? = some (.inl (3, D.2.1, .inr (.inr (.inr (.inr D.2.2.1))))) ∧ C.2.2.2.2.2.2.1[a - 38 + 2]? = some (.inl (0, D.2.1, .inl D.2.2.2.1)) ∧ C.2.2.2.2.2.2.1[a - 38 + 3]? = some (.inl (0, D.2.1, .inl fun j => nI (D.2.2.2.2.1 j))) ∧ C.2.2.2.2.2.2.1[a - 38 + 4]? = some (.inl (0, D.2.1, .inl fun j => nI (D.2.2.2.2.2 j)))
theorem xst_at {C : xC} {a : Nat} (h : 38 ≤ a) (M : xM) : (xec C M).1[a]? = C.2.2.2.2.2.2.1[a - 38]? := by
  have : a = (a - 38) + 38 := by omega
  rw [this]
  exact xst_dyn C M _
theorem xDk.at {C : xC} {a : Nat} (h : xDk C a) (M : xM) : (xec C M).1[a]? = some (.inr (3, h.2.2.choose)) := by rw [xst_at h.2.1]; exact h.2.2.choose_spec
section XD
variable {C : xC} {a : Nat} {D : xDf}
theorem xD.lt (h : xD C a D) : a < 1048576 := by have := h.2.1; omega
theorem xD.lt1 (h : xD C a D) : a + 1 < 1048576 := by have := h.2.1; omega
theorem xD.lt2 (h : xD C a D) : a + 2 < 1048576 := by have := h.2.1; omega
theorem xD.lt3 (h : xD C a D) : a + 3 < 1048576 := by have := h.2.1; omega
theorem xD.lt4 (h : xD C a D) : a + 4 < 1048576 := by have := h.2.1; omega
theorem xD.le (h : xD C a D) : D.2.1 ≤ 2147483648 := by have := h.2.2.1; omega
theorem xD.at0 (h : xD C a D) (M : xM) : (xec C M).1[a]? = some (.inr (3, [.long D.1, .int (nI D.2.1), .ref (a + 1), .ref (a + 2), .ref (a + 3), .ref (a + 4)])) := by rw [xst_at h.1]; exact h.2.2.2.1
theorem xD.at1 (h : xD C a D) (M : xM) : (xec C M).1[a + 1]? = some (.inl (3, D.2.1, .inr (.inr (.inr (.inr D.2.2.1))))) := by
  have := h.1
  rw [xst_at (by omega), show a + 1 - 38 = a - 38 + 1 by omega]; exact h.2.2.2.2.1
theorem xD.at2 (h : xD C a D) (M : xM) : (xec C M).1[a + 2]? = some (.inl (0, D.2.1, .inl D.2.2.2.1)) := by
  have := h.1
  rw [xst_at (by omega), show a + 2 - 38 = a - 38 + 2 by omega]; exact h.2.2.2.2.2.1
theorem xD.at3 (h : xD C a D) (M : xM) : (xec C M).1[a + 3]? = some (.inl (0, D.2.1, .inl fun j => nI (D.2.2.2.2.1 j))) := by
  have := h.1
  rw [xst_at (by omega), show a + 3 - 38 = a - 38 + 3 by omega]; exact h.2.2.2.2.2.2.1
theorem xD.at4 (h : xD C a D) (M : xM) : (xec C M).1[a + 4]? = some (.inl (0, D.2.1, .inl fun j => nI (D.2.2.2.2.2 j))) := by
  have := h.1
  rw [xst_at (by omega), show a + 4 - 38 = a - 38 + 4 by omega]; exact h.2.2.2.2.2.2.2
end XD
theorem xexc_e {I : mx_I} {pc ix ic ci jc : Nat} {lv : List (Nat × Value)} {st : List Value} {σ σ' : mj_S} (h1 : I.2.2.2.2.2.1.lookup pc = some (.new ix, 3)) (h2 : I.2.2.2.2.2.1.lookup (pc + 3) = some (.dup, 1)) (h3 : I.2.2.2.2.2.1.lookup (pc + 4) = some (.invokespecial ic, 3)) (h4 : I.2.2.2.2.2.1.lookup (pc + 7) = some (.athrow, 1)) (h5 : mx_hs I = []) (h6 : I.2.2.2.2.1.2.2.2.2.2.2.2.2.1 ix = some (ci, jc)) (h7 : jc = ic) (hl : σ.length < 1048576) (h8 : (st.map fun v => v.category).sum ≤ 8) (h9 : σ ++ [.inr (ci, [])] = σ') : mx_exc I (pc, lv, st) σ = some σ' := by
  simp only [mx_exc, h1, h2, h3, h4, h5, h6, h7, hl, h8, if_true, h9]
theorem xe_nh {c : ClassFile.Cond} {x : Int32} {t : Nat} (hx : x < 0) (ht : t < 2147483648) : mx_c c (nI t) x = decide (c = .gt ∨ c = .ge ∨ c = .ne) := by
  have h : x.toInt < 0 := by rw [Int32.lt_iff_toInt_lt] at hx; exact hx
  have h2 := xt_N ht
  have e1 : x < nI t := by rw [Int32.lt_iff_toInt_lt, h2]; omega
  have e2 : x ≤ nI t := by rw [Int32.le_iff_toInt_le, h2]; omega
  have e3 : ¬ nI t < x := by rw [Int32.lt_iff_toInt_lt, h2]; omega
  have e4 : ¬ nI t ≤ x := by rw [Int32.le_iff_toInt_le, h2]; omega
  have e5 : ¬ nI t = x := by rw [← Int32.toInt_inj, h2]; omega
  cases c <;> simp only [mx_c, e1, e2, e3, e4, e5] <;> rfl
theorem xaW {x y : Nat} : some (1048576 + x) = some (1048576 + y) ↔ x = y := by simp
theorem xcatch {I : mx_I} {pc ci w : Nat} {C : xC} (hq : C.2.2.2.2.2.2.1.length + 37 < 1048576 ∧ C.2.2.2.2.2.2.1[C.2.2.2.2.2.2.1.length - 1]? = some (.inr (ci, [])) ∧ 1 ≤ C.2.2.2.2.2.2.1.length) (hh : mx_hand I.2.2.2.2.1.2.2.2.2.2.2.2.2.2.1 pc ci (mx_hs I) = some w) (M : xM) : mx_catch I pc (C.2.2.2.2.2.2.1.length + 37) (xec C M).1 = some w := by
  have e : (xec C M).1[C.2.2.2.2.2.2.1.length + 37]? = some (.inr (ci, [])) := by
    rw [xst_at (by omega), ← hq.2.1]
    congr 1
  simp only [mx_catch, e, hq.1, if_true, hh]
/-- both sides at once -/
def xel : xEn (xC × xM) Unit := fun s _ => (xst s.1 s.2, s.1.2.2.2.2.2.2.2)
theorem xG.liftC {gt : mx_Gt} {d : Nat} {I : mx_I} {f : mx_F} {C : xC} {P : mj_O → xC → Prop} (M : xM) (h : xG xec gt d I f C P) : xG xel gt d I f (C, M) (fun o s => P o s.1 ∧ s.2 = M) := by
  obtain ⟨o, C', h1, h2⟩ := h
  exact ⟨o, (C', M), fun _ => h1 M, h2, rfl⟩
theorem xG.liftM {gt : mx_Gt} {d : Nat} {I : mx_I} {f : mx_F} {M : xM} {P : mj_O → xM → Prop} (C : xC) (h : xG xem gt d I f M P) : xG xel gt d I f (C, M) (fun o s => P o s.2 ∧ s.1 = C) := by
  obtain ⟨o, M', h1, h2⟩ := h
  exact ⟨o, (C, M'), fun _ => h1 C, h2, rfl⟩
