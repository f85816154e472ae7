/-! The tables are true: classes, constants -/
theorem xK_all {L : Nat} {xs : Nat → Int32} {ws : List Cond} (h : ws.all (fun w => decide (w ∈ lw_tbl) && goodWord w) = true) : ∀ (G : mj_G) (s : State) (args : Array Value), xK L xs G s → ∀ w ∈ ws, w.before args s = true := fun G s args hK w hw => by
  have h1 := List.all_eq_true.mp h w hw
  simp only [Bool.and_eq_true, decide_eq_true_eq] at h1
  exact xK_w h1.1 h1.2 G s args hK
def xoC1 (L : Nat) (xs : Nat → Int32) (ci : Nat) (C : String) (T : u_T) (N : Nat) : Prop := (∀ (G : mj_G) (s : State) (args : Array Value), xK L xs G s → ∀ w ∈ u_ws C T N, w.before args s = true) ∧ (∀ k, k < N → parseFieldDescriptor (T k).2.2.1 = some ((xgt L xs).1 ci k)) ∧ (∀ a, a < N → ∀ b, b < N → a ≠ b → (T a).2.1 ≠ (T b).2.1) ∧ ∀ k, k < N → (T k).2.2.2 = (xgt L xs).2.1 ci k
theorem xoT_F : ∀ k, k < 4 → parseFieldDescriptor (xc_F k).2.2.1 = some ((xc_ty.getD 0 []).getD k .int) := by decide +kernel
theorem xoN_F : ∀ a, a < 4 → ∀ b, b < 4 → a ≠ b → (xc_F a).2.1 ≠ (xc_F b).2.1 := by decide +kernel
theorem xoF_F : ∀ k, k < 4 → (xc_F k).2.2.2 = (xc_fin.getD 0 []).getD k false := by decide +kernel
theorem xoC_F (L : Nat) (xs : Nat → Int32) : xoC1 L xs 0 "StackForth" xc_F 4 := ⟨xK_all (by decide +kernel), xoT_F, xoN_F, xoF_F⟩
theorem xoT_T : ∀ k, k < 5 → parseFieldDescriptor (xc_T k).2.2.1 = some ((xc_ty.getD 1 []).getD k .int) := by decide +kernel
theorem xoN_T : ∀ a, a < 5 → ∀ b, b < 5 → a ≠ b → (xc_T a).2.1 ≠ (xc_T b).2.1 := by decide +kernel
theorem xoF_T : ∀ k, k < 5 → (xc_T k).2.2.2 = (xc_fin.getD 1 []).getD k false := by decide +kernel
theorem xoC_T (L : Nat) (xs : Nat → Int32) : xoC1 L xs 1 "StackForth$Text" xc_T 5 := ⟨xK_all (by decide +kernel), xoT_T, xoN_T, xoF_T⟩
theorem xoT_D : ∀ k, k < 2 → parseFieldDescriptor (xc_D k).2.2.1 = some ((xc_ty.getD 2 []).getD k .int) := by decide +kernel
theorem xoN_D : ∀ a, a < 2 → ∀ b, b < 2 → a ≠ b → (xc_D a).2.1 ≠ (xc_D b).2.1 := by decide +kernel
theorem xoF_D : ∀ k, k < 2 → (xc_D k).2.2.2 = (xc_fin.getD 2 []).getD k false := by decide +kernel
theorem xoC_D (L : Nat) (xs : Nat → Int32) : xoC1 L xs 2 "StackForth$Dictionary" xc_D 2 := ⟨xK_all (by decide +kernel), xoT_D, xoN_D, xoF_D⟩
theorem xoT_N : ∀ k, k < 6 → parseFieldDescriptor (xc_N k).2.2.1 = some ((xc_ty.getD 3 []).getD k .int) := by decide +kernel
theorem xoN_N : ∀ a, a < 6 → ∀ b, b < 6 → a ≠ b → (xc_N a).2.1 ≠ (xc_N b).2.1 := by decide +kernel
theorem xoF_N : ∀ k, k < 6 → (xc_N k).2.2.2 = (xc_fin.getD 3 []).getD k false := by decide +kernel
theorem xoC_N (L : Nat) (xs : Nat → Int32) : xoC1 L xs 3 "StackForth$Definition" xc_N 6 := ⟨xK_all (by decide +kernel), xoT_N, xoN_N, xoF_N⟩
theorem xoT_C : ∀ k, k < 12 → parseFieldDescriptor (xc_C k).2.2.1 = some ((xc_ty.getD 4 []).getD k .int) := by decide +kernel
theorem xoN_C : ∀ a, a < 12 → ∀ b, b < 12 → a ≠ b → (xc_C a).2.1 ≠ (xc_C b).2.1 := by decide +kernel
theorem xoF_C : ∀ k, k < 12 → (xc_C k).2.2.2 = (xc_fin.getD 4 []).getD k false := by decide +kernel
theorem xoC_C (L : Nat) (xs : Nat → Int32) : xoC1 L xs 4 "StackForth$Compiler" xc_C 12 := ⟨xK_all (by decide +kernel), xoT_C, xoN_C, xoF_C⟩
theorem xoT_S : ∀ k, k < 2 → parseFieldDescriptor (xc_S k).2.2.1 = some ((xc_ty.getD 5 []).getD k .int) := by decide +kernel
theorem xoN_S : ∀ a, a < 2 → ∀ b, b < 2 → a ≠ b → (xc_S a).2.1 ≠ (xc_S b).2.1 := by decide +kernel
theorem xoF_S : ∀ k, k < 2 → (xc_S k).2.2.2 = (xc_fin.getD 5 []).getD k false := by decide +kernel
theorem xoC_S (L : Nat) (xs : Nat → Int32) : xoC1 L xs 5 "StackForth$Stack" xc_S 2 := ⟨xK_all (by decide +kernel), xoT_S, xoN_S, xoF_S⟩
theorem xoT_M : ∀ k, k < 14 → parseFieldDescriptor (xc_M k).2.2.1 = some ((xc_ty.getD 6 []).getD k .int) := by decide +kernel
theorem xoN_M : ∀ a, a < 14 → ∀ b, b < 14 → a ≠ b → (xc_M a).2.1 ≠ (xc_M b).2.1 := by decide +kernel
theorem xoF_M : ∀ k, k < 14 → (xc_M k).2.2.2 = (xc_fin.getD 6 []).getD k false := by decide +kernel
theorem xoC_M (L : Nat) (xs : Nat → Int32) : xoC1 L xs 6 "StackForth$Machine" xc_M 14 := ⟨xK_all (by decide +kernel), xoT_M, xoN_M, xoF_M⟩
theorem xoT_R : ∀ k, k < 32 → parseFieldDescriptor (xc_R k).2.2.1 = some ((xc_ty.getD 7 []).getD k .int) := by decide +kernel
theorem xoN_R : ∀ a, a < 32 → ∀ b, b < 32 → a ≠ b → (xc_R a).2.1 ≠ (xc_R b).2.1 := by decide +kernel
theorem xoF_R : ∀ k, k < 32 → (xc_R k).2.2.2 = (xc_fin.getD 7 []).getD k false := by decide +kernel
theorem xoC_R (L : Nat) (xs : Nat → Int32) : xoC1 L xs 7 "StackForthModel" xc_R 32 := ⟨xK_all (by decide +kernel), xoT_R, xoN_R, xoF_R⟩
theorem xoC_X (L : Nat) (xs : Nat → Int32) (ci : Nat) (C : String) : xoC1 L xs ci C xc_X 0 := ⟨fun G s args _ w hw => (by cases hw), fun k hk => absurd hk (Nat.not_lt_zero _), fun a ha => absurd ha (Nat.not_lt_zero _), fun k hk => absurd hk (Nat.not_lt_zero _)⟩
theorem xoC (L : Nat) (xs : Nat → Int32) : mx_okC (xK L xs) xcl (xgt L xs) := by
  intro ci C T N h
  match ci, h with
  | 0, h => cases h; exact xoC_F L xs
  | 1, h => cases h; exact xoC_T L xs
  | 2, h => cases h; exact xoC_D L xs
  | 3, h => cases h; exact xoC_N L xs
  | 4, h => cases h; exact xoC_C L xs
  | 5, h => cases h; exact xoC_S L xs
  | 6, h => cases h; exact xoC_M L xs
  | 7, h => cases h; exact xoC_R L xs
  | 8, h => cases h; exact xoC_X L xs _ _
  | 9, h => cases h; exact xoC_X L xs _ _
  | 10, h => cases h; exact xoC_X L xs _ _
  | 11, h => cases h; exact xoC_X L xs _ _
  | 12, h => cases h; exact xoC_X L xs _ _
  | 13, h => cases h; exact xoC_X L xs _ _
  | n + 14, h => cases h
theorem xad (G : mj_G) (j : Nat) : mj_ad G (xB + j) = G.2.2.2 j := by
  have h : ¬ xB + j < 1048576 := by show ¬ 1048576 + j < 1048576; omega
  simp only [mj_ad, if_neg h]
  show G.2.2.2 (1048576 + j - 1048576) = _
  rw [Nat.add_sub_cancel_left]
theorem xoA (L : Nat) (xs : Nat → Int32) : mx_okA (xK L xs) (xgt L xs) := by
  intro i isI n f h G s hK
  obtain ⟨-, -, -, hc, -⟩ := hK
  obtain ⟨-, -, -, -, -, -, h7, h8, h9, h10, -⟩ := hc
  have h : xk_arr L xs i = some (isI, n, f) := h
  unfold xk_arr at h
  split at h
  · cases h
    exact ⟨_, h7, fun q => (by cases q), fun _ => rfl⟩
  · cases h
    exact ⟨_, h8, fun _ => rfl, fun q => (by cases q)⟩
  · cases h
    exact ⟨_, h9, fun _ => rfl, fun q => (by cases q)⟩
  · cases h
    exact ⟨_, h10, fun _ => rfl, fun q => (by cases q)⟩
  · cases h
theorem xoAny {E : String} {t : Nat} {A : Nat → Prop} {s : State} {H : Heap} (h : va_O E t A s H) : va_Any E s H t ∧ ¬ A t := by
  obtain ⟨cell, h1, h2, h3, h4⟩ := h
  obtain ⟨kC, hkC, -⟩ := Vm.findClass_spec h3
  exact ⟨⟨cell, h1, h2, ⟨kC, hkC⟩, fun comp hcomp => by
    have e1 : comp = cell.cls := Option.some.inj (hcomp.symm.trans h3)
    rw [e1]
    exact va_asg _ _⟩, h4⟩
theorem xoW (L : Nat) (xs : Nat → Int32) : mx_okW (xK L xs) xEW (xgt L xs) := by
  intro v h1 h2 G s hK
  have h2 : v < 1048576 + 55 := h2
  have hv : v = xB + (v - 1048576) := by show v = 1048576 + (v - 1048576); omega
  have h3 := (hK.2.2.2.1.1 (v - 1048576) (by omega)).2.1
  rw [hv]
  exact xoAny h3
theorem xoD (L : Nat) (xs : Nat → Int32) : mx_okD xcl xED (xgt L xs) := ⟨xc_N, 6, rfl⟩
theorem xm {w : Cond} (i : Nat) (h : lw_tbl[i]? = some w) : w ∈ lw_tbl := List.mem_of_getElem? h
theorem xoG (L : Nat) (xs : Nat → Int32) : mx_okG (xK L xs) xcl xEW xED (xgt L xs) 61 := ⟨xK_c L xs, xoC L xs, xoA L xs, xoW L xs, xoD L xs, fun G s hK => hK.2.2.1, fun G s hK => hK.2.2.2.2.1, xK_w (xm 187 (by decide +kernel)) rfl, xK_w (xm 983 (by decide +kernel)) rfl, xK_w (xm 123 (by decide +kernel)) rfl⟩
