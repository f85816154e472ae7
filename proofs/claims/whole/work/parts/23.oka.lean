/-! All methods stand -/
section XA
variable {L : Nat} {xs : Nat → Int32} {l : Launch}
theorem xtP_F : ∀ q ∈ xq_F, xP1 L xs l "StackForth" q := by
  intro q hq
  simp only [xq_F, List.mem_cons, List.not_mem_nil, or_false] at hq
  rcases hq with rfl | rfl | rfl
  · exact xP_o (ix := 1) (xm1 32 (by decide +kernel)) (xm1 33 (by decide +kernel)) (xm1 34 (by decide +kernel))
  · exact xP_ordF (ix := 160) (xm3 231 (by decide +kernel)) (xm3 232 (by decide +kernel)) (xm2 187 (by decide +kernel)) (xm3 233 (by decide +kernel)) (xm2 189 (by decide +kernel)) (xm2 190 (by decide +kernel)) (xm5 228 (by decide +kernel))
  · exact xP_ordW (ix := 241) (xm3 102 (by decide +kernel)) (xm2 186 (by decide +kernel)) (xm2 187 (by decide +kernel)) (xm2 188 (by decide +kernel)) (xm2 189 (by decide +kernel)) (xm2 190 (by decide +kernel)) (xm5 228 (by decide +kernel))
theorem xtP_T : ∀ q ∈ xq_T, xP1 L xs l "StackForth$Text" q := by
  intro q hq
  simp only [xq_T, List.mem_cons, List.not_mem_nil, or_false] at hq
  rcases hq with rfl
  · exact xP_o (ix := 3) (xm1 40 (by decide +kernel)) (xm1 33 (by decide +kernel)) (xm1 34 (by decide +kernel))
theorem xtP_D : ∀ q ∈ xq_D, xP1 L xs l "StackForth$Dictionary" q := by
  intro q hq
  simp only [xq_D, List.mem_cons, List.not_mem_nil, or_false] at hq
  rcases hq with rfl
  · exact xP_o (ix := 3) (xm1 65 (by decide +kernel)) (xm1 33 (by decide +kernel)) (xm1 34 (by decide +kernel))
theorem xtP_N : ∀ q ∈ xq_N, xP1 L xs l "StackForth$Definition" q := by
  intro q hq
  simp only [xq_N, List.mem_cons, List.not_mem_nil, or_false] at hq
  rcases hq with rfl
  · exact xP_o (ix := 1) (xm3 126 (by decide +kernel)) (xm1 33 (by decide +kernel)) (xm1 34 (by decide +kernel))
theorem xtP_C : ∀ q ∈ xq_C, xP1 L xs l "StackForth$Compiler" q := by
  intro q hq
  simp only [xq_C, List.mem_cons, List.not_mem_nil, or_false] at hq
  rcases hq with rfl | rfl | rfl | rfl
  · exact xP_o (ix := 3) (xm1 82 (by decide +kernel)) (xm1 33 (by decide +kernel)) (xm1 34 (by decide +kernel))
  · exact xP_max (ix := 80) (xm2 129 (by decide +kernel)) (xm2 130 (by decide +kernel)) (xm1 16 (by decide +kernel)) (xm2 131 (by decide +kernel))
  · exact xP_len (ix := 90) (xm2 132 (by decide +kernel))
  · exact xP_ordW (ix := 101) (xm3 172 (by decide +kernel)) (xm2 186 (by decide +kernel)) (xm2 187 (by decide +kernel)) (xm2 188 (by decide +kernel)) (xm2 189 (by decide +kernel)) (xm2 190 (by decide +kernel)) (xm5 228 (by decide +kernel))
theorem xtP_S : ∀ q ∈ xq_S, xP1 L xs l "StackForth$Stack" q := by
  intro q hq
  simp only [xq_S, List.mem_cons, List.not_mem_nil, or_false] at hq
  rcases hq with rfl
  · exact xP_o (ix := 3) (xm1 135 (by decide +kernel)) (xm1 33 (by decide +kernel)) (xm1 34 (by decide +kernel))
theorem xtP_M : ∀ q ∈ xq_M, xP1 L xs l "StackForth$Machine" q := by
  intro q hq
  simp only [xq_M, List.mem_cons, List.not_mem_nil, or_false] at hq
  rcases hq with rfl | rfl | rfl | rfl | rfl | rfl | rfl
  · exact xP_o (ix := 3) (xm1 129 (by decide +kernel)) (xm1 33 (by decide +kernel)) (xm1 34 (by decide +kernel))
  · exact xP_min (ix := 103) (xm2 191 (by decide +kernel)) (xm2 192 (by decide +kernel)) (xm1 16 (by decide +kernel)) (xm2 193 (by decide +kernel))
  · exact xP_len (ix := 114) (xm2 159 (by decide +kernel))
  · exact xP_ordW (ix := 179) (xm2 185 (by decide +kernel)) (xm2 186 (by decide +kernel)) (xm2 187 (by decide +kernel)) (xm2 188 (by decide +kernel)) (xm2 189 (by decide +kernel)) (xm2 190 (by decide +kernel)) (xm5 228 (by decide +kernel))
  · exact xP_max (ix := 182) (xm2 194 (by decide +kernel)) (xm2 130 (by decide +kernel)) (xm1 16 (by decide +kernel)) (xm2 131 (by decide +kernel))
  · exact xP_abs (ix := 189) (xm2 206 (by decide +kernel)) (xm2 207 (by decide +kernel)) (xm1 16 (by decide +kernel)) (xm2 208 (by decide +kernel))
  · exact xP_chr (ix := 193) (xm2 213 (by decide +kernel))
theorem xtP_W : ∀ q ∈ xq_W, xP1 L xs l "StackForth$Word" q := by
  intro q hq
  cases hq
theorem xtP_R : ∀ q ∈ xq_R, xP1 L xs l "StackForthModel" q := by
  intro q hq
  simp only [xq_R, List.mem_cons, List.not_mem_nil, or_false] at hq
  rcases hq with rfl
  · exact xP_o (ix := 1) (xm4 101 (by decide +kernel)) (xm1 33 (by decide +kernel)) (xm1 34 (by decide +kernel))
theorem xtP_L : ∀ q ∈ xq_L, xP1 L xs l "StackForthLaw" q := by
  intro q hq
  cases hq
def xOK (l : Launch) (L : Nat) (xs : Nat → Int32) (J : mx_I) : Prop := mx_okI (xK L xs) xcl xEW xED (xgt L xs) xMi J ∧ mx_okM (xK L xs) xcl J ∧ mx_okX l (xK L xs) xcl J ∧ mx_okH l (xK L xs) xcl J ∧ mx_okP l (xK L xs) xcl J
theorem xo_F_init (hl : l.stackTraces = false) : xOK l L xs xi_F_init := ⟨xoI_F_init, xoM_F_init, (xoX_l hl (le := xe_F) rfl xX_F), (xoH_0 rfl), (xoP_l (lq := xq_F) rfl xtP_F)⟩
theorem xo_T_init (hl : l.stackTraces = false) : xOK l L xs xi_T_init := ⟨xoI_T_init, xoM_T_init, (xoX_0 rfl), (xoH_0 rfl), (xoP_l (lq := xq_T) rfl xtP_T)⟩
theorem xo_D_init (hl : l.stackTraces = false) : xOK l L xs xi_D_init := ⟨xoI_D_init, xoM_D_init, (xoX_0 rfl), (xoH_0 rfl), (xoP_l (lq := xq_D) rfl xtP_D)⟩
theorem xo_C_init (hl : l.stackTraces = false) : xOK l L xs xi_C_init := ⟨xoI_C_init, xoM_C_init, (xoX_0 rfl), (xoH_0 rfl), (xoP_l (lq := xq_C) rfl xtP_C)⟩
theorem xo_M_init (hl : l.stackTraces = false) : xOK l L xs xi_M_init := ⟨xoI_M_init, xoM_M_init, (xoX_0 rfl), (xoH_0 rfl), (xoP_l (lq := xq_M) rfl xtP_M)⟩
theorem xo_S_init (hl : l.stackTraces = false) : xOK l L xs xi_S_init := ⟨xoI_S_init, xoM_S_init, (xoX_0 rfl), (xoH_0 rfl), (xoP_l (lq := xq_S) rfl xtP_S)⟩
theorem xo_F_compiling (hl : l.stackTraces = false) : xOK l L xs xi_F_compiling := ⟨xoI_F_compiling, xoM_F_compiling, (xoX_l hl (le := xe_F) rfl xX_F), (xoH_0 rfl), (xoP_l (lq := xq_F) rfl xtP_F)⟩
theorem xo_F_depth (hl : l.stackTraces = false) : xOK l L xs xi_F_depth := ⟨xoI_F_depth, xoM_F_depth, (xoX_l hl (le := xe_F) rfl xX_F), (xoH_0 rfl), (xoP_l (lq := xq_F) rfl xtP_F)⟩
theorem xo_F_said (hl : l.stackTraces = false) : xOK l L xs xi_F_said := ⟨xoI_F_said, xoM_F_said, (xoX_l hl (le := xe_F) rfl xX_F), (xoH_0 rfl), (xoP_l (lq := xq_F) rfl xtP_F)⟩
theorem xo_F_write (hl : l.stackTraces = false) : xOK l L xs xi_F_write := ⟨xoI_F_write, xoM_F_write, (xoX_l hl (le := xe_F) rfl xX_F), (xoH_0 rfl), (xoP_l (lq := xq_F) rfl xtP_F)⟩
theorem xo_T_areCharacters (hl : l.stackTraces = false) : xOK l L xs xi_T_areCharacters := ⟨xoI_T_areCharacters, xoM_T_areCharacters, (xoX_0 rfl), (xoH_0 rfl), (xoP_l (lq := xq_T) rfl xtP_T)⟩
theorem xo_T_byteOf (hl : l.stackTraces = false) : xOK l L xs xi_T_byteOf := ⟨xoI_T_byteOf, xoM_T_byteOf, (xoX_0 rfl), (xoH_0 rfl), (xoP_l (lq := xq_T) rfl xtP_T)⟩
theorem xo_T_append (hl : l.stackTraces = false) : xOK l L xs xi_T_append := ⟨xoI_T_append, xoM_T_append, (xoX_0 rfl), (xoH_0 rfl), (xoP_l (lq := xq_T) rfl xtP_T)⟩
theorem xo_F_interpret (hl : l.stackTraces = false) : xOK l L xs xi_F_interpret := ⟨xoI_F_interpret, xoM_F_interpret, (xoX_l hl (le := xe_F) rfl xX_F), (xoH_0 rfl), (xoP_l (lq := xq_F) rfl xtP_F)⟩
theorem xo_M_beginText (hl : l.stackTraces = false) : xOK l L xs xi_M_beginText := ⟨xoI_M_beginText, xoM_M_beginText, (xoX_0 rfl), (xoH_0 rfl), (xoP_l (lq := xq_M) rfl xtP_M)⟩
theorem xo_T_nextWord (hl : l.stackTraces = false) : xOK l L xs xi_T_nextWord := ⟨xoI_T_nextWord, xoM_T_nextWord, (xoX_0 rfl), (xoH_0 rfl), (xoP_l (lq := xq_T) rfl xtP_T)⟩
theorem xo_F_interpretWord (hl : l.stackTraces = false) : xOK l L xs xi_F_interpretWord := ⟨xoI_F_interpretWord, xoM_F_interpretWord, (xoX_l hl (le := xe_F) rfl xX_F), (xoH_0 rfl), (xoP_l (lq := xq_F) rfl xtP_F)⟩
theorem xo_T_key (hl : l.stackTraces = false) : xOK l L xs xi_T_key := ⟨xoI_T_key, xoM_T_key, (xoX_0 rfl), (xoH_0 rfl), (xoP_l (lq := xq_T) rfl xtP_T)⟩
theorem xo_D_find (hl : l.stackTraces = false) : xOK l L xs xi_D_find := ⟨xoI_D_find, xoM_D_find, (xoX_0 rfl), (xoH_0 rfl), (xoP_l (lq := xq_D) rfl xtP_D)⟩
theorem xo_F_compileOrDo (hl : l.stackTraces = false) : xOK l L xs xi_F_compileOrDo := ⟨xoI_F_compileOrDo, xoM_F_compileOrDo, (xoX_l hl (le := xe_F) rfl xX_F), (xoH_0 rfl), (xoP_l (lq := xq_F) rfl xtP_F)⟩
theorem xo_C_add (hl : l.stackTraces = false) : xOK l L xs xi_C_add := ⟨xoI_C_add, xoM_C_add, (xoX_0 rfl), (xoH_0 rfl), (xoP_l (lq := xq_C) rfl xtP_C)⟩
theorem xo_C_storeHeld (hl : l.stackTraces = false) : xOK l L xs xi_C_storeHeld := ⟨xoI_C_storeHeld, xoM_C_storeHeld, (xoX_0 rfl), (xoH_0 rfl), (xoP_l (lq := xq_C) rfl xtP_C)⟩
theorem xo_F_fitting (hl : l.stackTraces = false) : xOK l L xs xi_F_fitting := ⟨xoI_F_fitting, xoM_F_fitting, (xoX_l hl (le := xe_F) rfl xX_F), (xoH_0 rfl), (xoP_l (lq := xq_F) rfl xtP_F)⟩
theorem xo_M_doWord (hl : l.stackTraces = false) : xOK l L xs xi_M_doWord := ⟨xoI_M_doWord, xoM_M_doWord, (xoX_0 rfl), (xoH_0 rfl), (xoP_l (lq := xq_M) rfl xtP_M)⟩
theorem xo_M_takeStep (hl : l.stackTraces = false) : xOK l L xs xi_M_takeStep := ⟨xoI_M_takeStep, xoM_M_takeStep, (xoX_0 rfl), (xoH_0 rfl), (xoP_l (lq := xq_M) rfl xtP_M)⟩
theorem xo_M_perform (hl : l.stackTraces = false) : xOK l L xs xi_M_perform := ⟨xoI_M_perform, xoM_M_perform, (xoX_0 rfl), (xoH_0 rfl), (xoP_l (lq := xq_M) rfl xtP_M)⟩
theorem xo_S_hasRoom (hl : l.stackTraces = false) : xOK l L xs xi_S_hasRoom := ⟨xoI_S_hasRoom, xoM_S_hasRoom, (xoX_0 rfl), (xoH_0 rfl), (xoP_l (lq := xq_S) rfl xtP_S)⟩
theorem xo_M_performOfTwo (hl : l.stackTraces = false) : xOK l L xs xi_M_performOfTwo := ⟨xoI_M_performOfTwo, xoM_M_performOfTwo, (xoX_0 rfl), (xoH_0 rfl), (xoP_l (lq := xq_M) rfl xtP_M)⟩
theorem xo_S_pop (hl : l.stackTraces = false) : xOK l L xs xi_S_pop := ⟨xoI_S_pop, xoM_S_pop, (xoX_0 rfl), (xoH_0 rfl), (xoP_l (lq := xq_S) rfl xtP_S)⟩
theorem xo_M_ofTwo (hl : l.stackTraces = false) : xOK l L xs xi_M_ofTwo := ⟨xoI_M_ofTwo, xoM_M_ofTwo, (xoX_0 rfl), (xoH_0 rfl), (xoP_l (lq := xq_M) rfl xtP_M)⟩
theorem xo_M_flag (hl : l.stackTraces = false) : xOK l L xs xi_M_flag := ⟨xoI_M_flag, xoM_M_flag, (xoX_0 rfl), (xoH_0 rfl), (xoP_l (lq := xq_M) rfl xtP_M)⟩
theorem xo_S_push (hl : l.stackTraces = false) : xOK l L xs xi_S_push := ⟨xoI_S_push, xoM_S_push, (xoX_0 rfl), (xoH_0 rfl), (xoP_l (lq := xq_S) rfl xtP_S)⟩
theorem xo_M_ofOne (hl : l.stackTraces = false) : xOK l L xs xi_M_ofOne := ⟨xoI_M_ofOne, xoM_M_ofOne, (xoX_0 rfl), (xoH_0 rfl), (xoP_l (lq := xq_M) rfl xtP_M)⟩
theorem xo_M_move (hl : l.stackTraces = false) : xOK l L xs xi_M_move := ⟨xoI_M_move, xoM_M_move, (xoX_0 rfl), (xoH_0 rfl), (xoP_l (lq := xq_M) rfl xtP_M)⟩
theorem xo_M_useCell (hl : l.stackTraces = false) : xOK l L xs xi_M_useCell := ⟨xoI_M_useCell, xoM_M_useCell, (xoX_0 rfl), (xoH_0 rfl), (xoP_l (lq := xq_M) rfl xtP_M)⟩
theorem xo_M_isCell (hl : l.stackTraces = false) : xOK l L xs xi_M_isCell := ⟨xoI_M_isCell, xoM_M_isCell, (xoX_0 rfl), (xoH_0 rfl), (xoP_l (lq := xq_M) rfl xtP_M)⟩
theorem xo_M_useReturns (hl : l.stackTraces = false) : xOK l L xs xi_M_useReturns := ⟨xoI_M_useReturns, xoM_M_useReturns, (xoX_0 rfl), (xoH_0 rfl), (xoP_l (lq := xq_M) rfl xtP_M)⟩
theorem xo_S_fromTop (hl : l.stackTraces = false) : xOK l L xs xi_S_fromTop := ⟨xoI_S_fromTop, xoM_S_fromTop, (xoX_0 rfl), (xoH_0 rfl), (xoP_l (lq := xq_S) rfl xtP_S)⟩
theorem xo_M_put (hl : l.stackTraces = false) : xOK l L xs xi_M_put := ⟨xoI_M_put, xoM_M_put, (xoX_0 rfl), (xoH_0 rfl), (xoP_l (lq := xq_M) rfl xtP_M)⟩
theorem xo_M_control (hl : l.stackTraces = false) : xOK l L xs xi_M_control := ⟨xoI_M_control, xoM_M_control, (xoX_0 rfl), (xoH_0 rfl), (xoP_l (lq := xq_M) rfl xtP_M)⟩
theorem xo_M_goOnAt (hl : l.stackTraces = false) : xOK l L xs xi_M_goOnAt := ⟨xoI_M_goOnAt, xoM_M_goOnAt, (xoX_0 rfl), (xoH_0 rfl), (xoP_l (lq := xq_M) rfl xtP_M)⟩
theorem xo_M_beginLoop (hl : l.stackTraces = false) : xOK l L xs xi_M_beginLoop := ⟨xoI_M_beginLoop, xoM_M_beginLoop, (xoX_0 rfl), (xoH_0 rfl), (xoP_l (lq := xq_M) rfl xtP_M)⟩
theorem xo_M_endLoop (hl : l.stackTraces = false) : xOK l L xs xi_M_endLoop := ⟨xoI_M_endLoop, xoM_M_endLoop, (xoX_0 rfl), (xoH_0 rfl), (xoP_l (lq := xq_M) rfl xtP_M)⟩
theorem xo_D_at (hl : l.stackTraces = false) : xOK l L xs xi_D_at := ⟨xoI_D_at, xoM_D_at, (xoX_0 rfl), (xoH_0 rfl), (xoP_l (lq := xq_D) rfl xtP_D)⟩
theorem xo_M_enter (hl : l.stackTraces = false) : xOK l L xs xi_M_enter := ⟨xoI_M_enter, xoM_M_enter, (xoX_0 rfl), (xoH_0 rfl), (xoP_l (lq := xq_M) rfl xtP_M)⟩
theorem xo_M_countLoads (hl : l.stackTraces = false) : xOK l L xs xi_M_countLoads := ⟨xoI_M_countLoads, xoM_M_countLoads, (xoX_0 rfl), (xoH_0 rfl), (xoP_l (lq := xq_M) rfl xtP_M)⟩
theorem xo_M_leaveWhatEnded (hl : l.stackTraces = false) : xOK l L xs xi_M_leaveWhatEnded := ⟨xoI_M_leaveWhatEnded, xoM_M_leaveWhatEnded, (xoX_0 rfl), (xoH_0 rfl), (xoP_l (lq := xq_M) rfl xtP_M)⟩
theorem xo_W_withKey (hl : l.stackTraces = false) : xOK l L xs xi_W_withKey := ⟨xoI_W_withKey, xoM_W_withKey, (xoX_0 rfl), (xoH_0 rfl), (xoP_l (lq := xq_W) rfl xtP_W)⟩
theorem xo_T_isNumber (hl : l.stackTraces = false) : xOK l L xs xi_T_isNumber := ⟨xoI_T_isNumber, xoM_T_isNumber, (xoX_0 rfl), (xoH_0 rfl), (xoP_l (lq := xq_T) rfl xtP_T)⟩
theorem xo_T_firstDigit (hl : l.stackTraces = false) : xOK l L xs xi_T_firstDigit := ⟨xoI_T_firstDigit, xoM_T_firstDigit, (xoX_0 rfl), (xoH_0 rfl), (xoP_l (lq := xq_T) rfl xtP_T)⟩
theorem xo_T_number (hl : l.stackTraces = false) : xOK l L xs xi_T_number := ⟨xoI_T_number, xoM_T_number, (xoX_0 rfl), (xoH_0 rfl), (xoP_l (lq := xq_T) rfl xtP_T)⟩
theorem xo_F_define (hl : l.stackTraces = false) : xOK l L xs xi_F_define := ⟨xoI_F_define, xoM_F_define, (xoX_l hl (le := xe_F) rfl xX_F), (xoH_0 rfl), (xoP_l (lq := xq_F) rfl xtP_F)⟩
theorem xo_T_isName (hl : l.stackTraces = false) : xOK l L xs xi_T_isName := ⟨xoI_T_isName, xoM_T_isName, (xoX_0 rfl), (xoH_0 rfl), (xoP_l (lq := xq_T) rfl xtP_T)⟩
theorem xo_D_isFull (hl : l.stackTraces = false) : xOK l L xs xi_D_isFull := ⟨xoI_D_isFull, xoM_D_isFull, (xoX_0 rfl), (xoH_0 rfl), (xoP_l (lq := xq_D) rfl xtP_D)⟩
theorem xo_F_defineVariable (hl : l.stackTraces = false) : xOK l L xs xi_F_defineVariable := ⟨xoI_F_defineVariable, xoM_F_defineVariable, (xoX_l hl (le := xe_F) rfl xX_F), (xoH_0 rfl), (xoP_l (lq := xq_F) rfl xtP_F)⟩
theorem xo_C_defineNumber (hl : l.stackTraces = false) : xOK l L xs xi_C_defineNumber := ⟨xoI_C_defineNumber, xoM_C_defineNumber, (xoX_0 rfl), (xoH_0 rfl), (xoP_l (lq := xq_C) rfl xtP_C)⟩
theorem xo_C_begin (hl : l.stackTraces = false) : xOK l L xs xi_C_begin := ⟨xoI_C_begin, xoM_C_begin, (xoX_0 rfl), (xoH_0 rfl), (xoP_l (lq := xq_C) rfl xtP_C)⟩
theorem xo_C_finish (hl : l.stackTraces = false) : xOK l L xs xi_C_finish := ⟨xoI_C_finish, xoM_C_finish, (xoX_0 rfl), (xoH_0 rfl), (xoP_l (lq := xq_C) rfl xtP_C)⟩
theorem xo_N_init (hl : l.stackTraces = false) : xOK l L xs xi_N_init := ⟨xoI_N_init, xoM_N_init, (xoX_0 rfl), (xoH_0 rfl), (xoP_l (lq := xq_N) rfl xtP_N)⟩
theorem xo_D_add (hl : l.stackTraces = false) : xOK l L xs xi_D_add := ⟨xoI_D_add, xoM_D_add, (xoX_0 rfl), (xoH_0 rfl), (xoP_l (lq := xq_D) rfl xtP_D)⟩
theorem xo_F_defineConstant (hl : l.stackTraces = false) : xOK l L xs xi_F_defineConstant := ⟨xoI_F_defineConstant, xoM_F_defineConstant, (xoX_l hl (le := xe_F) rfl xX_F), (xoH_0 rfl), (xoP_l (lq := xq_F) rfl xtP_F)⟩
theorem xo_C_act (hl : l.stackTraces = false) : xOK l L xs xi_C_act := ⟨xoI_C_act, xoM_C_act, (xoX_0 rfl), (xoH_0 rfl), (xoP_l (lq := xq_C) rfl xtP_C)⟩
theorem xo_C_open (hl : l.stackTraces = false) : xOK l L xs xi_C_open := ⟨xoI_C_open, xoM_C_open, (xoX_0 rfl), (xoH_0 rfl), (xoP_l (lq := xq_C) rfl xtP_C)⟩
theorem xo_C_lastOpen (hl : l.stackTraces = false) : xOK l L xs xi_C_lastOpen := ⟨xoI_C_lastOpen, xoM_C_lastOpen, (xoX_0 rfl), (xoH_0 rfl), (xoP_l (lq := xq_C) rfl xtP_C)⟩
theorem xo_C_turnIfToElse (hl : l.stackTraces = false) : xOK l L xs xi_C_turnIfToElse := ⟨xoI_C_turnIfToElse, xoM_C_turnIfToElse, (xoX_0 rfl), (xoH_0 rfl), (xoP_l (lq := xq_C) rfl xtP_C)⟩
theorem xo_C_closeLast (hl : l.stackTraces = false) : xOK l L xs xi_C_closeLast := ⟨xoI_C_closeLast, xoM_C_closeLast, (xoX_0 rfl), (xoH_0 rfl), (xoP_l (lq := xq_C) rfl xtP_C)⟩
theorem xo_C_endCondition (hl : l.stackTraces = false) : xOK l L xs xi_C_endCondition := ⟨xoI_C_endCondition, xoM_C_endCondition, (xoX_0 rfl), (xoH_0 rfl), (xoP_l (lq := xq_C) rfl xtP_C)⟩
theorem xo_C_goBack (hl : l.stackTraces = false) : xOK l L xs xi_C_goBack := ⟨xoI_C_goBack, xoM_C_goBack, (xoX_0 rfl), (xoH_0 rfl), (xoP_l (lq := xq_C) rfl xtP_C)⟩
theorem xo_C_endWhile (hl : l.stackTraces = false) : xOK l L xs xi_C_endWhile := ⟨xoI_C_endWhile, xoM_C_endWhile, (xoX_0 rfl), (xoH_0 rfl), (xoP_l (lq := xq_C) rfl xtP_C)⟩
theorem xo_T_clear (hl : l.stackTraces = false) : xOK l L xs xi_T_clear := ⟨xoI_T_clear, xoM_T_clear, (xoX_0 rfl), (xoH_0 rfl), (xoP_l (lq := xq_T) rfl xtP_T)⟩
theorem xo_M_emptyStacks (hl : l.stackTraces = false) : xOK l L xs xi_M_emptyStacks := ⟨xoI_M_emptyStacks, xoM_M_emptyStacks, (xoX_0 rfl), (xoH_0 rfl), (xoP_l (lq := xq_M) rfl xtP_M)⟩
theorem xo_C_drop (hl : l.stackTraces = false) : xOK l L xs xi_C_drop := ⟨xoI_C_drop, xoM_C_drop, (xoX_0 rfl), (xoH_0 rfl), (xoP_l (lq := xq_C) rfl xtP_C)⟩
theorem xo_F_raise (hl : l.stackTraces = false) : xOK l L xs xi_F_raise := ⟨xoI_F_raise, xoM_F_raise, (xoX_l hl (le := xe_F) rfl xX_F), (xoH_0 rfl), (xoP_l (lq := xq_F) rfl xtP_F)⟩
theorem xo_F_top (hl : l.stackTraces = false) : xOK l L xs xi_F_top := ⟨xoI_F_top, xoM_F_top, (xoX_l hl (le := xe_F) rfl xX_F), (xoH_0 rfl), (xoP_l (lq := xq_F) rfl xtP_F)⟩
theorem xo_F_cell (hl : l.stackTraces = false) : xOK l L xs xi_F_cell := ⟨xoI_F_cell, xoM_F_cell, (xoX_l hl (le := xe_F) rfl xX_F), (xoH_0 rfl), (xoP_l (lq := xq_F) rfl xtP_F)⟩
theorem xo_F_saying (hl : l.stackTraces = false) : xOK l L xs xi_F_saying := ⟨xoI_F_saying, xoM_F_saying, (xoX_l hl (le := xe_F) rfl xX_F), (xoH_0 rfl), (xoP_l (lq := xq_F) rfl xtP_F)⟩
theorem xo_F_definition (hl : l.stackTraces = false) : xOK l L xs xi_F_definition := ⟨xoI_F_definition, xoM_F_definition, (xoX_l hl (le := xe_F) rfl xX_F), (xoH_0 rfl), (xoP_l (lq := xq_F) rfl xtP_F)⟩
theorem xo_N_sum (hl : l.stackTraces = false) : xOK l L xs xi_N_sum := ⟨xoI_N_sum, xoM_N_sum, (xoX_0 rfl), (xoH_0 rfl), (xoP_l (lq := xq_N) rfl xtP_N)⟩
theorem xo_F_count (hl : l.stackTraces = false) : xOK l L xs xi_F_count := ⟨xoI_F_count, xoM_F_count, (xoX_l hl (le := xe_F) rfl xX_F), (xoH_0 rfl), (xoP_l (lq := xq_F) rfl xtP_F)⟩
theorem xo_R_init (hl : l.stackTraces = false) : xOK l L xs xi_R_init := ⟨xoI_R_init, xoM_R_init, (xoX_0 rfl), (xoH_0 rfl), (xoP_l (lq := xq_R) rfl xtP_R)⟩
theorem xo_R_thrown (hl : l.stackTraces = false) : xOK l L xs xi_R_thrown := ⟨xoI_R_thrown, xoM_R_thrown, (xoX_0 rfl), (xoH_0 rfl), (xoP_l (lq := xq_R) rfl xtP_R)⟩
theorem xo_R_write (hl : l.stackTraces = false) : xOK l L xs xi_R_write := ⟨xoI_R_write, xoM_R_write, (xoX_0 rfl), (xoH_0 rfl), (xoP_l (lq := xq_R) rfl xtP_R)⟩
theorem xo_R_within (hl : l.stackTraces = false) : xOK l L xs xi_R_within := ⟨xoI_R_within, xoM_R_within, (xoX_0 rfl), (xoH_0 rfl), (xoP_l (lq := xq_R) rfl xtP_R)⟩
theorem xo_R_fail (hl : l.stackTraces = false) : xOK l L xs xi_R_fail := ⟨xoI_R_fail, xoM_R_fail, (xoX_0 rfl), (xoH_0 rfl), (xoP_l (lq := xq_R) rfl xtP_R)⟩
theorem xo_R_interpret (hl : l.stackTraces = false) : xOK l L xs xi_R_interpret := ⟨xoI_R_interpret, xoM_R_interpret, (xoX_0 rfl), (xoH_0 rfl), (xoP_l (lq := xq_R) rfl xtP_R)⟩
theorem xo_R_word (hl : l.stackTraces = false) : xOK l L xs xi_R_word := ⟨xoI_R_word, xoM_R_word, (xoX_0 rfl), (xoH_0 rfl), (xoP_l (lq := xq_R) rfl xtP_R)⟩
theorem xo_R_packed (hl : l.stackTraces = false) : xOK l L xs xi_R_packed := ⟨xoI_R_packed, xoM_R_packed, (xoX_0 rfl), (xoH_0 rfl), (xoP_l (lq := xq_R) rfl xtP_R)⟩
theorem xo_R_compile (hl : l.stackTraces = false) : xOK l L xs xi_R_compile := ⟨xoI_R_compile, xoM_R_compile, (xoX_0 rfl), (xoH_0 rfl), (xoP_l (lq := xq_R) rfl xtP_R)⟩
theorem xo_R_find (hl : l.stackTraces = false) : xOK l L xs xi_R_find := ⟨xoI_R_find, xoM_R_find, (xoX_0 rfl), (xoH_0 rfl), (xoP_l (lq := xq_R) rfl xtP_R)⟩
theorem xo_R_builtIn (hl : l.stackTraces = false) : xOK l L xs xi_R_builtIn := ⟨xoI_R_builtIn, xoM_R_builtIn, (xoX_0 rfl), (xoH_0 rfl), (xoP_l (lq := xq_R) rfl xtP_R)⟩
theorem xo_R_other (hl : l.stackTraces = false) : xOK l L xs xi_R_other := ⟨xoI_R_other, xoM_R_other, (xoX_0 rfl), (xoH_0 rfl), (xoP_l (lq := xq_R) rfl xtP_R)⟩
theorem xo_R_add (hl : l.stackTraces = false) : xOK l L xs xi_R_add := ⟨xoI_R_add, xoM_R_add, (xoX_0 rfl), (xoH_0 rfl), (xoP_l (lq := xq_R) rfl xtP_R)⟩
theorem xo_R_wrong (hl : l.stackTraces = false) : xOK l L xs xi_R_wrong := ⟨xoI_R_wrong, xoM_R_wrong, (xoX_0 rfl), (xoH_0 rfl), (xoP_l (lq := xq_R) rfl xtP_R)⟩
theorem xo_R_flushes (hl : l.stackTraces = false) : xOK l L xs xi_R_flushes := ⟨xoI_R_flushes, xoM_R_flushes, (xoX_0 rfl), (xoH_0 rfl), (xoP_l (lq := xq_R) rfl xtP_R)⟩
theorem xo_R_flush (hl : l.stackTraces = false) : xOK l L xs xi_R_flush := ⟨xoI_R_flush, xoM_R_flush, (xoX_0 rfl), (xoH_0 rfl), (xoP_l (lq := xq_R) rfl xtP_R)⟩
theorem xo_R_takes (hl : l.stackTraces = false) : xOK l L xs xi_R_takes := ⟨xoI_R_takes, xoM_R_takes, (xoX_0 rfl), (xoH_0 rfl), (xoP_l (lq := xq_R) rfl xtP_R)⟩
theorem xo_R_gives (hl : l.stackTraces = false) : xOK l L xs xi_R_gives := ⟨xoI_R_gives, xoM_R_gives, (xoX_0 rfl), (xoH_0 rfl), (xoP_l (lq := xq_R) rfl xtP_R)⟩
theorem xo_R_conditions (hl : l.stackTraces = false) : xOK l L xs xi_R_conditions := ⟨xoI_R_conditions, xoM_R_conditions, (xoX_0 rfl), (xoH_0 rfl), (xoP_l (lq := xq_R) rfl xtP_R)⟩
theorem xo_R_put (hl : l.stackTraces = false) : xOK l L xs xi_R_put := ⟨xoI_R_put, xoM_R_put, (xoX_0 rfl), (xoH_0 rfl), (xoP_l (lq := xq_R) rfl xtP_R)⟩
theorem xo_R_closes (hl : l.stackTraces = false) : xOK l L xs xi_R_closes := ⟨xoI_R_closes, xoM_R_closes, (xoX_0 rfl), (xoH_0 rfl), (xoP_l (lq := xq_R) rfl xtP_R)⟩
theorem xo_R_aim (hl : l.stackTraces = false) : xOK l L xs xi_R_aim := ⟨xoI_R_aim, xoM_R_aim, (xoX_0 rfl), (xoH_0 rfl), (xoP_l (lq := xq_R) rfl xtP_R)⟩
theorem xo_R_loops (hl : l.stackTraces = false) : xOK l L xs xi_R_loops := ⟨xoI_R_loops, xoM_R_loops, (xoX_0 rfl), (xoH_0 rfl), (xoP_l (lq := xq_R) rfl xtP_R)⟩
theorem xo_R_isNumber (hl : l.stackTraces = false) : xOK l L xs xi_R_isNumber := ⟨xoI_R_isNumber, xoM_R_isNumber, (xoX_0 rfl), (xoH_0 rfl), (xoP_l (lq := xq_R) rfl xtP_R)⟩
theorem xo_R_number (hl : l.stackTraces = false) : xOK l L xs xi_R_number := ⟨xoI_R_number, xoM_R_number, (xoX_0 rfl), (xoH_0 rfl), (xoP_l (lq := xq_R) rfl xtP_R)⟩
theorem xo_R_acts (hl : l.stackTraces = false) : xOK l L xs xi_R_acts := ⟨xoI_R_acts, xoM_R_acts, (xoX_0 rfl), (xoH_0 rfl), (xoP_l (lq := xq_R) rfl xtP_R)⟩
theorem xo_R_run (hl : l.stackTraces = false) : xOK l L xs xi_R_run := ⟨xoI_R_run, xoM_R_run, (xoX_0 rfl), (xoH_0 rfl), (xoP_l (lq := xq_R) rfl xtP_R)⟩
theorem xo_R_step (hl : l.stackTraces = false) : xOK l L xs xi_R_step := ⟨xoI_R_step, xoM_R_step, (xoX_0 rfl), (xoH_0 rfl), (xoP_l (lq := xq_R) rfl xtP_R)⟩
theorem xo_R_enter (hl : l.stackTraces = false) : xOK l L xs xi_R_enter := ⟨xoI_R_enter, xoM_R_enter, (xoX_0 rfl), (xoH_0 rfl), (xoP_l (lq := xq_R) rfl xtP_R)⟩
theorem xo_R_operate (hl : l.stackTraces = false) : xOK l L xs xi_R_operate := ⟨xoI_R_operate, xoM_R_operate, (xoX_0 rfl), (xoH_0 rfl), (xoP_l (lq := xq_R) rfl xtP_R)⟩
theorem xo_R_perform (hl : l.stackTraces = false) : xOK l L xs xi_R_perform := ⟨xoI_R_perform, xoM_R_perform, (xoX_0 rfl), (xoH_0 rfl), (xoP_l (lq := xq_R) rfl xtP_R)⟩
theorem xo_R_fits (hl : l.stackTraces = false) : xOK l L xs xi_R_fits := ⟨xoI_R_fits, xoM_R_fits, (xoX_0 rfl), (xoH_0 rfl), (xoP_l (lq := xq_R) rfl xtP_R)⟩
theorem xo_R_does (hl : l.stackTraces = false) : xOK l L xs xi_R_does := ⟨xoI_R_does, xoM_R_does, (xoX_0 rfl), (xoH_0 rfl), (xoP_l (lq := xq_R) rfl xtP_R)⟩
theorem xo_R_push (hl : l.stackTraces = false) : xOK l L xs xi_R_push := ⟨xoI_R_push, xoM_R_push, (xoX_0 rfl), (xoH_0 rfl), (xoP_l (lq := xq_R) rfl xtP_R)⟩
theorem xo_R_pop (hl : l.stackTraces = false) : xOK l L xs xi_R_pop := ⟨xoI_R_pop, xoM_R_pop, (xoX_0 rfl), (xoH_0 rfl), (xoP_l (lq := xq_R) rfl xtP_R)⟩
theorem xo_R_arithmetic (hl : l.stackTraces = false) : xOK l L xs xi_R_arithmetic := ⟨xoI_R_arithmetic, xoM_R_arithmetic, (xoX_0 rfl), (xoH_0 rfl), (xoP_l (lq := xq_R) rfl xtP_R)⟩
theorem xo_R_single (hl : l.stackTraces = false) : xOK l L xs xi_R_single := ⟨xoI_R_single, xoM_R_single, (xoX_0 rfl), (xoH_0 rfl), (xoP_l (lq := xq_R) rfl xtP_R)⟩
theorem xo_R_shuffle (hl : l.stackTraces = false) : xOK l L xs xi_R_shuffle := ⟨xoI_R_shuffle, xoM_R_shuffle, (xoX_0 rfl), (xoH_0 rfl), (xoP_l (lq := xq_R) rfl xtP_R)⟩
theorem xo_R_access (hl : l.stackTraces = false) : xOK l L xs xi_R_access := ⟨xoI_R_access, xoM_R_access, (xoX_0 rfl), (xoH_0 rfl), (xoP_l (lq := xq_R) rfl xtP_R)⟩
theorem xo_R_returnStack (hl : l.stackTraces = false) : xOK l L xs xi_R_returnStack := ⟨xoI_R_returnStack, xoM_R_returnStack, (xoX_0 rfl), (xoH_0 rfl), (xoP_l (lq := xq_R) rfl xtP_R)⟩
theorem xo_R_say (hl : l.stackTraces = false) : xOK l L xs xi_R_say := ⟨xoI_R_say, xoM_R_say, (xoX_0 rfl), (xoH_0 rfl), (xoP_l (lq := xq_R) rfl xtP_R)⟩
theorem xo_R_goes (hl : l.stackTraces = false) : xOK l L xs xi_R_goes := ⟨xoI_R_goes, xoM_R_goes, (xoX_0 rfl), (xoH_0 rfl), (xoP_l (lq := xq_R) rfl xtP_R)⟩
theorem xo_R_defines (hl : l.stackTraces = false) : xOK l L xs xi_R_defines := ⟨xoI_R_defines, xoM_R_defines, (xoX_0 rfl), (xoH_0 rfl), (xoP_l (lq := xq_R) rfl xtP_R)⟩
theorem xo_R_name (hl : l.stackTraces = false) : xOK l L xs xi_R_name := ⟨xoI_R_name, xoM_R_name, (xoX_0 rfl), (xoH_0 rfl), (xoP_l (lq := xq_R) rfl xtP_R)⟩
theorem xo_R_begin (hl : l.stackTraces = false) : xOK l L xs xi_R_begin := ⟨xoI_R_begin, xoM_R_begin, (xoX_0 rfl), (xoH_0 rfl), (xoP_l (lq := xq_R) rfl xtP_R)⟩
theorem xo_R_simple (hl : l.stackTraces = false) : xOK l L xs xi_R_simple := ⟨xoI_R_simple, xoM_R_simple, (xoX_0 rfl), (xoH_0 rfl), (xoP_l (lq := xq_R) rfl xtP_R)⟩
theorem xo_R_compiling (hl : l.stackTraces = false) : xOK l L xs xi_R_compiling := ⟨xoI_R_compiling, xoM_R_compiling, (xoX_0 rfl), (xoH_0 rfl), (xoP_l (lq := xq_R) rfl xtP_R)⟩
theorem xo_R_depth (hl : l.stackTraces = false) : xOK l L xs xi_R_depth := ⟨xoI_R_depth, xoM_R_depth, (xoX_0 rfl), (xoH_0 rfl), (xoP_l (lq := xq_R) rfl xtP_R)⟩
theorem xo_R_top (hl : l.stackTraces = false) : xOK l L xs xi_R_top := ⟨xoI_R_top, xoM_R_top, (xoX_0 rfl), (xoH_0 rfl), (xoP_l (lq := xq_R) rfl xtP_R)⟩
theorem xo_R_cell (hl : l.stackTraces = false) : xOK l L xs xi_R_cell := ⟨xoI_R_cell, xoM_R_cell, (xoX_0 rfl), (xoH_0 rfl), (xoP_l (lq := xq_R) rfl xtP_R)⟩
theorem xo_R_said (hl : l.stackTraces = false) : xOK l L xs xi_R_said := ⟨xoI_R_said, xoM_R_said, (xoX_0 rfl), (xoH_0 rfl), (xoP_l (lq := xq_R) rfl xtP_R)⟩
theorem xo_R_saying (hl : l.stackTraces = false) : xOK l L xs xi_R_saying := ⟨xoI_R_saying, xoM_R_saying, (xoX_0 rfl), (xoH_0 rfl), (xoP_l (lq := xq_R) rfl xtP_R)⟩
theorem xo_R_definition (hl : l.stackTraces = false) : xOK l L xs xi_R_definition := ⟨xoI_R_definition, xoM_R_definition, (xoX_0 rfl), (xoH_0 rfl), (xoP_l (lq := xq_R) rfl xtP_R)⟩
theorem xo_R_count (hl : l.stackTraces = false) : xOK l L xs xi_R_count := ⟨xoI_R_count, xoM_R_count, (xoX_0 rfl), (xoH_0 rfl), (xoP_l (lq := xq_R) rfl xtP_R)⟩
theorem xo_L_write (hl : l.stackTraces = false) : xOK l L xs xi_L_write := ⟨xoI_L_write, xoM_L_write, (xoX_0 rfl), (xoH_l (lh := xh_L) rfl xH_L xH_k), (xoP_l (lq := xq_L) rfl xtP_L)⟩
theorem xo_L_interpret (hl : l.stackTraces = false) : xOK l L xs xi_L_interpret := ⟨xoI_L_interpret, xoM_L_interpret, (xoX_0 rfl), (xoH_l (lh := xh_L) rfl xH_L xH_k), (xoP_l (lq := xq_L) rfl xtP_L)⟩
theorem xo_L_top (hl : l.stackTraces = false) : xOK l L xs xi_L_top := ⟨xoI_L_top, xoM_L_top, (xoX_0 rfl), (xoH_l (lh := xh_L) rfl xH_L xH_k), (xoP_l (lq := xq_L) rfl xtP_L)⟩
theorem xo_L_cell (hl : l.stackTraces = false) : xOK l L xs xi_L_cell := ⟨xoI_L_cell, xoM_L_cell, (xoX_0 rfl), (xoH_l (lh := xh_L) rfl xH_L xH_k), (xoP_l (lq := xq_L) rfl xtP_L)⟩
theorem xo_L_saying (hl : l.stackTraces = false) : xOK l L xs xi_L_saying := ⟨xoI_L_saying, xoM_L_saying, (xoX_0 rfl), (xoH_l (lh := xh_L) rfl xH_L xH_k), (xoP_l (lq := xq_L) rfl xtP_L)⟩
theorem xo_L_definition (hl : l.stackTraces = false) : xOK l L xs xi_L_definition := ⟨xoI_L_definition, xoM_L_definition, (xoX_0 rfl), (xoH_l (lh := xh_L) rfl xH_L xH_k), (xoP_l (lq := xq_L) rfl xtP_L)⟩
theorem xo_L_count (hl : l.stackTraces = false) : xOK l L xs xi_L_count := ⟨xoI_L_count, xoM_L_count, (xoX_0 rfl), (xoH_l (lh := xh_L) rfl xH_L xH_k), (xoP_l (lq := xq_L) rfl xtP_L)⟩
set_option maxRecDepth 20000 in
theorem xoAll (hl : l.stackTraces = false) : ∀ J ∈ xmi, xOK l L xs J := by
  unfold xmi
  refine List.forall_mem_cons.mpr ⟨xo_F_init hl, ?_⟩
  refine List.forall_mem_cons.mpr ⟨xo_T_init hl, ?_⟩
  refine List.forall_mem_cons.mpr ⟨xo_D_init hl, ?_⟩
  refine List.forall_mem_cons.mpr ⟨xo_C_init hl, ?_⟩
  refine List.forall_mem_cons.mpr ⟨xo_M_init hl, ?_⟩
  refine List.forall_mem_cons.mpr ⟨xo_S_init hl, ?_⟩
  refine List.forall_mem_cons.mpr ⟨xo_F_compiling hl, ?_⟩
  refine List.forall_mem_cons.mpr ⟨xo_F_depth hl, ?_⟩
  refine List.forall_mem_cons.mpr ⟨xo_F_said hl, ?_⟩
  refine List.forall_mem_cons.mpr ⟨xo_F_write hl, ?_⟩
  refine List.forall_mem_cons.mpr ⟨xo_T_areCharacters hl, ?_⟩
  refine List.forall_mem_cons.mpr ⟨xo_T_byteOf hl, ?_⟩
  refine List.forall_mem_cons.mpr ⟨xo_T_append hl, ?_⟩
  refine List.forall_mem_cons.mpr ⟨xo_F_interpret hl, ?_⟩
  refine List.forall_mem_cons.mpr ⟨xo_M_beginText hl, ?_⟩
  refine List.forall_mem_cons.mpr ⟨xo_T_nextWord hl, ?_⟩
  refine List.forall_mem_cons.mpr ⟨xo_F_interpretWord hl, ?_⟩
  refine List.forall_mem_cons.mpr ⟨xo_T_key hl, ?_⟩
  refine List.forall_mem_cons.mpr ⟨xo_D_find hl, ?_⟩
  refine List.forall_mem_cons.mpr ⟨xo_F_compileOrDo hl, ?_⟩
  refine List.forall_mem_cons.mpr ⟨xo_C_add hl, ?_⟩
  refine List.forall_mem_cons.mpr ⟨xo_C_storeHeld hl, ?_⟩
  refine List.forall_mem_cons.mpr ⟨xo_F_fitting hl, ?_⟩
  refine List.forall_mem_cons.mpr ⟨xo_M_doWord hl, ?_⟩
  refine List.forall_mem_cons.mpr ⟨xo_M_takeStep hl, ?_⟩
  refine List.forall_mem_cons.mpr ⟨xo_M_perform hl, ?_⟩
  refine List.forall_mem_cons.mpr ⟨xo_S_hasRoom hl, ?_⟩
  refine List.forall_mem_cons.mpr ⟨xo_M_performOfTwo hl, ?_⟩
  refine List.forall_mem_cons.mpr ⟨xo_S_pop hl, ?_⟩
  refine List.forall_mem_cons.mpr ⟨xo_M_ofTwo hl, ?_⟩
  refine List.forall_mem_cons.mpr ⟨xo_M_flag hl, ?_⟩
  refine List.forall_mem_cons.mpr ⟨xo_S_push hl, ?_⟩
  refine List.forall_mem_cons.mpr ⟨xo_M_ofOne hl, ?_⟩
  refine List.forall_mem_cons.mpr ⟨xo_M_move hl, ?_⟩
  refine List.forall_mem_cons.mpr ⟨xo_M_useCell hl, ?_⟩
  refine List.forall_mem_cons.mpr ⟨xo_M_isCell hl, ?_⟩
  refine List.forall_mem_cons.mpr ⟨xo_M_useReturns hl, ?_⟩
  refine List.forall_mem_cons.mpr ⟨xo_S_fromTop hl, ?_⟩
  refine List.forall_mem_cons.mpr ⟨xo_M_put hl, ?_⟩
  refine List.forall_mem_cons.mpr ⟨xo_M_control hl, ?_⟩
  refine List.forall_mem_cons.mpr ⟨xo_M_goOnAt hl, ?_⟩
  refine List.forall_mem_cons.mpr ⟨xo_M_beginLoop hl, ?_⟩
  refine List.forall_mem_cons.mpr ⟨xo_M_endLoop hl, ?_⟩
  refine List.forall_mem_cons.mpr ⟨xo_D_at hl, ?_⟩
  refine List.forall_mem_cons.mpr ⟨xo_M_enter hl, ?_⟩
  refine List.forall_mem_cons.mpr ⟨xo_M_countLoads hl, ?_⟩
  refine List.forall_mem_cons.mpr ⟨xo_M_leaveWhatEnded hl, ?_⟩
  refine List.forall_mem_cons.mpr ⟨xo_W_withKey hl, ?_⟩
  refine List.forall_mem_cons.mpr ⟨xo_T_isNumber hl, ?_⟩
  refine List.forall_mem_cons.mpr ⟨xo_T_firstDigit hl, ?_⟩
  refine List.forall_mem_cons.mpr ⟨xo_T_number hl, ?_⟩
  refine List.forall_mem_cons.mpr ⟨xo_F_define hl, ?_⟩
  refine List.forall_mem_cons.mpr ⟨xo_T_isName hl, ?_⟩
  refine List.forall_mem_cons.mpr ⟨xo_D_isFull hl, ?_⟩
  refine List.forall_mem_cons.mpr ⟨xo_F_defineVariable hl, ?_⟩
  refine List.forall_mem_cons.mpr ⟨xo_C_defineNumber hl, ?_⟩
  refine List.forall_mem_cons.mpr ⟨xo_C_begin hl, ?_⟩
  refine List.forall_mem_cons.mpr ⟨xo_C_finish hl, ?_⟩
  refine List.forall_mem_cons.mpr ⟨xo_N_init hl, ?_⟩
  refine List.forall_mem_cons.mpr ⟨xo_D_add hl, ?_⟩
  refine List.forall_mem_cons.mpr ⟨xo_F_defineConstant hl, ?_⟩
  refine List.forall_mem_cons.mpr ⟨xo_C_act hl, ?_⟩
  refine List.forall_mem_cons.mpr ⟨xo_C_open hl, ?_⟩
  refine List.forall_mem_cons.mpr ⟨xo_C_lastOpen hl, ?_⟩
  refine List.forall_mem_cons.mpr ⟨xo_C_turnIfToElse hl, ?_⟩
  refine List.forall_mem_cons.mpr ⟨xo_C_closeLast hl, ?_⟩
  refine List.forall_mem_cons.mpr ⟨xo_C_endCondition hl, ?_⟩
  refine List.forall_mem_cons.mpr ⟨xo_C_goBack hl, ?_⟩
  refine List.forall_mem_cons.mpr ⟨xo_C_endWhile hl, ?_⟩
  refine List.forall_mem_cons.mpr ⟨xo_T_clear hl, ?_⟩
  refine List.forall_mem_cons.mpr ⟨xo_M_emptyStacks hl, ?_⟩
  refine List.forall_mem_cons.mpr ⟨xo_C_drop hl, ?_⟩
  refine List.forall_mem_cons.mpr ⟨xo_F_raise hl, ?_⟩
  refine List.forall_mem_cons.mpr ⟨xo_F_top hl, ?_⟩
  refine List.forall_mem_cons.mpr ⟨xo_F_cell hl, ?_⟩
  refine List.forall_mem_cons.mpr ⟨xo_F_saying hl, ?_⟩
  refine List.forall_mem_cons.mpr ⟨xo_F_definition hl, ?_⟩
  refine List.forall_mem_cons.mpr ⟨xo_N_sum hl, ?_⟩
  refine List.forall_mem_cons.mpr ⟨xo_F_count hl, ?_⟩
  refine List.forall_mem_cons.mpr ⟨xo_R_init hl, ?_⟩
  refine List.forall_mem_cons.mpr ⟨xo_R_thrown hl, ?_⟩
  refine List.forall_mem_cons.mpr ⟨xo_R_write hl, ?_⟩
  refine List.forall_mem_cons.mpr ⟨xo_R_within hl, ?_⟩
  refine List.forall_mem_cons.mpr ⟨xo_R_fail hl, ?_⟩
  refine List.forall_mem_cons.mpr ⟨xo_R_interpret hl, ?_⟩
  refine List.forall_mem_cons.mpr ⟨xo_R_word hl, ?_⟩
  refine List.forall_mem_cons.mpr ⟨xo_R_packed hl, ?_⟩
  refine List.forall_mem_cons.mpr ⟨xo_R_compile hl, ?_⟩
  refine List.forall_mem_cons.mpr ⟨xo_R_find hl, ?_⟩
  refine List.forall_mem_cons.mpr ⟨xo_R_builtIn hl, ?_⟩
  refine List.forall_mem_cons.mpr ⟨xo_R_other hl, ?_⟩
  refine List.forall_mem_cons.mpr ⟨xo_R_add hl, ?_⟩
  refine List.forall_mem_cons.mpr ⟨xo_R_wrong hl, ?_⟩
  refine List.forall_mem_cons.mpr ⟨xo_R_flushes hl, ?_⟩
  refine List.forall_mem_cons.mpr ⟨xo_R_flush hl, ?_⟩
  refine List.forall_mem_cons.mpr ⟨xo_R_takes hl, ?_⟩
  refine List.forall_mem_cons.mpr ⟨xo_R_gives hl, ?_⟩
  refine List.forall_mem_cons.mpr ⟨xo_R_conditions hl, ?_⟩
  refine List.forall_mem_cons.mpr ⟨xo_R_put hl, ?_⟩
  refine List.forall_mem_cons.mpr ⟨xo_R_closes hl, ?_⟩
  refine List.forall_mem_cons.mpr ⟨xo_R_aim hl, ?_⟩
  refine List.forall_mem_cons.mpr ⟨xo_R_loops hl, ?_⟩
  refine List.forall_mem_cons.mpr ⟨xo_R_isNumber hl, ?_⟩
  refine List.forall_mem_cons.mpr ⟨xo_R_number hl, ?_⟩
  refine List.forall_mem_cons.mpr ⟨xo_R_acts hl, ?_⟩
  refine List.forall_mem_cons.mpr ⟨xo_R_run hl, ?_⟩
  refine List.forall_mem_cons.mpr ⟨xo_R_step hl, ?_⟩
  refine List.forall_mem_cons.mpr ⟨xo_R_enter hl, ?_⟩
  refine List.forall_mem_cons.mpr ⟨xo_R_operate hl, ?_⟩
  refine List.forall_mem_cons.mpr ⟨xo_R_perform hl, ?_⟩
  refine List.forall_mem_cons.mpr ⟨xo_R_fits hl, ?_⟩
  refine List.forall_mem_cons.mpr ⟨xo_R_does hl, ?_⟩
  refine List.forall_mem_cons.mpr ⟨xo_R_push hl, ?_⟩
  refine List.forall_mem_cons.mpr ⟨xo_R_pop hl, ?_⟩
  refine List.forall_mem_cons.mpr ⟨xo_R_arithmetic hl, ?_⟩
  refine List.forall_mem_cons.mpr ⟨xo_R_single hl, ?_⟩
  refine List.forall_mem_cons.mpr ⟨xo_R_shuffle hl, ?_⟩
  refine List.forall_mem_cons.mpr ⟨xo_R_access hl, ?_⟩
  refine List.forall_mem_cons.mpr ⟨xo_R_returnStack hl, ?_⟩
  refine List.forall_mem_cons.mpr ⟨xo_R_say hl, ?_⟩
  refine List.forall_mem_cons.mpr ⟨xo_R_goes hl, ?_⟩
  refine List.forall_mem_cons.mpr ⟨xo_R_defines hl, ?_⟩
  refine List.forall_mem_cons.mpr ⟨xo_R_name hl, ?_⟩
  refine List.forall_mem_cons.mpr ⟨xo_R_begin hl, ?_⟩
  refine List.forall_mem_cons.mpr ⟨xo_R_simple hl, ?_⟩
  refine List.forall_mem_cons.mpr ⟨xo_R_compiling hl, ?_⟩
  refine List.forall_mem_cons.mpr ⟨xo_R_depth hl, ?_⟩
  refine List.forall_mem_cons.mpr ⟨xo_R_top hl, ?_⟩
  refine List.forall_mem_cons.mpr ⟨xo_R_cell hl, ?_⟩
  refine List.forall_mem_cons.mpr ⟨xo_R_said hl, ?_⟩
  refine List.forall_mem_cons.mpr ⟨xo_R_saying hl, ?_⟩
  refine List.forall_mem_cons.mpr ⟨xo_R_definition hl, ?_⟩
  refine List.forall_mem_cons.mpr ⟨xo_R_count hl, ?_⟩
  refine List.forall_mem_cons.mpr ⟨xo_L_write hl, ?_⟩
  refine List.forall_mem_cons.mpr ⟨xo_L_interpret hl, ?_⟩
  refine List.forall_mem_cons.mpr ⟨xo_L_top hl, ?_⟩
  refine List.forall_mem_cons.mpr ⟨xo_L_cell hl, ?_⟩
  refine List.forall_mem_cons.mpr ⟨xo_L_saying hl, ?_⟩
  refine List.forall_mem_cons.mpr ⟨xo_L_definition hl, ?_⟩
  refine List.forall_mem_cons.mpr ⟨xo_L_count hl, ?_⟩
  exact fun _ h => absurd h List.not_mem_nil
theorem xoA2 (hl : l.stackTraces = false) : mx_okA2 l (xK L xs) xcl xEW xED (xgt L xs) xMi := fun y J hy => xoAll hl J (List.mem_of_getElem? hy)
theorem xo_L_law (hl : l.stackTraces = false) : mx_okI (xK L xs) xcl xEW xED (xgt L xs) xMi xi_L_law ∧ mx_okX l (xK L xs) xcl xi_L_law ∧ mx_okH l (xK L xs) xcl xi_L_law ∧ mx_okP l (xK L xs) xcl xi_L_law := ⟨xoI_L_law, (xoX_0 rfl), (xoH_0 rfl), (xoP_l (lq := xq_L) rfl xtP_L)⟩
end XA
