/-! What the law's start gives: the Statement's premises, by their places -/
def xfl : List Cond := flatC (Jvm.Cond.and given_1 narrow_1)
def xsE (j : Nat) : String := if j < 55 then xEW else xEF
def xsN (j : Nat) : String := if j < 55 then xZw.getD j "" else xZf.getD (j - 55) ""
def xsD (j : Nat) : String := if j < 55 then "LStackForth$Word;" else "LStackForth$Fault;"
def xsT (j : Nat) : Term := .static (xsE j) (xsN j) (xsD j)
def xtx : List Nat := [227, 259, 273, 276, 279, 282, 287, 291, 296, 306]
def xsS (i : Nat) : Term := .string xEW (xtx.getD i 0)
def tix_ex : List Nat := [224, 231, 238, 19, 26, 245, 252, 258, 264, 270, 276, 282, 288, 294, 300, 306, 312, 318, 324, 330, 336, 342, 348, 354, 360, 366, 372, 378, 384, 390, 396, 97, 103, 402, 408, 414, 420, 171, 179, 426, 197, 209, 185, 432, 203, 438, 444, 450, 456, 8, 462, 191, 468, 474, 480, 6, 177, 15, 17, 32, 109]
def tix_ori : List Nat := [225, 232, 239, 20, 27, 246, 253, 259, 265, 271, 277, 283, 289, 295, 301, 307, 313, 319, 325, 331, 337, 343, 349, 355, 361, 367, 373, 379, 385, 391, 397, 98, 104, 403, 409, 415, 421, 172, 180, 427, 198, 210, 186, 433, 204, 439, 445, 451, 457, 9, 463, 192, 469, 475, 481, 7, 178, 16, 18, 33, 110]
def tix_ky : List Nat := [226, 233, 240, 21, 28, 247, 254, 260, 266, 272, 278, 284, 290, 296, 302, 308, 314, 320, 326, 332, 338, 344, 350, 356, 362, 368, 374, 380, 386, 392, 398, 99, 105, 404, 410, 416, 422, 173, 181, 428, 199, 211, 187, 434, 205, 440, 446, 452, 458, 10, 464, 193, 470, 476, 482]
def tix_kd : List Nat := [227, 234, 241, 22, 29, 248, 255, 261, 267, 273, 279, 285, 291, 297, 303, 309, 315, 321, 327, 333, 339, 345, 351, 357, 363, 369, 375, 381, 387, 393, 399, 100, 106, 405, 411, 417, 423, 174, 182, 429, 200, 212, 188, 435, 206, 441, 447, 453, 459, 11, 465, 194, 471, 477, 483]
def tix_tk : List Nat := [228, 235, 242, 23, 30, 249, 256, 262, 268, 274, 280, 286, 292, 298, 304, 310, 316, 322, 328, 334, 340, 346, 352, 358, 364, 370, 376, 382, 388, 394, 400, 101, 107, 406, 412, 418, 424, 175, 183, 430, 201, 213, 189, 436, 207, 442, 448, 454, 460, 12, 466, 195, 472, 478, 484]
def tix_gv : List Nat := [229, 236, 243, 24, 31, 250, 257, 263, 269, 275, 281, 287, 293, 299, 305, 311, 317, 323, 329, 335, 341, 347, 353, 359, 365, 371, 377, 383, 389, 395, 401, 102, 108, 407, 413, 419, 425, 176, 184, 431, 202, 214, 190, 437, 208, 443, 449, 455, 461, 13, 467, 196, 473, 479, 485]
def tix_al : List Nat := [116, 117, 118, 119, 120, 121, 122, 123, 124, 125, 126, 127, 128, 129, 130, 131, 132, 133, 134, 135, 136, 137, 138, 139, 140, 141, 142, 143, 144, 145, 146, 147, 148, 149, 150, 151, 152, 153, 154, 155, 156, 157, 158, 159, 160, 161, 162, 163, 164, 165, 166, 167, 168, 169, 170]
def tix_sw : List Nat := [38, 39, 40, 41, 42, 43, 44, 45, 46, 47, 48, 49, 50, 51, 52, 53, 54, 55, 56, 57, 58, 59, 60, 61, 62, 63, 64, 65, 66, 67, 68, 69, 70, 71, 72, 73, 74, 75, 76, 77, 78, 79, 80, 81, 82, 83, 84, 85, 86, 87, 88, 89, 90, 91, 92]
def tix_sf : List Nat := [218, 219, 220, 221, 222, 223]
def tix_sx : List Nat := [580, 590, 595, 576, 601, 607, 614, 621, 628, 585]
def tix_sc : List Nat := [581, 591, 596, 577, 602, 608, 615, 622, 629, 586]
def tix_sa : List Nat := [582, 592, 597, 578, 603, 609, 616, 623, 630, 587]
def tix_sl : List Nat := [583, 593, 598, 579, 604, 610, 617, 624, 631, 588]
def tix_ne : List Nat := [230, 237, 244, 25, 34, 251]
def tix_ls : List Nat := [1259, 1260, 1261, 479, 481, 1262, 1263, 1264, 1265, 1266, 1267, 1268, 1269, 1270, 1271, 1272, 1273, 1274, 1275, 1276, 1277, 1278, 1279, 1280, 1281, 1282, 1283, 1284, 1285, 1286, 1287, 567, 569, 1288, 1289, 1290, 1291, 626, 726, 1292, 748, 756, 736, 1293, 754, 1294, 1295, 1296, 1297, 420, 1298, 742, 1299, 1300, 1301, 401, 632, 450, 469, 483, 603]
def tix_se : List (List Nat) := [[584], [594], [599, 600], [], [605, 606], [611, 612, 613], [618, 619, 620], [625, 626, 627], [632, 633, 634, 635], [589]]
theorem tq_ex : ∀ j, j < 61 → xfl[tix_ex.getD j 0]? = some (.exactly (xsT j) (xsE j)) := by decide +kernel
theorem tq_or : ∀ j, j < 61 → xfl[tix_ori.getD j 0]? = some (.eq (.field (xsT j) "java/lang/Enum" "ordinal" "I") (.int (nI (if j < 55 then j else j - 55)))) := by decide +kernel
theorem tq_ky : ∀ j, j < 55 → xfl[tix_ky.getD j 0]? = some (.eq (.field (xsT j) xEW "key" "J") (.long (xw_key.getD j 0))) := by decide +kernel
theorem tq_kd : ∀ j, j < 55 → xfl[tix_kd.getD j 0]? = some (.eq (.field (xsT j) xEW "kind" "I") (.int (xw_kind.getD j 0))) := by decide +kernel
theorem tq_tk : ∀ j, j < 55 → xfl[tix_tk.getD j 0]? = some (.eq (.field (xsT j) xEW "takes" "I") (.int (xw_takes.getD j 0))) := by decide +kernel
theorem tq_gv : ∀ j, j < 55 → xfl[tix_gv.getD j 0]? = some (.eq (.field (xsT j) xEW "gives" "Ljava/lang/String;") (xsS (xw_gives.getD j 0))) := by decide +kernel
theorem tq_al : ∀ j, j < 55 → xfl[tix_al.getD j 0]? = some (.eq (.elem (.static xEW "ALL" "[LStackForth$Word;") (.int (Int32.ofNat j))) (xsT j)) := by decide +kernel
theorem tq_sw : ∀ j, j < 55 → xfl[tix_sw.getD j 0]? = some (.eq (.elem (.static "StackForth$1" "$SwitchMap$StackForth$Word" "[I") (.int (Int32.ofNat j))) (.int (xw_sw.getD j 0))) := by decide +kernel
theorem tq_sf : ∀ j, j < 6 → xfl[tix_sf.getD j 0]? = some (.eq (.elem (.static "StackForth$1" "$SwitchMap$StackForth$Fault" "[I") (.int (Int32.ofNat j))) (.int (xw_sf.getD j 0))) := by decide +kernel
theorem tq_sx : ∀ j, j < 10 → xfl[tix_sx.getD j 0]? = some (.exactly (xsS j) "java/lang/String") := by decide +kernel
theorem tq_sc : ∀ j, j < 10 → xfl[tix_sc.getD j 0]? = some (.eq (.field (xsS j) "java/lang/String" "coder" "B") (.int 0)) := by decide +kernel
theorem tq_sa : ∀ j, j < 10 → xfl[tix_sa.getD j 0]? = some (.arrayOf (.field (xsS j) "java/lang/String" "value" "[B") .byte) := by decide +kernel
theorem tq_sl : ∀ j, j < 10 → xfl[tix_sl.getD j 0]? = some (.eq (.length (.field (xsS j) "java/lang/String" "value" "[B")) (.int (Int32.ofNat ((xw_str.map List.length).getD j 0)))) := by decide +kernel
theorem tq_se : ∀ i, i < 10 → ∀ j, j < (xw_str.map List.length).getD i 0 → xfl[(tix_se.getD i []).getD j 0]? = some (.eq (.elem (.field (xsS i) "java/lang/String" "value" "[B") (.int (Int32.ofNat j))) (.int ((xw_str.getD i []).getD j 0))) := by decide +kernel
theorem tq_ne : ∀ j, j < 6 → xfl[tix_ne.getD j 0]? = some (.not (.eq (xsT (55 + j)) (xsT j))) ∨ xfl[tix_ne.getD j 0]? = some (.not (.eq (xsT j) (xsT (55 + j)))) := by decide +kernel
theorem tq_ls : ∀ j, j < 61 → lw_tbl[tix_ls.getD j 0]? = some (.laysStatic (xsE j) (xsN j) (xsD j)) := by decide +kernel
theorem tq_cs : xfl[14]? = some (.eq (.static "java/lang/String" "COMPACT_STRINGS" "Z") (.int 1)) := by decide +kernel
theorem tq_si : xfl[93]? = some (.isRef (.static "jdk/internal/util/Preconditions" "SIOOBE_FORMATTER" "Ljava/util/function/BiFunction;")) := by decide +kernel
theorem tq_us : xfl[4]? = some (.isRef (.static "java/lang/Throwable" "UNASSIGNED_STACK" "[Ljava/lang/StackTraceElement;")) := by decide +kernel
theorem tq_ss : xfl[5]? = some (.isRef (.static "java/lang/Throwable" "SUPPRESSED_SENTINEL" "Ljava/util/List;")) := by decide +kernel
theorem tq_alA : xfl[113]? = some (.arrayOf (.static xEW "ALL" "[LStackForth$Word;") (.object xEW)) := by decide +kernel
theorem tq_alL : xfl[114]? = some (.eq (.length (.static xEW "ALL" "[LStackForth$Word;")) (.int (Int32.ofNat 55))) := by decide +kernel
theorem tq_swA : xfl[36]? = some (.arrayOf (.static "StackForth$1" "$SwitchMap$StackForth$Word" "[I") .int) := by decide +kernel
theorem tq_swL : xfl[37]? = some (.eq (.length (.static "StackForth$1" "$SwitchMap$StackForth$Word" "[I")) (.int (Int32.ofNat 55))) := by decide +kernel
theorem tq_sfA : xfl[216]? = some (.arrayOf (.static "StackForth$1" "$SwitchMap$StackForth$Fault" "[I") .int) := by decide +kernel
theorem tq_sfL : xfl[217]? = some (.eq (.length (.static "StackForth$1" "$SwitchMap$StackForth$Fault" "[I")) (.int (Int32.ofNat 6))) := by decide +kernel
theorem tq_l_cs : lw_tbl[445]? = some (.laysStatic "java/lang/String" "COMPACT_STRINGS" "Z") := by decide +kernel
theorem tq_l_si : lw_tbl[532]? = some (.laysStatic "jdk/internal/util/Preconditions" "SIOOBE_FORMATTER" "Ljava/util/function/BiFunction;") := by decide +kernel
theorem tq_l_us : lw_tbl[328]? = some (.laysStatic "java/lang/Throwable" "UNASSIGNED_STACK" "[Ljava/lang/StackTraceElement;") := by decide +kernel
theorem tq_l_ss : lw_tbl[330]? = some (.laysStatic "java/lang/Throwable" "SUPPRESSED_SENTINEL" "Ljava/util/List;") := by decide +kernel
theorem tq_l_al : lw_tbl[616]? = some (.laysStatic xEW "ALL" "[LStackForth$Word;") := by decide +kernel
theorem tq_l_sw : lw_tbl[488]? = some (.laysStatic "StackForth$1" "$SwitchMap$StackForth$Word" "[I") := by decide +kernel
theorem tq_l_sf : lw_tbl[774]? = some (.laysStatic "StackForth$1" "$SwitchMap$StackForth$Fault" "[I") := by decide +kernel
theorem tq_i_w : lw_tbl[79]? = some (.initialized "StackForth$Word") := by decide +kernel
theorem tq_i_f : lw_tbl[78]? = some (.initialized "StackForth$Fault") := by decide +kernel
theorem tq_i_1 : lw_tbl[82]? = some (.initialized "StackForth$1") := by decide +kernel
theorem tq_i_s : lw_tbl[81]? = some (.initialized "java/lang/String") := by decide +kernel
theorem tq_i_p : lw_tbl[84]? = some (.initialized "jdk/internal/util/Preconditions") := by decide +kernel
theorem tq_i_t : lw_tbl[72]? = some (.initialized "java/lang/Throwable") := by decide +kernel
theorem tq_a_i : lw_tbl[187]? = some (.arrayClass .int) := by decide +kernel
theorem tq_a_l : lw_tbl[983]? = some (.arrayClass .long) := by decide +kernel
theorem tq_a_c : lw_tbl[123]? = some (.arrayClass .char) := by decide +kernel
theorem tq_o_w : lw_tbl[148]? = some (.arrayOver (.object xEW)) := by decide +kernel
theorem tq_o_d : lw_tbl[131]? = some (.arrayOver (.object xED)) := by decide +kernel
theorem tq_n_F : lw_tbl[92]? = some (.instantiable "StackForth" 4) := by decide +kernel
theorem tq_u_F : (u_ws "StackForth" xc_F 4).all (fun w => decide (w ∈ lw_tbl)) = true := by decide +kernel
theorem tq_n_T : lw_tbl[100]? = some (.instantiable "StackForth$Text" 5) := by decide +kernel
theorem tq_u_T : (u_ws "StackForth$Text" xc_T 5).all (fun w => decide (w ∈ lw_tbl)) = true := by decide +kernel
theorem tq_n_D : lw_tbl[125]? = some (.instantiable "StackForth$Dictionary" 2) := by decide +kernel
theorem tq_u_D : (u_ws "StackForth$Dictionary" xc_D 2).all (fun w => decide (w ∈ lw_tbl)) = true := by decide +kernel
theorem tq_n_N : lw_tbl[666]? = some (.instantiable "StackForth$Definition" 6) := by decide +kernel
theorem tq_u_N : (u_ws "StackForth$Definition" xc_N 6).all (fun w => decide (w ∈ lw_tbl)) = true := by decide +kernel
theorem tq_n_C : lw_tbl[142]? = some (.instantiable "StackForth$Compiler" 12) := by decide +kernel
theorem tq_u_C : (u_ws "StackForth$Compiler" xc_C 12).all (fun w => decide (w ∈ lw_tbl)) = true := by decide +kernel
theorem tq_n_S : lw_tbl[195]? = some (.instantiable "StackForth$Stack" 2) := by decide +kernel
theorem tq_u_S : (u_ws "StackForth$Stack" xc_S 2).all (fun w => decide (w ∈ lw_tbl)) = true := by decide +kernel
theorem tq_n_M : lw_tbl[189]? = some (.instantiable "StackForth$Machine" 14) := by decide +kernel
theorem tq_u_M : (u_ws "StackForth$Machine" xc_M 14).all (fun w => decide (w ∈ lw_tbl)) = true := by decide +kernel
theorem tq_n_R : lw_tbl[881]? = some (.instantiable "StackForthModel" 32) := by decide +kernel
theorem tq_u_R : (u_ws "StackForthModel" xc_R 32).all (fun w => decide (w ∈ lw_tbl)) = true := by decide +kernel
theorem tq_n_X0 : lw_tbl[302]? = some (.instantiable "java/lang/IllegalArgumentException" 6) := by decide +kernel
theorem tq_n_X1 : lw_tbl[368]? = some (.instantiable "java/lang/IllegalStateException" 6) := by decide +kernel
theorem tq_n_X2 : lw_tbl[779]? = some (.instantiable "java/util/NoSuchElementException" 6) := by decide +kernel
theorem tq_n_X3 : lw_tbl[794]? = some (.instantiable "java/lang/ArithmeticException" 6) := by decide +kernel
theorem tq_n_X4 : lw_tbl[809]? = some (.instantiable "java/lang/UnsupportedOperationException" 6) := by decide +kernel
theorem tq_n_X5 : lw_tbl[832]? = some (.instantiable "java/lang/IndexOutOfBoundsException" 6) := by decide +kernel
theorem tq_nc : (xNc.all fun q => decide (Cond.not (.castable q.1 q.2) ∈ xfl)) = true := by decide +kernel
section TA
variable {s : State} {b L : Nat} {xs : Nat → Int32}
theorem xgn {ws : List Cond} {args : Array Value} {s : State} {w : Cond} {i : Nat} (h : ∀ w ∈ ws, w.before args s = true) (e : ws[i]? = some w) : w.before args s = true := h w (List.mem_of_getElem? e)
theorem xOFu {o n d : String} {v v' : Value} {t : Nat} {A : Nat → Prop} {U : State} {H : Heap} (h : va_OF o n d v t A U H) (h' : va_OF o n d v' t A U H) : v = v' := by
  obtain ⟨cf, k, i, f, cell, h1, h2, h3, h4, h5, h6⟩ := h
  obtain ⟨cf', k', i', f', cell', g1, g2, g3, g4, g5, g6⟩ := h'
  rw [h1] at g1; cases g1
  rw [h3] at g3; cases g3
  rw [h5] at g5; cases g5
  rfl
theorem xTu {ty : FieldType} {t N N' : Nat} {f f' : Nat → Value} {A : Nat → Prop} {U : State} {H : Heap} (hN : N < 1000) (hN' : N' < 1000) (h : va_T ty t N f A U H) (h' : va_T ty t N' f' A U H) : N = N' ∧ ∀ j, j < N → f j = f' j := by
  obtain ⟨cell, h1, h2, h3, h4, h5, h6, h7⟩ := h
  obtain ⟨cell', g1, g2, g3, g4, g5, g6, g7⟩ := h'
  rw [h1] at g1; cases g1
  have e : N = N' := by
    have e1 : Int32.ofNat N = Int32.ofNat N' := h5.symm.trans g5
    exact (d_inj (v := nI N) rfl e1 (by omega) (by omega)).symm
  refine ⟨e, fun j hj => ?_⟩
  have q1 := h6 j hj
  rw [g6 j (by omega)] at q1
  exact (Option.some.inj q1).symm
theorem xstr_ne : ∀ i, i < 10 → ∀ j, j < 10 → ((xw_str.map List.length).getD i 0 = (xw_str.map List.length).getD j 0 ∧ ∀ k, k < (xw_str.map List.length).getD i 0 → (xw_str.getD i []).getD k 0 = (xw_str.getD j []).getD k 0) → i = j := by decide +kernel
theorem xstr_lt : ∀ i, i < 10 → (xw_str.map List.length).getD i 0 < 1000 := by decide +kernel
theorem xwk_0 : ∀ j, j < 55 → xw_key[j]? = some (xw_key.getD j 0) ∧ xw_kind[j]? = some (xw_kind.getD j 0) ∧ xw_takes[j]? = some (xw_takes.getD j 0) ∧ xw_gives[j]? = some (xw_gives.getD j 0) ∧ xw_gives.getD j 0 < 10 := by decide +kernel
theorem xKc_start (hs : ∀ w ∈ lw_tbl, w.before #[Value.ref b] s = true) (hn : ∀ w ∈ xfl, w.before #[Value.ref b] s = true) (hX : va_X b L xs s s.heap) (hb : b < s.heap.size) : ∃ ac : Nat → Nat, ac 64 = b ∧ ∀ (D : va_G) (cA : Nat → ClassId), xKc L xs (D, cA, s.heap.size, ac) s s.heap ∧ mx_inj (D, cA, s.heap.size, ac) 61 := by
  have hA : ∀ a : Nat, a < s.heap.size → ¬ (fun q => s.heap.size ≤ q) a := fun a ha => by show ¬ s.heap.size ≤ a; omega
  have h0 : ∀ j : Nat, ∃ t : Nat, j < 61 → (xsT j).eval #[Value.ref b] s none [] s = some (.ref t) ∧ va_O (xsE j) t (fun q => s.heap.size ≤ q) s s.heap := by
    intro j
    by_cases hj : j < 61
    · obtain ⟨a, c, cell, k, q1, q2, q3, q4, q5, q6, -⟩ := Cond.exactly_spec (args := #[Value.ref b]) (first := s) (o := none) (s := s) (idx := []) (t := xsT j) (cls := xsE j) (xgn hn (tq_ex j hj))
      exact ⟨a, fun _ => ⟨q1, cell, q3, q5, by rw [q6]; exact q2, hA a (Array.getElem?_eq_some_iff.mp q3).1⟩⟩
    · exact ⟨0, fun h => absurd h hj⟩
  obtain ⟨ad, had⟩ := Classical.axiomOfChoice h0
  have h1 : ∀ i : Nat, ∃ q : Nat × Nat, i < 10 → (xsS i).eval #[Value.ref b] s none [] s = some (.ref q.1) ∧ va_O "java/lang/String" q.1 (fun q => s.heap.size ≤ q) s s.heap ∧ va_OF "java/lang/String" "coder" "B" (.int 0) q.1 (fun q => s.heap.size ≤ q) s s.heap ∧ va_OF "java/lang/String" "value" "[B" (.ref q.2) q.1 (fun q => s.heap.size ≤ q) s s.heap ∧ va_T .byte q.2 ((xw_str.map List.length).getD i 0) (fun j => .int ((xw_str.getD i []).getD j 0)) (fun q => s.heap.size ≤ q) s s.heap := by
    intro i
    by_cases hi : i < 10
    · obtain ⟨a, c, cell, k, q1, q2, q3, q4, q5, q6, -⟩ := Cond.exactly_spec (args := #[Value.ref b]) (first := s) (o := none) (s := s) (idx := []) (t := xsS i) (cls := "java/lang/String") (xgn hn (tq_sx i hi))
      obtain ⟨t, ht, hT⟩ := va_Tof (f := fun j => .int ((xw_str.getD i []).getD j 0)) (A := fun q => s.heap.size ≤ q) (by have := xstr_lt i hi; omega) (xgn hn (tq_sa i hi)) (va_eqt (xgn hn (tq_sl i hi))) (fun j hj => va_eqt (xgn hn (tq_se i hi j hj))) hA
      exact ⟨(a, t), fun _ => ⟨q1, ⟨cell, q3, q5, by rw [q6]; exact q2, hA a (Array.getElem?_eq_some_iff.mp q3).1⟩, vk_OFof q1 (va_eqt (xgn hn (tq_sc i hi))) hA, vk_OFof q1 ht hA, hT⟩⟩
    · exact ⟨(0, 0), fun h => absurd h hi⟩
  obtain ⟨sk, hsk⟩ := Classical.axiomOfChoice h1
  obtain ⟨tA, eA, hTA⟩ := va_Tof (tm := .static xEW "ALL" "[LStackForth$Word;") (ty := .object xEW) (N := 55) (f := fun j => .ref (ad j)) (A := fun q => s.heap.size ≤ q) (by decide) (xgn hn tq_alA) (va_eqt (xgn hn tq_alL)) (fun j hj => va_eqv (xgn hn (tq_al j hj)) (had j (by omega)).1) hA
  obtain ⟨tW, eW, hTW⟩ := va_Tof (tm := .static "StackForth$1" "$SwitchMap$StackForth$Word" "[I") (ty := .int) (N := 55) (f := fun j => .int (xw_sw.getD j 0)) (A := fun q => s.heap.size ≤ q) (by decide) (xgn hn tq_swA) (va_eqt (xgn hn tq_swL)) (fun j hj => va_eqt (xgn hn (tq_sw j hj))) hA
  obtain ⟨tF, eF, hTF⟩ := va_Tof (tm := .static "StackForth$1" "$SwitchMap$StackForth$Fault" "[I") (ty := .int) (N := 6) (f := fun j => .int (xw_sf.getD j 0)) (A := fun q => s.heap.size ≤ q) (by decide) (xgn hn tq_sfA) (va_eqt (xgn hn tq_sfL)) (fun j hj => va_eqt (xgn hn (tq_sf j hj))) hA
  have hSI := va_Zqof (A := fun q => s.heap.size ≤ q) (xgn hs tq_l_si) (xgn hs tq_i_p) (xgn hn tq_si) hA
  obtain ⟨tS, hS⟩ : ∃ tS : Nat, va_Z "jdk/internal/util/Preconditions" "SIOOBE_FORMATTER" "Ljava/util/function/BiFunction;" .null (fun q => s.heap.size ≤ q) s s.heap ∨ va_Z "jdk/internal/util/Preconditions" "SIOOBE_FORMATTER" "Ljava/util/function/BiFunction;" (.ref tS) (fun q => s.heap.size ≤ q) s s.heap := by
    rcases hSI with h | ⟨t, h⟩
    · exact ⟨0, Or.inl h⟩
    · exact ⟨t, Or.inr h⟩
  refine ⟨fun i => if i < 61 then ad i else if i = 61 then tA else if i = 62 then tW else if i = 63 then tF else if i = 64 then b else if i < 75 then (sk (i - 65)).1 else if i < 85 then (sk (i - 75)).2 else tS, rfl, fun D cA => ?_⟩
  generalize hG : ((D, cA, s.heap.size, fun i => if i < 61 then ad i else if i = 61 then tA else if i = 62 then tW else if i = 63 then tF else if i = 64 then b else if i < 75 then (sk (i - 65)).1 else if i < 85 then (sk (i - 75)).2 else tS) : mj_G) = G
  have hAc : G.2.2.2 = fun i => if i < 61 then ad i else if i = 61 then tA else if i = 62 then tW else if i = 63 then tF else if i = 64 then b else if i < 75 then (sk (i - 65)).1 else if i < 85 then (sk (i - 75)).2 else tS := by rw [← hG]
  have hAG : mj_A G = fun q => s.heap.size ≤ q := by rw [← hG]
  have a0 : ∀ j, j < 61 → xac G j = ad j := fun j hj => by rw [show xac G j = _ from xad G j, hAc]; exact if_pos hj
  have a61 : xac G 61 = tA := by rw [show xac G 61 = _ from xad G 61, hAc]; rfl
  have a62 : xac G 62 = tW := by rw [show xac G 62 = _ from xad G 62, hAc]; rfl
  have a63 : xac G 63 = tF := by rw [show xac G 63 = _ from xad G 63, hAc]; rfl
  have a64 : xac G 64 = b := by rw [show xac G 64 = _ from xad G 64, hAc]; rfl
  have a85 : xac G 85 = tS := by rw [show xac G 85 = _ from xad G 85, hAc]; rfl
  have a65 : ∀ i, i < 10 → xac G (65 + i) = (sk i).1 := fun i hi => by
    rw [show xac G (65 + i) = _ from xad G (65 + i), hAc]
    show (if 65 + i < 61 then _ else _) = _
    rw [if_neg (by omega), if_neg (by omega), if_neg (by omega), if_neg (by omega), if_neg (by omega), if_pos (by omega), Nat.add_sub_cancel_left]
  have a75 : ∀ i, i < 10 → xac G (75 + i) = (sk i).2 := fun i hi => by
    rw [show xac G (75 + i) = _ from xad G (75 + i), hAc]
    show (if 75 + i < 61 then _ else _) = _
    rw [if_neg (by omega), if_neg (by omega), if_neg (by omega), if_neg (by omega), if_neg (by omega), if_neg (by omega), if_pos (by omega), Nat.add_sub_cancel_left]
  have hZ : ∀ j, j < 61 → va_Z (xsE j) (xsN j) (xsD j) (.ref (ad j)) (fun q => s.heap.size ≤ q) s s.heap := fun j hj => va_Zref (xgn hs (tq_ls j hj)) (by
    by_cases q : j < 55
    · rw [show xsE j = xEW from if_pos q]; exact xgn hs tq_i_w
    · rw [show xsE j = xEF from if_neg q]; exact xgn hs tq_i_f) (had j hj).1 hA
  have hO : ∀ j, j < 61 → va_OF "java/lang/Enum" "ordinal" "I" (.int (nI (if j < 55 then j else j - 55))) (ad j) (fun q => s.heap.size ≤ q) s s.heap := fun j hj => vk_OFof (had j hj).1 (va_eqt (xgn hn (tq_or j hj))) hA
  refine ⟨?_, ?_⟩
  · unfold xKc
    rw [hAG]
    refine ⟨fun j hj => ?_, fun j hj => ?_, fun j hj => by rw [a0 j hj]; exact hO j hj, by rw [a61]; exact va_Zref (xgn hs tq_l_al) (xgn hs tq_i_w) eA hA, by rw [a62]; exact va_Zref (xgn hs tq_l_sw) (xgn hs tq_i_1) eW hA, by rw [a63]; exact va_Zref (xgn hs tq_l_sf) (xgn hs tq_i_1) eF hA, ?_, by rw [a62]; exact hTW, by rw [a63]; exact hTF, ?_, ⟨fun i hi => by have h := (hsk i hi).2; rw [← a65 i hi, ← a75 i hi] at h; exact h, fun i j hi hj e => ?_⟩, va_Zof (xgn hs tq_l_cs) (xgn hs tq_i_s) (va_eqt (xgn hn tq_cs)) hA, by rw [a85]; exact hS, vx_Zqof (xgn hs tq_l_us) (xgn hs tq_i_t) (xgn hn tq_us) hA, vx_Zqof (xgn hs tq_l_ss) (xgn hs tq_i_t) (xgn hn tq_ss) hA⟩
    · have z := hZ j (by omega)
      have o := (had j (by omega)).2
      rw [show xsE j = xEW from if_pos hj, show xsN j = xZw.getD j "" from if_pos hj, show xsD j = "LStackForth$Word;" from if_pos hj] at z
      rw [show xsE j = xEW from if_pos hj] at o
      rw [a0 j (by omega)]
      refine ⟨z, o, fun k hk v hv => ?_⟩
      obtain ⟨w1, w2, w3, w4, w5⟩ := xwk_0 j hj
      have ht := (had j (by omega)).1
      have hc : k = 0 ∨ k = 1 ∨ k = 2 ∨ k = 3 := by omega
      rcases hc with rfl | rfl | rfl | rfl
      · simp only [xk_wf, w1, Option.map_some] at hv
        cases hv
        exact vk_OFof ht (va_eqtl (xgn hn (tq_ky j hj))) hA
      · simp only [xk_wf, w2, Option.map_some] at hv
        cases hv
        exact vk_OFof ht (va_eqt (xgn hn (tq_kd j hj))) hA
      · simp only [xk_wf, w3, Option.map_some] at hv
        cases hv
        exact vk_OFof ht (va_eqt (xgn hn (tq_tk j hj))) hA
      · simp only [xk_wf, w4, Option.map_some] at hv
        cases hv
        have e65 := a65 (xw_gives.getD j 0) w5
        have e66 : mj_rv G (.ref (1048641 + xw_gives.getD j 0)) = .ref (sk (xw_gives.getD j 0)).1 := by
          rw [← e65]
          show Value.ref (mj_ad G (1048641 + xw_gives.getD j 0)) = .ref (mj_ad G (1048576 + (65 + xw_gives.getD j 0)))
          rw [← Nat.add_assoc]
        rw [e66]
        exact vk_OFof ht (va_eqv (xgn hn (tq_gv j hj)) (hsk _ w5).1) hA
    · have z := hZ (55 + j) (by omega)
      have o := (had (55 + j) (by omega)).2
      have q : ¬ 55 + j < 55 := by omega
      rw [show xsE (55 + j) = xEF from if_neg q, show xsN (55 + j) = xZf.getD (55 + j - 55) "" from if_neg q, show xsD (55 + j) = "LStackForth$Fault;" from if_neg q, Nat.add_sub_cancel_left] at z
      rw [show xsE (55 + j) = xEF from if_neg q] at o
      rw [a0 (55 + j) (by omega)]
      exact ⟨z, o⟩
    · rw [a61]
      obtain ⟨cell, t1, t2, t3, t4, t5, t6, t7⟩ := hTA
      exact ⟨cell, t1, t2, t3, t4, t5, fun j hj => by have h : cell.slots[j]? = some (Value.ref (ad j)) := t6 j hj; rw [← a0 j (by omega)] at h; exact h, t7⟩
    · rw [a64]
      obtain ⟨scr, t1, t2, t3, t4, t5⟩ := hX
      exact ⟨scr, t1, t2, t3, Nat.le_of_eq t4.symm, by rw [t4], t5, hA b hb⟩
    · have e : xac G (65 + i) = xac G (65 + j) := e
      rw [a65 i hi, a65 j hj] at e
      obtain ⟨p1, p2, p3, p4, p5⟩ := hsk i hi
      obtain ⟨r1, r2, r3, r4, r5⟩ := hsk j hj
      rw [← e] at r4
      have e2 := xOFu p4 r4
      have e3 : (sk i).2 = (sk j).2 := by injection e2
      rw [← e3] at r5
      obtain ⟨x1, x2⟩ := xTu (xstr_lt i hi) (xstr_lt j hj) p5 r5
      exact xstr_ne i hi j hj ⟨x1, fun k hk => by have := x2 k hk; injection this⟩
  · intro i j hi hj e
    have e : ad i = ad j := by
      have q1 := a0 i hi
      have q2 := a0 j hj
      rw [show xac G i = _ from xad G i] at q1
      rw [show xac G j = _ from xad G j] at q2
      exact q1.symm.trans (e.trans q2)
    have p1 := hO i hi
    have p2 := hO j hj
    rw [← e] at p2
    have e2 := xOFu p1 p2
    have e3 : nI (if i < 55 then i else i - 55) = nI (if j < 55 then j else j - 55) := by injection e2
    have l1 : (if i < 55 then i else i - 55) < 2147483648 := by split <;> omega
    have l2 : (if j < 55 then j else j - 55) < 2147483648 := by split <;> omega
    have e4 := d_inj (v := nI (if i < 55 then i else i - 55)) rfl e3 l1 l2
    have ne : ∀ k, k < 6 → ad (55 + k) ≠ ad k := fun k hk => by
      rcases tq_ne k hk with h | h
      · exact va_neR (xgn hn h) (had (55 + k) (by omega)).1 (had k (by omega)).1
      · exact Ne.symm (va_neR (xgn hn h) (had k (by omega)).1 (had (55 + k) (by omega)).1)
    by_cases ci : i < 55
    · by_cases cj : j < 55
      · rw [if_pos ci, if_pos cj] at e4; exact e4.symm
      · rw [if_pos ci, if_neg cj] at e4
        have : j = 55 + i := by omega
        subst this
        exact absurd e.symm (ne i (by omega))
    · by_cases cj : j < 55
      · rw [if_neg ci, if_pos cj] at e4
        have : i = 55 + j := by omega
        subst this
        exact absurd e (ne j (by omega))
      · rw [if_neg ci, if_neg cj] at e4; omega
theorem xKn_start (hs : ∀ w ∈ lw_tbl, w.before #[Value.ref b] s = true) : ∀ w ∈ xcl, ∃ q : ClassId × (Nat → Nat), u_Kn s w.1 w.2.1 w.2.2 q.1 q.2 := by
  have go : ∀ {C : String} {T : u_T} {N n i : Nat}, (u_ws C T N).all (fun w => decide (w ∈ lw_tbl)) = true → lw_tbl[i]? = some (.instantiable C n) → ∃ q : ClassId × (Nat → Nat), u_Kn s C T N q.1 q.2 := fun {C T N n i} h1 h2 => by
    obtain ⟨cC, iS, h⟩ := u_known (ws := lw_tbl) (T := T) (N := N) hs (fun w hw => of_decide_eq_true (List.all_eq_true.mp h1 w hw)) (xgn hs h2)
    exact ⟨(cC, iS), h⟩
  refine List.forall_mem_cons.mpr ⟨go tq_u_F tq_n_F, ?_⟩
  refine List.forall_mem_cons.mpr ⟨go tq_u_T tq_n_T, ?_⟩
  refine List.forall_mem_cons.mpr ⟨go tq_u_D tq_n_D, ?_⟩
  refine List.forall_mem_cons.mpr ⟨go tq_u_N tq_n_N, ?_⟩
  refine List.forall_mem_cons.mpr ⟨go tq_u_C tq_n_C, ?_⟩
  refine List.forall_mem_cons.mpr ⟨go tq_u_S tq_n_S, ?_⟩
  refine List.forall_mem_cons.mpr ⟨go tq_u_M tq_n_M, ?_⟩
  refine List.forall_mem_cons.mpr ⟨go tq_u_R tq_n_R, ?_⟩
  refine List.forall_mem_cons.mpr ⟨go rfl tq_n_X0, ?_⟩
  refine List.forall_mem_cons.mpr ⟨go rfl tq_n_X1, ?_⟩
  refine List.forall_mem_cons.mpr ⟨go rfl tq_n_X2, ?_⟩
  refine List.forall_mem_cons.mpr ⟨go rfl tq_n_X3, ?_⟩
  refine List.forall_mem_cons.mpr ⟨go rfl tq_n_X4, ?_⟩
  refine List.forall_mem_cons.mpr ⟨go rfl tq_n_X5, ?_⟩
  exact fun _ h => absurd h List.not_mem_nil
theorem xKa_start (hs : ∀ w ∈ lw_tbl, w.before #[Value.ref b] s = true) : ∀ t ∈ xtk, ∃ c : ClassId, ArrOfT s c t ∧ va_RA s c t := by
  have p : ∀ {t : FieldType}, (Cond.arrayClass t).before #[Value.ref b] s = true → ∃ c : ClassId, ArrOfT s c t ∧ s.vm.findClass ("[" ++ t.toString) = some c := fun {t} h => by
    obtain ⟨c, k, comp, h1, h2, h3⟩ := Cond.arrayClass_spec h
    exact ⟨c, fun n z => ⟨fun k h => (by cases h), k, h2, comp, h3⟩, h1⟩
  have o : ∀ {C : String}, (Cond.arrayOver (.object C)).before #[Value.ref b] s = true → ∃ c : ClassId, ArrOfT s c (.object C) ∧ va_RA s c (.object C) := fun {C} h => by
    obtain ⟨comp, c, k, h1, h2, h3, h4, h5⟩ := Cond.arrayOver_spec h
    exact ⟨c, fun n z => ⟨fun k h => (by cases h), k, h3, comp, h4⟩, k, comp, h3, h4, h1, h5⟩
  refine List.forall_mem_cons.mpr ⟨p (xgn hs tq_a_i), List.forall_mem_cons.mpr ⟨p (xgn hs tq_a_l), List.forall_mem_cons.mpr ⟨p (xgn hs tq_a_c), List.forall_mem_cons.mpr ⟨o (xgn hs tq_o_w), List.forall_mem_cons.mpr ⟨o (xgn hs tq_o_d), fun _ h => absurd h List.not_mem_nil⟩⟩⟩⟩⟩
theorem xK_start (hs : ∀ w ∈ lw_tbl, w.before #[Value.ref b] s = true) (hn : ∀ w ∈ xfl, w.before #[Value.ref b] s = true) (hX : va_X b L xs s s.heap) (hb : b < s.heap.size) : ∃ G : mj_G, mj_b G = s.heap.size ∧ mj_rv G (.ref 1048640) = .ref b ∧ xK L xs G s := by
  obtain ⟨ac, h64, hc⟩ := xKc_start hs hn hX hb
  have h1 : ∀ ci : Nat, ∃ q : ClassId × (Nat → Nat), ∀ w : vw_C, xcl[ci]? = some w → u_Kn s w.1 w.2.1 w.2.2 q.1 q.2 := fun ci => by
    cases h : xcl[ci]? with
    | none => exact ⟨(0, fun _ => 0), fun w hw => by cases hw⟩
    | some w =>
      obtain ⟨q, hq⟩ := xKn_start hs w (List.mem_of_getElem? h)
      exact ⟨q, fun w' hw => by cases hw; exact hq⟩
  obtain ⟨qc, hqc⟩ := Classical.axiomOfChoice h1
  have h2 : ∀ k : Nat, ∃ c : ClassId, ∀ t : FieldType, xtk[k]? = some t → ArrOfT s c t ∧ va_RA s c t := fun k => by
    cases h : xtk[k]? with
    | none => exact ⟨0, fun t ht => by cases ht⟩
    | some t =>
      obtain ⟨c, hq⟩ := xKa_start hs t (List.mem_of_getElem? h)
      exact ⟨c, fun t' ht => by cases ht; exact hq⟩
  obtain ⟨qa, hqa⟩ := Classical.axiomOfChoice h2
  obtain ⟨hc1, hc2⟩ := hc (fun c => (qc c).1, fun c => (qc c).2) qa
  refine ⟨((fun c => (qc c).1, fun c => (qc c).2), qa, s.heap.size, ac), rfl, ?_, fun w hw => word_at (State.WarmedH.refl s) (good_of_word (List.mem_filter.mp hw).2) (hs w (List.mem_filter.mp hw).1), fun w hw => ?_, ⟨fun c q hq => hqc c q hq, fun k q hk => ?_⟩, hc1, hc2, va_AO.of (xgn hs tq_o_w), va_AO.of (xgn hs tq_o_d), fun q hq => va_Nc.of (hn _ (of_decide_eq_true (List.all_eq_true.mp tq_nc q hq)))⟩
  · show Value.ref (ac 64) = _
    rw [h64]
  · have h3 := hs w (List.mem_filter.mp hw).1
    have h4 := (List.mem_filter.mp hw).2
    cases w
    case fieldLinkNest => exact va_Nw.of rfl h3
    case methodLinkNest => exact va_Nw.of rfl h3
    case declares => exact va_Nw.of rfl h3
    all_goals cases h4
  · simp only [mj_T, List.getElem?_mapIdx] at hk
    cases h : xtk[k]? with
    | none => rw [h] at hk; cases hk
    | some t =>
      rw [h] at hk
      simp only [Option.map_some, Option.some.injEq] at hk
      subst hk
      exact hqa k t h
end TA
