/-! What every state of the run knows -/
def xTG : List Cond := lw_tbl.filter goodWord
def xnest (w : Cond) : Bool := match w with
  | .fieldLinkNest .. => true
  | .methodLinkNest .. => true
  | .declares _ => true
  | _ => false
def xTN : List Cond := lw_tbl.filter xnest
/-- the statics that hold constants: class, field, type, which constant -/
def xZw : List String := ["ADD", "SUBTRACT", "MULTIPLY", "DIVIDE", "MOD", "AND", "OR", "XOR", "MIN", "MAX", "LESS", "EQUAL", "GREATER", "NEGATE", "INVERT", "ABS", "ONE_MORE", "IS_0", "BELOW_0", "DUP", "DROP", "SWAP", "OVER", "ROT", "NIP", "TUCK", "TWO_DUP", "TWO_DROP", "FETCH", "PUT", "ADD_TO", "TO_RETURNS", "FROM_RETURNS", "COPY_RETURNS", "INDEX", "DEPTH", "SAY", "NUMBER", "IF", "UNTIL", "WHILE", "DO", "ELSE", "AGAIN", "REPEAT", "LOOP", "EXIT", "RECURSE", "END", "CALL", "THEN", "BEGIN", "COLON", "VARIABLE", "CONSTANT"]
def xZf : List String := ["NO_FAULT", "UNKNOWN", "WRONG", "REFUSED", "DIVIDED_BY_0", "STEPS_USED_UP"]
abbrev xEW : String := "StackForth$Word"
abbrev xEF : String := "StackForth$Fault"
abbrev xED : String := "StackForth$Definition"
abbrev xtk : List FieldType := mx_tk xEW xED
def xfn (k : Nat) : String × String := match k with
  | 0 => ("key", "J")
  | 1 => ("kind", "I")
  | 2 => ("takes", "I")
  | _ => ("gives", "Ljava/lang/String;")
abbrev xac (G : mj_G) (j : Nat) : Nat := mj_ad G (xB + j)
/-- the constants' part, of a heap -/
def xKc (L : Nat) (xs : Nat → Int32) (G : mj_G) (U : State) (H : Heap) : Prop :=
  (∀ j, j < 55 → va_Z xEW (xZw.getD j "") "LStackForth$Word;" (.ref (xac G j)) (mj_A G) U H ∧ va_O xEW (xac G j) (mj_A G) U H ∧ ∀ k, k < 4 → ∀ v, xk_wf k j = some v → va_OF xEW (xfn k).1 (xfn k).2 (mj_rv G v) (xac G j) (mj_A G) U H) ∧
  (∀ j, j < 6 → va_Z xEF (xZf.getD j "") "LStackForth$Fault;" (.ref (xac G (55 + j))) (mj_A G) U H ∧ va_O xEF (xac G (55 + j)) (mj_A G) U H) ∧
  (∀ j, j < 61 → va_OF "java/lang/Enum" "ordinal" "I" (.int (nI (if j < 55 then j else j - 55))) (xac G j) (mj_A G) U H) ∧
  va_Z xEW "ALL" "[LStackForth$Word;" (.ref (xac G 61)) (mj_A G) U H ∧ va_Z "StackForth$1" "$SwitchMap$StackForth$Word" "[I" (.ref (xac G 62)) (mj_A G) U H ∧ va_Z "StackForth$1" "$SwitchMap$StackForth$Fault" "[I" (.ref (xac G 63)) (mj_A G) U H ∧
  va_T (.object xEW) (xac G 61) 55 (fun j => .ref (xac G j)) (mj_A G) U H ∧ va_T .int (xac G 62) 55 (fun j => .int (xw_sw.getD j 0)) (mj_A G) U H ∧ va_T .int (xac G 63) 6 (fun j => .int (xw_sf.getD j 0)) (mj_A G) U H ∧ va_T .int (xac G 64) L (fun j => .int (xs j)) (mj_A G) U H ∧
  vk_S 10 (xw_str.map List.length) xw_str (fun i => xac G (65 + i)) (fun i => xac G (75 + i)) (mj_A G) U H ∧
  va_Z "java/lang/String" "COMPACT_STRINGS" "Z" (.int 1) (mj_A G) U H ∧ (va_Z "jdk/internal/util/Preconditions" "SIOOBE_FORMATTER" "Ljava/util/function/BiFunction;" .null (mj_A G) U H ∨ va_Z "jdk/internal/util/Preconditions" "SIOOBE_FORMATTER" "Ljava/util/function/BiFunction;" (.ref (xac G 85)) (mj_A G) U H) ∧
  vx_Zq Bundle.tN "UNASSIGNED_STACK" Bundle.steD (mj_A G) U H ∧ vx_Zq Bundle.tN "SUPPRESSED_SENTINEL" Bundle.listD (mj_A G) U H
theorem xKc.moved {L : Nat} {xs : Nat → Int32} {G : mj_G} {u U : State} {H : Heap} (hvm : u.vm.Alike U.vm) (h : xKc L xs G u H) : xKc L xs G U H := by
  obtain ⟨h1, h2, h3, h4, h5, h6, h7, h8, h9, h10, h11, h12, h13, h14, h15⟩ := h
  exact ⟨fun j hj => ⟨va_Z.moved hvm (h1 j hj).1, va_O.moved hvm (h1 j hj).2.1, fun k hk v hv => va_OF.moved hvm ((h1 j hj).2.2 k hk v hv)⟩, fun j hj => ⟨va_Z.moved hvm (h2 j hj).1, va_O.moved hvm (h2 j hj).2⟩, fun j hj => va_OF.moved hvm (h3 j hj), va_Z.moved hvm h4, va_Z.moved hvm h5, va_Z.moved hvm h6, va_T.moved hvm h7, va_T.moved hvm h8, va_T.moved hvm h9, va_T.moved hvm h10, vk_S.moved hvm h11, va_Z.moved hvm h12, h13.elim (fun h => Or.inl (va_Z.moved hvm h)) (fun h => Or.inr (va_Z.moved hvm h)), vx_Zq.moved hvm h14, vx_Zq.moved hvm h15⟩
theorem xKc.kept {L : Nat} {xs : Nat → Int32} {G : mj_G} {U : State} {H H1 : Heap} (h : xKc L xs G U H) (hq : ∀ a : Nat, a < H.size → ¬ mj_A G a → H1[a]? = H[a]?) : xKc L xs G U H1 := by
  obtain ⟨h1, h2, h3, h4, h5, h6, h7, h8, h9, h10, h11, h12, h13, h14, h15⟩ := h
  exact ⟨fun j hj => ⟨(h1 j hj).1.kept hq, (h1 j hj).2.1.kept hq, fun k hk v hv => ((h1 j hj).2.2 k hk v hv).kept hq⟩, fun j hj => ⟨(h2 j hj).1.kept hq, (h2 j hj).2.kept hq⟩, fun j hj => (h3 j hj).kept hq, h4.kept hq, h5.kept hq, h6.kept hq, h7.kept hq, h8.kept hq, h9.kept hq, h10.kept hq, h11.kept hq, h12.kept hq, h13.elim (fun h => Or.inl (h.kept hq)) (fun h => Or.inr (h.kept hq)), h14.kept hq, h15.kept hq⟩
/-- exceptions' classes, one not the other -/
def xNc : List (String × String) := (["java/lang/IllegalArgumentException", "java/lang/IllegalStateException", "java/util/NoSuchElementException", "java/lang/ArithmeticException", "java/lang/UnsupportedOperationException", "java/lang/IndexOutOfBoundsException"]).flatMap fun a => (["java/util/NoSuchElementException", "java/lang/IllegalArgumentException", "java/lang/IllegalStateException", "java/lang/ArithmeticException", "java/lang/UnsupportedOperationException"]).filterMap fun b => if a = b then none else some (a, b)
def xK (L : Nat) (xs : Nat → Int32) (G : mj_G) (s : State) : Prop :=
  (∀ w ∈ xTG, w.before #[] s = true) ∧ (∀ w ∈ xTN, va_Nw w s) ∧ va_K G.1 xcl (mj_T G xtk) s ∧ xKc L xs G s s.heap ∧ mx_inj G 61 ∧ va_AO xEW s ∧ va_AO xED s ∧ ∀ q ∈ xNc, va_Nc q.1 q.2 s
theorem xK_c (L : Nat) (xs : Nat → Int32) : mj_Kc (xK L xs) := by
  intro G s U hW hq h
  obtain ⟨h1, h2, h3, h4, h5, h6, h7, h8⟩ := h
  refine ⟨fun w hw => word_at hW (good_of_word (List.mem_filter.mp hw).2) (h1 w hw), fun w hw => ?_, va_K.moved hW.alike h3, xKc.moved hW.alike (h4.kept fun a ha hn => hq a (Nat.not_le.mp hn)), h5, va_AO.moved hW.alike h6, va_AO.moved hW.alike h7, fun q hq' => (h8 q hq').moved hW.alike⟩
  have hn := (List.mem_filter.mp hw).2
  have hz := h2 w hw
  cases w
  case fieldLinkNest => exact va_Nw.warmF hW hz
  case methodLinkNest => exact va_Nw.warmM hW hz
  case declares => exact va_Nw.warmD hW hz
  all_goals cases hn
theorem xK_w {L : Nat} {xs : Nat → Int32} {w : Cond} (h : w ∈ lw_tbl) (hg : goodWord w = true) : mj_w (xK L xs) w := fun G U args hK => word_at (State.WarmedH.refl U) (good_of_word hg) (hK.1 w (List.mem_filter.mpr ⟨h, hg⟩))
theorem xK_n {L : Nat} {xs : Nat → Int32} {w : Cond} (h : w ∈ lw_tbl) (hg : xnest w = true) : mj_w (xK L xs) w := fun G U args hK => by
  have hz := hK.2.1 w (List.mem_filter.mpr ⟨h, hg⟩)
  cases w
  case fieldLinkNest => exact va_Nw.use rfl hz
  case methodLinkNest => exact va_Nw.use rfl hz
  case declares => exact va_Nw.use rfl hz
  all_goals cases hg
theorem xK_a {L : Nat} {xs : Nat → Int32} {w : Cond} (h : w ∈ lw_tbl) (hg : (goodWord w || xnest w) = true) : mj_w (xK L xs) w := (Bool.or_eq_true _ _ ▸ hg).elim (xK_w h) (xK_n h)
theorem xK_FL {L : Nat} {xs : Nat → Int32} {own : String} {ix : Nat} {t : String × String × String × Bool} (h : Cond.fieldLink own ix t.1 t.2.1 t.2.2.1 ∈ lw_tbl) : ∀ (G : mj_G) (s : State) (args : Array Value), xK L xs G s → mj_FL s args own ix t := fun G s args hK => ⟨t.1, fun x h => h, Or.inl (xK_w h rfl G s args hK)⟩
theorem xK_FN {L : Nat} {xs : Nat → Int32} {own host : String} {ix : Nat} {t : String × String × String × Bool} (h : Cond.fieldLinkNest own ix t.1 t.2.1 t.2.2.1 host ∈ lw_tbl) : ∀ (G : mj_G) (s : State) (args : Array Value), xK L xs G s → mj_FL s args own ix t := fun G s args hK => ⟨t.1, fun x h => h, Or.inr ⟨host, xK_n h rfl G s args hK⟩⟩
