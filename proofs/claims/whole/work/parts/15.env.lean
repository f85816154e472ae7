/-! Classes, constants, pools and methods as tables -/
def xc_F : u_T := fun k => match k with
  | 0 => ("StackForth", "text", "LStackForth$Text;", true)
  | 1 => ("StackForth", "dictionary", "LStackForth$Dictionary;", true)
  | 2 => ("StackForth", "compiler", "LStackForth$Compiler;", true)
  | _ => ("StackForth", "machine", "LStackForth$Machine;", true)
def xc_T : u_T := fun k => match k with
  | 0 => ("StackForth$Text", "characters", "[C", true)
  | 1 => ("StackForth$Text", "length", "I", false)
  | 2 => ("StackForth$Text", "wordsRead", "I", false)
  | 3 => ("StackForth$Text", "start", "I", false)
  | _ => ("StackForth$Text", "end", "I", false)
def xc_D : u_T := fun k => match k with
  | 0 => ("StackForth$Dictionary", "definitions", "[LStackForth$Definition;", true)
  | _ => ("StackForth$Dictionary", "size", "I", false)
def xc_N : u_T := fun k => match k with
  | 0 => ("StackForth$Definition", "name", "J", true)
  | 1 => ("StackForth$Definition", "size", "I", true)
  | 2 => ("StackForth$Definition", "words", "[LStackForth$Word;", true)
  | 3 => ("StackForth$Definition", "numbers", "[I", true)
  | 4 => ("StackForth$Definition", "loads", "[I", true)
  | _ => ("StackForth$Definition", "stores", "[I", true)
def xc_C : u_T := fun k => match k with
  | 0 => ("StackForth$Compiler", "dictionary", "LStackForth$Dictionary;", true)
  | 1 => ("StackForth$Compiler", "words", "[LStackForth$Word;", true)
  | 2 => ("StackForth$Compiler", "numbers", "[I", true)
  | 3 => ("StackForth$Compiler", "loads", "[I", true)
  | 4 => ("StackForth$Compiler", "stores", "[I", true)
  | 5 => ("StackForth$Compiler", "openWords", "[LStackForth$Word;", true)
  | 6 => ("StackForth$Compiler", "openPlaces", "[I", true)
  | 7 => ("StackForth$Compiler", "on", "Z", false)
  | 8 => ("StackForth$Compiler", "name", "J", false)
  | 9 => ("StackForth$Compiler", "size", "I", false)
  | 10 => ("StackForth$Compiler", "held", "I", false)
  | _ => ("StackForth$Compiler", "openSize", "I", false)
def xc_S : u_T := fun k => match k with
  | 0 => ("StackForth$Stack", "numbers", "[I", true)
  | _ => ("StackForth$Stack", "size", "I", false)
def xc_M : u_T := fun k => match k with
  | 0 => ("StackForth$Machine", "dictionary", "LStackForth$Dictionary;", true)
  | 1 => ("StackForth$Machine", "data", "LStackForth$Stack;", true)
  | 2 => ("StackForth$Machine", "returns", "LStackForth$Stack;", true)
  | 3 => ("StackForth$Machine", "space", "[I", true)
  | 4 => ("StackForth$Machine", "spoken", "[I", true)
  | 5 => ("StackForth$Machine", "moved", "[I", true)
  | 6 => ("StackForth$Machine", "runs", "[LStackForth$Definition;", true)
  | 7 => ("StackForth$Machine", "places", "[I", true)
  | 8 => ("StackForth$Machine", "deep", "I", false)
  | 9 => ("StackForth$Machine", "cellsTaken", "I", false)
  | 10 => ("StackForth$Machine", "saidNumbers", "I", false)
  | 11 => ("StackForth$Machine", "steps", "I", false)
  | 12 => ("StackForth$Machine", "loads", "I", false)
  | _ => ("StackForth$Machine", "stores", "I", false)
def xc_R : u_T := fun k => match k with
  | 0 => ("StackForthModel", "thrown", "I", false)
  | 1 => ("StackForthModel", "bad", "I", false)
  | 2 => ("StackForthModel", "length", "I", false)
  | 3 => ("StackForthModel", "text", "[I", true)
  | 4 => ("StackForthModel", "at", "I", false)
  | 5 => ("StackForthModel", "definitions", "I", false)
  | 6 => ("StackForthModel", "names", "[J", true)
  | 7 => ("StackForthModel", "sizes", "[I", true)
  | 8 => ("StackForthModel", "codes", "[I", true)
  | 9 => ("StackForthModel", "arguments", "[I", true)
  | 10 => ("StackForthModel", "moves", "[I", true)
  | 11 => ("StackForthModel", "taken", "I", false)
  | 12 => ("StackForthModel", "compiling", "Z", false)
  | 13 => ("StackForthModel", "held", "I", false)
  | 14 => ("StackForthModel", "open", "I", false)
  | 15 => ("StackForthModel", "kinds", "[I", true)
  | 16 => ("StackForthModel", "places", "[I", true)
  | 17 => ("StackForthModel", "depth", "I", false)
  | 18 => ("StackForthModel", "stack", "[I", true)
  | 19 => ("StackForthModel", "kept", "I", false)
  | 20 => ("StackForthModel", "returns", "[I", true)
  | 21 => ("StackForthModel", "space", "[I", true)
  | 22 => ("StackForthModel", "said", "I", false)
  | 23 => ("StackForthModel", "says", "[I", true)
  | 24 => ("StackForthModel", "steps", "I", false)
  | 25 => ("StackForthModel", "loads", "I", false)
  | 26 => ("StackForthModel", "stores", "I", false)
  | 27 => ("StackForthModel", "deep", "I", false)
  | 28 => ("StackForthModel", "running", "[I", true)
  | 29 => ("StackForthModel", "next", "[I", true)
  | 30 => ("StackForthModel", "from", "I", false)
  | _ => ("StackForthModel", "size", "I", false)
def xc_X : u_T := fun _ => ("", "", "", false)
def xcl : List vw_C := [("StackForth", xc_F, 4), ("StackForth$Text", xc_T, 5), ("StackForth$Dictionary", xc_D, 2), ("StackForth$Definition", xc_N, 6), ("StackForth$Compiler", xc_C, 12), ("StackForth$Stack", xc_S, 2), ("StackForth$Machine", xc_M, 14), ("StackForthModel", xc_R, 32), ("java/lang/IllegalArgumentException", xc_X, 0), ("java/lang/IllegalStateException", xc_X, 0), ("java/util/NoSuchElementException", xc_X, 0), ("java/lang/ArithmeticException", xc_X, 0), ("java/lang/UnsupportedOperationException", xc_X, 0), ("java/lang/IndexOutOfBoundsException", xc_X, 0)]
def xc_ty : List (List FieldType) := [[.object "StackForth$Text", .object "StackForth$Dictionary", .object "StackForth$Compiler", .object "StackForth$Machine"], [.array .char, .int, .int, .int, .int], [.array (.object "StackForth$Definition"), .int], [.long, .int, .array (.object "StackForth$Word"), .array .int, .array .int, .array .int], [.object "StackForth$Dictionary", .array (.object "StackForth$Word"), .array .int, .array .int, .array .int, .array (.object "StackForth$Word"), .array .int, .boolean, .long, .int, .int, .int], [.array .int, .int], [.object "StackForth$Dictionary", .object "StackForth$Stack", .object "StackForth$Stack", .array .int, .array .int, .array .int, .array (.object "StackForth$Definition"), .array .int, .int, .int, .int, .int, .int, .int], [.int, .int, .int, .array .int, .int, .int, .array .long, .array .int, .array .int, .array .int, .array .int, .int, .boolean, .int, .int, .array .int, .array .int, .int, .array .int, .int, .array .int, .array .int, .int, .array .int, .int, .int, .int, .int, .array .int, .array .int, .int, .int]]
def xc_fin : List (List Bool) := [[true, true, true, true], [true, false, false, false, false], [true, false], [true, true, true, true, true, true], [true, true, true, true, true, true, true, false, false, false, false, false], [true, false], [true, true, true, true, true, true, true, true, false, false, false, false, false, false], [false, false, false, true, false, false, true, true, true, true, true, false, false, false, false, true, true, false, true, false, true, true, false, true, false, false, false, false, true, true, false, false]]
-- words: 0:ADD 1:SUBTRACT 2:MULTIPLY 3:DIVIDE 4:MOD 5:AND 6:OR 7:XOR 8:MIN 9:MAX 10:LESS 11:EQUAL 12:GREATER 13:NEGATE 14:INVERT 15:ABS 16:ONE_MORE 17:IS_0 18:BELOW_0 19:DUP 20:DROP 21:SWAP 22:OVER 23:ROT 24:NIP 25:TUCK 26:TWO_DUP 27:TWO_DROP 28:FETCH 29:PUT 30:ADD_TO 31:TO_RETURNS 32:FROM_RETURNS 33:COPY_RETURNS 34:INDEX 35:DEPTH 36:SAY 37:NUMBER 38:IF 39:UNTIL 40:WHILE 41:DO 42:ELSE 43:AGAIN 44:REPEAT 45:LOOP 46:EXIT 47:RECURSE 48:END 49:CALL 50:THEN 51:BEGIN 52:COLON 53:VARIABLE 54:CONSTANT
-- faults: 55:NO_FAULT 56:UNKNOWN 57:WRONG 58:REFUSED 59:DIVIDED_BY_0 60:STEPS_USED_UP
def xw_key : List Int64 := [43, 45, 42, 47, 4476749, 4476481, 21071, 5394264, 5130573, 5783885, 60, 61, 62, 76228174759246, 92712327335497, 5456449, 11057, 15664, 15408, 5264708, 1347375684, 1346459475, 1380275791, 5525330, 5261646, 1262703956, 1347765298, 344928175154, 64, 33, 8491, 21054, 15954, 16466, 73, 310652192068, 46, 0, 17993, 327647776341, 297632614487, 20292, 1163086917, 336236463937, 92639312495954, 1347374924, 1414092869, 19513386475930962, 59, 0, 1313163348, 336236856642, 58, 4993438935017472342, 6074864777800077123]
def xw_kind : List Int32 := [0, 0, 0, 0, 0, 0, 0, 0, 0, 0, 0, 0, 0, 1, 1, 1, 1, 1, 1, 2, 2, 2, 2, 2, 2, 2, 2, 2, 3, 3, 3, 4, 4, 4, 4, 5, 5, 5, 6, 6, 6, 6, 7, 7, 7, 7, 7, 7, 7, 7, 8, 8, 9, 9, 9]
def xw_takes : List Int32 := [2, 2, 2, 2, 2, 2, 2, 2, 2, 2, 2, 2, 2, 1, 1, 1, 1, 1, 1, 1, 1, 2, 2, 3, 2, 2, 2, 2, 1, 2, 2, 1, 0, 0, 0, 0, 1, 0, 1, 1, 1, 2, 0, 0, 0, 0, 0, 0, 0, 0, 0, 0, 0, 0, 0]
def xw_gives : List Nat := [0, 0, 0, 0, 0, 0, 0, 0, 0, 0, 0, 0, 0, 1, 1, 1, 1, 1, 1, 2, 3, 4, 5, 6, 1, 7, 8, 3, 9, 3, 3, 3, 9, 9, 9, 9, 3, 9, 3, 3, 3, 3, 3, 3, 3, 3, 3, 3, 3, 3, 3, 3, 3, 3, 3]
def xw_str : List (List Int32) := [[99], [98], [97, 97], [], [98, 97], [97, 98, 97], [98, 99, 97], [98, 97, 98], [97, 98, 97, 98], [110]]
def xw_sw : List Int32 := [15, 16, 17, 18, 19, 20, 21, 22, 23, 24, 25, 26, 0, 27, 28, 29, 30, 31, 0, 0, 0, 0, 0, 0, 0, 0, 0, 0, 32, 33, 0, 0, 0, 0, 0, 34, 35, 0, 3, 7, 9, 11, 4, 8, 10, 12, 36, 13, 14, 37, 5, 6, 0, 1, 2]
def xw_sf : List Int32 := [0, 1, 2, 3, 4, 0]
/-- the constants: words from 0, faults from 55, the list of all words 61, the two switches 62 and 63, the script 64, texts from 65 -/
abbrev xB : Nat := 1048576
def xk_arr (L : Nat) (xs : Nat → Int32) (i : Nat) : Option (Bool × Nat × (Nat → Value)) := match i with
  | 1048637 => some (false, 55, fun j => .ref (xB + j))
  | 1048638 => some (true, 55, fun j => .int (xw_sw.getD j 0))
  | 1048639 => some (true, 6, fun j => .int (xw_sf.getD j 0))
  | 1048640 => some (true, L, fun j => .int (xs j))
  | _ => none
def xgt (L : Nat) (xs : Nat → Int32) : mx_Gt := (fun ci k => (xc_ty.getD ci []).getD k .int, fun ci k => (xc_fin.getD ci []).getD k false, xk_arr L xs, 55, 3)
/-- a field of a word: 0 key, 1 kind, 2 takes, 3 gives -/
def xk_wf (k j : Nat) : Option Value := match k with
  | 0 => (xw_key[j]?).map .long
  | 1 => (xw_kind[j]?).map .int
  | 2 => (xw_takes[j]?).map .int
  | _ => (xw_gives[j]?).map fun s => .ref (1048641 + s)
def xk_cf (l : List (Nat × Nat)) (ix i : Nat) : Option Value := match l.lookup ix with
  | some k => if xB ≤ i then xk_wf k (i - xB) else none
  | none => none
/-- methods that only answer: 0 a text's length, 1 its letter, 2 a constant's place, 3 the greater, 4 the lesser, 5 without sign -/
def xp_f (k : Nat) (vs : List Value) : Option Value := match k, vs with
  | 0, [.ref i] => if 1048641 ≤ i then (xw_str[i - 1048641]?).map fun s => .int (nI s.length) else none
  | 1, [.ref i, .int j] => if 1048641 ≤ i then (match xw_str[i - 1048641]? with
    | some s => if mx_inb j s.length = true then some (.int (s.getD j.toNatClampNeg 0)) else none
    | none => none) else none
  | 2, [.ref i] => if i < xB then none else if i < xB + 55 then some (.int (nI (i - xB))) else none
  | 7, [.ref i] => if i < xB + 55 then none else if i < xB + 61 then some (.int (nI (i - (xB + 55)))) else none
  | 3, [.int a, .int b] => some (.int (if a < b then b else a))
  | 4, [.int a, .int b] => some (.int (if b < a then b else a))
  | 5, [.int a] => some (.int (if a < 0 then -a else a))
  | _, _ => none
def xp_n (k : Nat) : Nat := match k with
  | 0 => 1
  | 1 => 2
  | 2 => 1
  | 3 => 2
  | 4 => 2
  | _ => 1
/-- 6: an object's own constructor, without answer -/
def xp_g (k : Nat) (vs : List Value) : Option (Option Value) := match k with
  | 6 => (match vs with
    | [.ref _] => some none
    | _ => none)
  | _ => (xp_f k vs).map some
def xp (l : List (Nat × Nat)) (ix : Nat) : Option (Nat × (List Value → Option (Option Value))) := match l.lookup ix with
  | some k => some (xp_n k, xp_g k)
  | none => none
/-- which exceptions a handler's class takes: the class itself (13: nothing is known of the others) -/
def xct (l : List (Nat × Nat)) (x ci : Nat) : Option Bool := match l.lookup x with
  | some cj => if 8 ≤ ci ∧ ci < 14 then (if cj = ci then some true else if cj < 13 then some false else none) else none
  | none => none
def xf_L : List (Nat × Nat × Nat) := []
def xz_L : List (Nat × Nat) := []
def xg_L : List (Nat × Nat) := []
def xn_L : List (Nat × Nat × List Value × Nat) := [(8, 0, [.null, .null, .null, .null], 4), (47, 7, [.int 0, .int 0, .int 0, .null, .int 0, .int 0, .null, .null, .null, .null, .null, .int 0, .int 0, .int 0, .int 0, .null, .null, .int 0, .null, .int 0, .null, .null, .int 0, .null, .int 0, .int 0, .int 0, .int 0, .null, .null, .int 0, .int 0], 32)]
def xa_L : List (Nat × Nat) := []
def xl_L : List (Nat × Int64) := [(50, 4294967295)]
def xm_L : List (Nat × Nat) := [(7, 9), (17, 13), (27, 73), (33, 74), (36, 75), (39, 76), (43, 78), (46, 0), (49, 79), (52, 133), (57, 81), (58, 80), (61, 134), (64, 84), (65, 6), (69, 125), (70, 7), (73, 126), (74, 135), (77, 127), (78, 136), (80, 128), (81, 8), (84, 129), (85, 137), (87, 130), (88, 138), (91, 131), (92, 139), (94, 132)]
def xe_L : List (Nat × Nat × Nat) := []
def xh_L : List (Nat × Nat) := [(13, 8), (15, 9), (21, 10), (23, 11), (25, 12), (31, 13)]
def xq_L : List (Nat × Nat) := []
def xb_L : mx_Tb := (fun ix => xf_L.lookup ix, fun ix => (xz_L.lookup ix).map .ref, xk_cf xg_L, fun ix => xn_L.lookup ix, fun ix => xa_L.lookup ix, fun _ => none, fun ix => xl_L.lookup ix, fun ix => xm_L.lookup ix, fun ix => xe_L.lookup ix, xct xh_L, xp xq_L)
def xfi_L : List (Nat × Nat × Nat) := []
def xbi_L : mx_Tb := (fun ix => xfi_L.lookup ix, fun ix => (xz_L.lookup ix).map .ref, xk_cf xg_L, fun ix => xn_L.lookup ix, fun ix => xa_L.lookup ix, fun _ => none, fun ix => xl_L.lookup ix, fun ix => xm_L.lookup ix, fun ix => xe_L.lookup ix, xct xh_L, xp xq_L)
def xf_F : List (Nat × Nat × Nat) := [(10, 0, 0), (19, 0, 1), (28, 0, 2), (35, 0, 3), (46, 1, 1), (74, 1, 2), (90, 4, 7), (94, 6, 1), (98, 5, 1), (114, 6, 3), (118, 6, 10), (121, 6, 4), (128, 3, 1), (131, 3, 4), (134, 3, 5), (141, 2, 1), (142, 6, 11), (145, 6, 12), (147, 6, 13), (149, 6, 9), (152, 6, 2)]
def xz_F : List (Nat × Nat) := [(60, 1048631), (155, 1048639), (181, 1048625), (198, 1048613), (204, 1048632), (210, 1048633), (238, 1048638), (256, 1048634)]
def xg_F : List (Nat × Nat) := [(207, 1)]
def xn_F : List (Nat × Nat × List Value × Nat) := [(7, 1, [.null, .int 0, .int 0, .int 0, .int 0], 5), (16, 2, [.null, .int 0], 2), (23, 4, [.null, .null, .null, .null, .null, .null, .null, .int 0, .long 0, .int 0, .int 0, .int 0], 12), (32, 6, [.null, .null, .null, .null, .null, .null, .null, .null, .int 0, .int 0, .int 0, .int 0, .int 0, .int 0], 14)]
def xa_F : List (Nat × Nat) := []
def xl_F : List (Nat × Int64) := []
def xm_F : List (Nat × Nat) := [(9, 1), (18, 2), (25, 3), (34, 4), (39, 10), (53, 12), (57, 14), (66, 15), (70, 16), (77, 69), (80, 70), (83, 71), (86, 72), (106, 37), (110, 35), (124, 43), (137, 77), (173, 17), (177, 18), (187, 19), (191, 47), (195, 48), (201, 50), (213, 51), (217, 61), (221, 22), (225, 20), (229, 23), (232, 52), (235, 53), (242, 54), (246, 60), (249, 56), (253, 55), (259, 28)]
def xe_F : List (Nat × Nat × Nat) := [(43, 8, 45), (50, 9, 52), (103, 13, 105), (164, 10, 166), (167, 11, 169), (170, 12, 172)]
def xh_F : List (Nat × Nat) := []
def xq_F : List (Nat × Nat) := [(6, 6), (640, 7), (964, 2)]
def xb_F : mx_Tb := (fun ix => xf_F.lookup ix, fun ix => (xz_F.lookup ix).map .ref, xk_cf xg_F, fun ix => xn_F.lookup ix, fun ix => xa_F.lookup ix, fun _ => none, fun ix => xl_F.lookup ix, fun ix => xm_F.lookup ix, fun ix => xe_F.lookup ix, xct xh_F, xp xq_F)
def xfi_F : List (Nat × Nat × Nat) := [(10, 0, 0), (19, 0, 1), (28, 0, 2), (35, 0, 3)]
def xbi_F : mx_Tb := (fun ix => xfi_F.lookup ix, fun ix => (xz_F.lookup ix).map .ref, xk_cf xg_F, fun ix => xn_F.lookup ix, fun ix => xa_F.lookup ix, fun _ => none, fun ix => xl_F.lookup ix, fun ix => xm_F.lookup ix, fun ix => xe_F.lookup ix, xct xh_F, xp xq_F)
def xf_T : List (Nat × Nat × Nat) := [(9, 1, 0), (19, 1, 1), (23, 1, 2), (26, 1, 3), (29, 1, 4)]
def xz_T : List (Nat × Nat) := []
def xg_T : List (Nat × Nat) := []
def xn_T : List (Nat × Nat × List Value × Nat) := []
def xa_T : List (Nat × Nat) := []
def xl_T : List (Nat × Int64) := [(32, -1)]
def xm_T : List (Nat × Nat) := [(15, 11), (34, 49)]
def xe_T : List (Nat × Nat × Nat) := []
def xh_T : List (Nat × Nat) := []
def xq_T : List (Nat × Nat) := [(14, 6)]
def xb_T : mx_Tb := (fun ix => xf_T.lookup ix, fun ix => (xz_T.lookup ix).map .ref, xk_cf xg_T, fun ix => xn_T.lookup ix, fun ix => xa_T.lookup ix, fun _ => none, fun ix => xl_T.lookup ix, fun ix => xm_T.lookup ix, fun ix => xe_T.lookup ix, xct xh_T, xp xq_T)
def xfi_T : List (Nat × Nat × Nat) := [(9, 1, 0), (19, 1, 1), (23, 1, 2), (26, 1, 3), (29, 1, 4)]
def xbi_T : mx_Tb := (fun ix => xfi_T.lookup ix, fun ix => (xz_T.lookup ix).map .ref, xk_cf xg_T, fun ix => xn_T.lookup ix, fun ix => xa_T.lookup ix, fun _ => none, fun ix => xl_T.lookup ix, fun ix => xm_T.lookup ix, fun ix => xe_T.lookup ix, xct xh_T, xp xq_T)
def xf_D : List (Nat × Nat × Nat) := [(11, 2, 0), (17, 2, 1), (21, 3, 0)]
def xz_D : List (Nat × Nat) := []
def xg_D : List (Nat × Nat) := []
def xn_D : List (Nat × Nat × List Value × Nat) := []
def xa_D : List (Nat × Nat) := [(9, 4)]
def xl_D : List (Nat × Int64) := []
def xm_D : List (Nat × Nat) := []
def xe_D : List (Nat × Nat × Nat) := []
def xh_D : List (Nat × Nat) := []
def xq_D : List (Nat × Nat) := [(14, 6)]
def xb_D : mx_Tb := (fun ix => xf_D.lookup ix, fun ix => (xz_D.lookup ix).map .ref, xk_cf xg_D, fun ix => xn_D.lookup ix, fun ix => xa_D.lookup ix, fun _ => none, fun ix => xl_D.lookup ix, fun ix => xm_D.lookup ix, fun ix => xe_D.lookup ix, xct xh_D, xp xq_D)
def xfi_D : List (Nat × Nat × Nat) := [(11, 2, 0), (17, 2, 1)]
def xbi_D : mx_Tb := (fun ix => xfi_D.lookup ix, fun ix => (xz_D.lookup ix).map .ref, xk_cf xg_D, fun ix => xn_D.lookup ix, fun ix => xa_D.lookup ix, fun _ => none, fun ix => xl_D.lookup ix, fun ix => xm_D.lookup ix, fun ix => xe_D.lookup ix, xct xh_D, xp xq_D)
def xf_N : List (Nat × Nat × Nat) := [(7, 3, 0), (13, 3, 1), (19, 3, 2), (23, 3, 3), (27, 3, 4), (30, 3, 5)]
def xz_N : List (Nat × Nat) := []
def xg_N : List (Nat × Nat) := []
def xn_N : List (Nat × Nat × List Value × Nat) := []
def xa_N : List (Nat × Nat) := [(17, 3)]
def xl_N : List (Nat × Int64) := []
def xm_N : List (Nat × Nat) := []
def xe_N : List (Nat × Nat × Nat) := []
def xh_N : List (Nat × Nat) := []
def xq_N : List (Nat × Nat) := [(6, 6)]
def xb_N : mx_Tb := (fun ix => xf_N.lookup ix, fun ix => (xz_N.lookup ix).map .ref, xk_cf xg_N, fun ix => xn_N.lookup ix, fun ix => xa_N.lookup ix, fun _ => none, fun ix => xl_N.lookup ix, fun ix => xm_N.lookup ix, fun ix => xe_N.lookup ix, xct xh_N, xp xq_N)
def xfi_N : List (Nat × Nat × Nat) := [(7, 3, 0), (13, 3, 1), (19, 3, 2), (23, 3, 3), (27, 3, 4), (30, 3, 5)]
def xbi_N : mx_Tb := (fun ix => xfi_N.lookup ix, fun ix => (xz_N.lookup ix).map .ref, xk_cf xg_N, fun ix => xn_N.lookup ix, fun ix => xa_N.lookup ix, fun _ => none, fun ix => xl_N.lookup ix, fun ix => xm_N.lookup ix, fun ix => xe_N.lookup ix, xct xh_N, xp xq_N)
def xf_C : List (Nat × Nat × Nat) := [(11, 4, 1), (17, 4, 2), (21, 4, 3), (24, 4, 4), (27, 4, 5), (30, 4, 6), (33, 4, 0), (37, 4, 7), (41, 4, 8), (45, 4, 9), (49, 4, 10), (52, 4, 11), (142, 2, 1)]
def xz_C : List (Nat × Nat) := [(59, 1048613), (96, 1048638), (111, 1048614), (117, 1048618), (123, 1048627), (130, 1048616), (136, 1048617), (139, 1048625), (156, 1048620)]
def xg_C : List (Nat × Nat) := [(71, 1), (77, 2), (86, 3)]
def xn_C : List (Nat × Nat × List Value × Nat) := [(145, 3, [.long 0, .int 0, .null, .null, .null, .null], 6)]
def xa_C : List (Nat × Nat) := [(9, 3)]
def xl_C : List (Nat × Int64) := []
def xm_C : List (Nat × Nat) := [(55, 56), (63, 20), (67, 57), (74, 21), (104, 62), (107, 63), (114, 64), (120, 66), (126, 67), (133, 68), (147, 58), (150, 59), (153, 65)]
def xe_C : List (Nat × Nat × Nat) := []
def xh_C : List (Nat × Nat) := []
def xq_C : List (Nat × Nat) := [(14, 6), (321, 3), (360, 0), (404, 2)]
def xb_C : mx_Tb := (fun ix => xf_C.lookup ix, fun ix => (xz_C.lookup ix).map .ref, xk_cf xg_C, fun ix => xn_C.lookup ix, fun ix => xa_C.lookup ix, fun _ => none, fun ix => xl_C.lookup ix, fun ix => xm_C.lookup ix, fun ix => xe_C.lookup ix, xct xh_C, xp xq_C)
def xfi_C : List (Nat × Nat × Nat) := [(11, 4, 1), (17, 4, 2), (21, 4, 3), (24, 4, 4), (27, 4, 5), (30, 4, 6), (33, 4, 0), (37, 4, 7), (41, 4, 8), (45, 4, 9), (49, 4, 10), (52, 4, 11)]
def xbi_C : mx_Tb := (fun ix => xfi_C.lookup ix, fun ix => (xz_C.lookup ix).map .ref, xk_cf xg_C, fun ix => xn_C.lookup ix, fun ix => xa_C.lookup ix, fun _ => none, fun ix => xl_C.lookup ix, fun ix => xm_C.lookup ix, fun ix => xe_C.lookup ix, xct xh_C, xp xq_C)
def xf_S : List (Nat × Nat × Nat) := [(9, 5, 0), (15, 5, 1)]
def xz_S : List (Nat × Nat) := []
def xg_S : List (Nat × Nat) := []
def xn_S : List (Nat × Nat × List Value × Nat) := []
def xa_S : List (Nat × Nat) := []
def xl_S : List (Nat × Int64) := []
def xm_S : List (Nat × Nat) := []
def xe_S : List (Nat × Nat × Nat) := []
def xh_S : List (Nat × Nat) := []
def xq_S : List (Nat × Nat) := [(14, 6)]
def xb_S : mx_Tb := (fun ix => xf_S.lookup ix, fun ix => (xz_S.lookup ix).map .ref, xk_cf xg_S, fun ix => xn_S.lookup ix, fun ix => xa_S.lookup ix, fun _ => none, fun ix => xl_S.lookup ix, fun ix => xm_S.lookup ix, fun ix => xe_S.lookup ix, xct xh_S, xp xq_S)
def xfi_S : List (Nat × Nat × Nat) := [(9, 5, 0), (15, 5, 1)]
def xbi_S : mx_Tb := (fun ix => xfi_S.lookup ix, fun ix => (xz_S.lookup ix).map .ref, xk_cf xg_S, fun ix => xn_S.lookup ix, fun ix => xa_S.lookup ix, fun _ => none, fun ix => xl_S.lookup ix, fun ix => xm_S.lookup ix, fun ix => xe_S.lookup ix, xct xh_S, xp xq_S)
def xf_M : List (Nat × Nat × Nat) := [(12, 6, 1), (18, 6, 2), (21, 6, 3), (25, 6, 4), (28, 6, 5), (33, 6, 6), (37, 6, 7), (40, 6, 0), (44, 6, 10), (48, 6, 11), (51, 6, 12), (54, 6, 13), (57, 5, 1), (60, 6, 8), (80, 3, 2), (89, 3, 4), (95, 3, 3), (98, 3, 5), (109, 3, 1)]
def xz_M : List (Nat × Nat) := [(71, 1048636), (77, 1048631), (124, 1048634), (160, 1048579), (164, 1048580), (167, 1048635), (174, 1048638), (200, 1048607), (203, 1048608)]
def xg_M : List (Nat × Nat) := [(84, 2), (110, 3), (127, 1)]
def xn_M : List (Nat × Nat × List Value × Nat) := [(9, 5, [.null, .int 0], 2)]
def xa_M : List (Nat × Nat) := [(31, 4)]
def xl_M : List (Nat × Int64) := []
def xm_M : List (Nat × Nat) := [(11, 5), (63, 24), (67, 25), (91, 45), (100, 46), (120, 26), (130, 27), (134, 28), (137, 32), (141, 31), (145, 33), (148, 34), (151, 36), (154, 38), (157, 39), (170, 29), (185, 30), (197, 35), (206, 37), (209, 40), (213, 41), (217, 42), (220, 43), (226, 44)]
def xe_M : List (Nat × Nat × Nat) := []
def xh_M : List (Nat × Nat) := []
def xq_M : List (Nat × Nat) := [(14, 6), (413, 4), (456, 0), (716, 2), (729, 3), (757, 5), (772, 1)]
def xb_M : mx_Tb := (fun ix => xf_M.lookup ix, fun ix => (xz_M.lookup ix).map .ref, xk_cf xg_M, fun ix => xn_M.lookup ix, fun ix => xa_M.lookup ix, fun _ => none, fun ix => xl_M.lookup ix, fun ix => xm_M.lookup ix, fun ix => xe_M.lookup ix, xct xh_M, xp xq_M)
def xfi_M : List (Nat × Nat × Nat) := [(12, 6, 1), (18, 6, 2), (21, 6, 3), (25, 6, 4), (28, 6, 5), (33, 6, 6), (37, 6, 7), (40, 6, 0), (44, 6, 10), (48, 6, 11), (51, 6, 12), (54, 6, 13), (60, 6, 8)]
def xbi_M : mx_Tb := (fun ix => xfi_M.lookup ix, fun ix => (xz_M.lookup ix).map .ref, xk_cf xg_M, fun ix => xn_M.lookup ix, fun ix => xa_M.lookup ix, fun _ => none, fun ix => xl_M.lookup ix, fun ix => xm_M.lookup ix, fun ix => xe_M.lookup ix, xct xh_M, xp xq_M)
def xf_W : List (Nat × Nat × Nat) := []
def xz_W : List (Nat × Nat) := [(219, 1048637)]
def xg_W : List (Nat × Nat) := [(194, 0)]
def xn_W : List (Nat × Nat × List Value × Nat) := []
def xa_W : List (Nat × Nat) := []
def xl_W : List (Nat × Int64) := []
def xm_W : List (Nat × Nat) := []
def xe_W : List (Nat × Nat × Nat) := []
def xh_W : List (Nat × Nat) := []
def xq_W : List (Nat × Nat) := []
def xb_W : mx_Tb := (fun ix => xf_W.lookup ix, fun ix => (xz_W.lookup ix).map .ref, xk_cf xg_W, fun ix => xn_W.lookup ix, fun ix => xa_W.lookup ix, fun _ => none, fun ix => xl_W.lookup ix, fun ix => xm_W.lookup ix, fun ix => xe_W.lookup ix, xct xh_W, xp xq_W)
def xfi_W : List (Nat × Nat × Nat) := []
def xbi_W : mx_Tb := (fun ix => xfi_W.lookup ix, fun ix => (xz_W.lookup ix).map .ref, xk_cf xg_W, fun ix => xn_W.lookup ix, fun ix => xa_W.lookup ix, fun _ => none, fun ix => xl_W.lookup ix, fun ix => xm_W.lookup ix, fun ix => xe_W.lookup ix, xct xh_W, xp xq_W)
def xf_R : List (Nat × Nat × Nat) := [(7, 7, 3), (13, 7, 6), (17, 7, 7), (20, 7, 8), (23, 7, 9), (26, 7, 10), (29, 7, 15), (32, 7, 16), (35, 7, 18), (38, 7, 20), (41, 7, 21), (44, 7, 23), (47, 7, 28), (50, 7, 29), (53, 7, 0), (57, 7, 1), (70, 7, 2), (73, 7, 4), (76, 7, 30), (79, 7, 31), (188, 7, 5), (191, 7, 17), (205, 7, 19), (208, 7, 22), (231, 7, 24), (248, 7, 27), (255, 7, 25), (267, 7, 26), (273, 7, 13), (282, 7, 14), (308, 7, 12), (338, 7, 11)]
def xz_R : List (Nat × Nat) := []
def xg_R : List (Nat × Nat) := []
def xn_R : List (Nat × Nat × List Value × Nat) := []
def xa_R : List (Nat × Nat) := []
def xl_R : List (Nat × Int64) := [(68, 255), (82, 43), (84, 45), (86, 42), (88, 4279876), (90, 20306), (92, 5787474), (94, 5065038), (96, 5063000), (98, 47), (100, 5066564), (102, 60), (104, 61), (106, 62), (108, 86059455173701), (110, 80600803660372), (112, 4276819), (114, 12587), (116, 12349), (118, 12348), (120, 4478288), (122, 1146244944), (124, 1398227280), (126, 1331053906), (128, 5394260), (130, 5130576), (132, 1414873931), (134, 843339088), (136, 215894609744), (138, 293220668488), (140, 64), (142, 33), (144, 11041), (146, 15954), (148, 21054), (150, 21056), (152, 46), (154, 58), (156, 6215339435328949317), (158, 4850181443504131668), (160, 59), (162, 1163413844), (164, 23157103586857797), (166, 18758), (168, 1162629957), (170, 1414022478), (172, 284630141262), (174, 366386366796), (176, 280368335182), (178, 374874917957), (180, 90457652937044), (182, 17487), (184, 1280266064), (186, 73)]
def xm_R : List (Nat × Nat) := [(60, 82), (64, 83), (194, 113), (198, 112), (202, 92), (211, 114), (215, 115), (219, 116), (222, 117), (225, 118), (228, 119), (234, 95), (237, 110), (241, 96), (244, 111), (251, 106), (258, 107), (261, 109), (264, 120), (270, 108), (276, 93), (279, 94), (285, 91), (288, 98), (291, 99), (295, 100), (298, 88), (302, 89), (305, 90), (312, 97), (315, 101), (318, 102), (321, 103), (324, 85), (327, 86), (331, 123), (335, 122), (341, 124), (345, 105), (348, 121), (351, 87), (354, 104)]
def xe_R : List (Nat × Nat × Nat) := []
def xh_R : List (Nat × Nat) := []
def xq_R : List (Nat × Nat) := [(6, 6)]
def xb_R : mx_Tb := (fun ix => xf_R.lookup ix, fun ix => (xz_R.lookup ix).map .ref, xk_cf xg_R, fun ix => xn_R.lookup ix, fun ix => xa_R.lookup ix, fun _ => none, fun ix => xl_R.lookup ix, fun ix => xm_R.lookup ix, fun ix => xe_R.lookup ix, xct xh_R, xp xq_R)
def xfi_R : List (Nat × Nat × Nat) := [(7, 7, 3), (13, 7, 6), (17, 7, 7), (20, 7, 8), (23, 7, 9), (26, 7, 10), (29, 7, 15), (32, 7, 16), (35, 7, 18), (38, 7, 20), (41, 7, 21), (44, 7, 23), (47, 7, 28), (50, 7, 29), (53, 7, 0), (57, 7, 1), (70, 7, 2), (73, 7, 4), (76, 7, 30), (79, 7, 31), (188, 7, 5), (191, 7, 17), (205, 7, 19), (208, 7, 22), (231, 7, 24), (248, 7, 27), (255, 7, 25), (267, 7, 26), (273, 7, 13), (282, 7, 14), (308, 7, 12), (338, 7, 11)]
def xbi_R : mx_Tb := (fun ix => xfi_R.lookup ix, fun ix => (xz_R.lookup ix).map .ref, xk_cf xg_R, fun ix => xn_R.lookup ix, fun ix => xa_R.lookup ix, fun _ => none, fun ix => xl_R.lookup ix, fun ix => xm_R.lookup ix, fun ix => xe_R.lookup ix, xct xh_R, xp xq_R)
abbrev xN (c n d : String) : MethodName := ⟨c, n, d⟩
def xi_F_init : mx_I := (xN "StackForth" "<init>" "()V", prog_1_method_1_code, 1, none, xbi_F, xt_F_init, true, 2, 1, 0, [])
def xi_T_init : mx_I := (xN "StackForth$Text" "<init>" "()V", prog_9_method_1_code, 1, none, xbi_T, xt_T_init, true, 2, 1, 1, [])
def xi_D_init : mx_I := (xN "StackForth$Dictionary" "<init>" "()V", prog_5_method_1_code, 1, none, xbi_D, xt_D_init, true, 2, 1, 2, [])
def xi_C_init : mx_I := (xN "StackForth$Compiler" "<init>" "(LStackForth$Dictionary;)V", prog_3_method_1_code, 2, none, xbi_C, xt_C_init, true, 2, 2, 4, [])
def xi_M_init : mx_I := (xN "StackForth$Machine" "<init>" "(LStackForth$Dictionary;)V", prog_7_method_1_code, 2, none, xbi_M, xt_M_init, true, 2, 2, 6, [])
def xi_S_init : mx_I := (xN "StackForth$Stack" "<init>" "()V", prog_8_method_1_code, 1, none, xbi_S, xt_S_init, true, 2, 1, 5, [])
def xi_F_compiling : mx_I := (xN "StackForth" "compiling" "()Z", prog_1_method_4_code, 1, (some .boolean), xb_F, xt_F_compiling, false, 1, 1, 0, [])
def xi_F_depth : mx_I := (xN "StackForth" "depth" "()I", prog_1_method_5_code, 1, (some .int), xb_F, xt_F_depth, false, 1, 1, 0, [])
def xi_F_said : mx_I := (xN "StackForth" "said" "()I", prog_1_method_8_code, 1, (some .int), xb_F, xt_F_said, false, 1, 1, 0, [])
def xi_F_write : mx_I := (xN "StackForth" "write" "(JI)I", prog_1_method_2_code, 4, (some .int), xb_F, xt_F_write, false, 1, 3, 0, [])
def xi_T_areCharacters : mx_I := (xN "StackForth$Text" "areCharacters" "(JI)Z", prog_9_method_2_code, 5, (some .boolean), xb_T, xt_T_areCharacters, false, 0, 2, 1, [])
def xi_T_byteOf : mx_I := (xN "StackForth$Text" "byteOf" "(JI)I", prog_9_method_3_code, 3, (some .int), xb_T, xt_T_byteOf, false, 0, 2, 1, [])
def xi_T_append : mx_I := (xN "StackForth$Text" "append" "(JI)V", prog_9_method_4_code, 5, none, xb_T, xt_T_append, false, 1, 3, 1, [])
def xi_F_interpret : mx_I := (xN "StackForth" "interpret" "()I", prog_1_method_3_code, 3, (some .int), xb_F, xt_F_interpret, false, 1, 1, 0, [])
def xi_M_beginText : mx_I := (xN "StackForth$Machine" "beginText" "()V", prog_7_method_2_code, 1, none, xb_M, xt_M_beginText, false, 1, 1, 6, [])
def xi_T_nextWord : mx_I := (xN "StackForth$Text" "nextWord" "()Z", prog_9_method_6_code, 1, (some .boolean), xb_T, xt_T_nextWord, false, 1, 1, 1, [])
def xi_F_interpretWord : mx_I := (xN "StackForth" "interpretWord" "()LStackForth$Fault;", prog_1_method_13_code, 5, (some (.object "StackForth$Fault")), xb_F, xt_F_interpretWord, false, 1, 1, 0, [])
def xi_T_key : mx_I := (xN "StackForth$Text" "key" "()J", prog_9_method_8_code, 4, (some .long), xb_T, xt_T_key, false, 1, 1, 1, [])
def xi_D_find : mx_I := (xN "StackForth$Dictionary" "find" "(J)I", prog_5_method_5_code, 4, (some .int), xb_D, xt_D_find, false, 1, 2, 2, [])
def xi_F_compileOrDo : mx_I := (xN "StackForth" "compileOrDo" "(LStackForth$Word;I)LStackForth$Fault;", prog_1_method_14_code, 3, (some (.object "StackForth$Fault")), xb_F, xt_F_compileOrDo, false, 1, 3, 0, [])
def xi_C_add : mx_I := (xN "StackForth$Compiler" "add" "(LStackForth$Word;I)Z", prog_3_method_5_code, 5, (some .boolean), xb_C, xt_C_add, false, 1, 3, 4, [])
def xi_C_storeHeld : mx_I := (xN "StackForth$Compiler" "storeHeld" "()V", prog_3_method_8_code, 1, none, xb_C, xt_C_storeHeld, false, 1, 1, 4, [])
def xi_F_fitting : mx_I := (xN "StackForth" "fitting" "(Z)LStackForth$Fault;", prog_1_method_18_code, 1, (some (.object "StackForth$Fault")), xb_F, xt_F_fitting, false, 0, 1, 0, [])
def xi_M_doWord : mx_I := (xN "StackForth$Machine" "doWord" "(LStackForth$Word;I)LStackForth$Fault;", prog_7_method_5_code, 7, (some (.object "StackForth$Fault")), xb_M, xt_M_doWord, false, 1, 3, 6, [])
def xi_M_takeStep : mx_I := (xN "StackForth$Machine" "takeStep" "()Z", prog_7_method_6_code, 1, (some .boolean), xb_M, xt_M_takeStep, false, 1, 1, 6, [])
def xi_M_perform : mx_I := (xN "StackForth$Machine" "perform" "(LStackForth$Word;I)LStackForth$Fault;", prog_7_method_9_code, 3, (some (.object "StackForth$Fault")), xb_M, xt_M_perform, false, 1, 3, 6, [])
def xi_S_hasRoom : mx_I := (xN "StackForth$Stack" "hasRoom" "(I)Z", prog_8_method_2_code, 2, (some .boolean), xb_S, xt_S_hasRoom, false, 1, 2, 5, [])
def xi_M_performOfTwo : mx_I := (xN "StackForth$Machine" "performOfTwo" "(LStackForth$Word;)LStackForth$Fault;", prog_7_method_10_code, 4, (some (.object "StackForth$Fault")), xb_M, xt_M_performOfTwo, false, 1, 2, 6, [])
def xi_S_pop : mx_I := (xN "StackForth$Stack" "pop" "()I", prog_8_method_4_code, 1, (some .int), xb_S, xt_S_pop, false, 1, 1, 5, [])
def xi_M_ofTwo : mx_I := (xN "StackForth$Machine" "ofTwo" "(LStackForth$Word;II)I", prog_7_method_11_code, 3, (some .int), xb_M, xt_M_ofTwo, false, 0, 3, 6, [])
def xi_M_flag : mx_I := (xN "StackForth$Machine" "flag" "(Z)I", prog_7_method_13_code, 1, (some .int), xb_M, xt_M_flag, false, 0, 1, 6, [])
def xi_S_push : mx_I := (xN "StackForth$Stack" "push" "(I)V", prog_8_method_3_code, 2, none, xb_S, xt_S_push, false, 1, 2, 5, [])
def xi_M_ofOne : mx_I := (xN "StackForth$Machine" "ofOne" "(LStackForth$Word;I)I", prog_7_method_12_code, 2, (some .int), xb_M, xt_M_ofOne, false, 0, 2, 6, [])
def xi_M_move : mx_I := (xN "StackForth$Machine" "move" "(LStackForth$Word;)LStackForth$Fault;", prog_7_method_14_code, 3, (some (.object "StackForth$Fault")), xb_M, xt_M_move, false, 1, 2, 6, [])
def xi_M_useCell : mx_I := (xN "StackForth$Machine" "useCell" "(LStackForth$Word;I)LStackForth$Fault;", prog_7_method_15_code, 3, (some (.object "StackForth$Fault")), xb_M, xt_M_useCell, false, 1, 3, 6, [])
def xi_M_isCell : mx_I := (xN "StackForth$Machine" "isCell" "(I)Z", prog_7_method_4_code, 1, (some .boolean), xb_M, xt_M_isCell, false, 0, 1, 6, [])
def xi_M_useReturns : mx_I := (xN "StackForth$Machine" "useReturns" "(LStackForth$Word;)LStackForth$Fault;", prog_7_method_16_code, 2, (some (.object "StackForth$Fault")), xb_M, xt_M_useReturns, false, 1, 2, 6, [])
def xi_S_fromTop : mx_I := (xN "StackForth$Stack" "fromTop" "(I)I", prog_8_method_5_code, 2, (some .int), xb_S, xt_S_fromTop, false, 1, 2, 5, [])
def xi_M_put : mx_I := (xN "StackForth$Machine" "put" "(LStackForth$Word;I)LStackForth$Fault;", prog_7_method_17_code, 3, (some (.object "StackForth$Fault")), xb_M, xt_M_put, false, 1, 3, 6, [])
def xi_M_control : mx_I := (xN "StackForth$Machine" "control" "(LStackForth$Word;I)LStackForth$Fault;", prog_7_method_18_code, 3, (some (.object "StackForth$Fault")), xb_M, xt_M_control, false, 1, 3, 6, [])
def xi_M_goOnAt : mx_I := (xN "StackForth$Machine" "goOnAt" "(I)LStackForth$Fault;", prog_7_method_19_code, 2, (some (.object "StackForth$Fault")), xb_M, xt_M_goOnAt, false, 1, 2, 6, [])
def xi_M_beginLoop : mx_I := (xN "StackForth$Machine" "beginLoop" "()LStackForth$Fault;", prog_7_method_20_code, 2, (some (.object "StackForth$Fault")), xb_M, xt_M_beginLoop, false, 1, 1, 6, [])
def xi_M_endLoop : mx_I := (xN "StackForth$Machine" "endLoop" "(I)LStackForth$Fault;", prog_7_method_21_code, 3, (some (.object "StackForth$Fault")), xb_M, xt_M_endLoop, false, 1, 2, 6, [])
def xi_D_at : mx_I := (xN "StackForth$Dictionary" "at" "(I)LStackForth$Definition;", prog_5_method_4_code, 2, (some (.object "StackForth$Definition")), xb_D, xt_D_at, false, 1, 2, 2, [])
def xi_M_enter : mx_I := (xN "StackForth$Machine" "enter" "(LStackForth$Definition;)LStackForth$Fault;", prog_7_method_22_code, 2, (some (.object "StackForth$Fault")), xb_M, xt_M_enter, false, 1, 2, 6, [])
def xi_M_countLoads : mx_I := (xN "StackForth$Machine" "countLoads" "(II)V", prog_7_method_7_code, 4, none, xb_M, xt_M_countLoads, false, 1, 3, 6, [])
def xi_M_leaveWhatEnded : mx_I := (xN "StackForth$Machine" "leaveWhatEnded" "()V", prog_7_method_8_code, 1, none, xb_M, xt_M_leaveWhatEnded, false, 1, 1, 6, [])
def xi_W_withKey : mx_I := (xN "StackForth$Word" "withKey" "(J)LStackForth$Word;", prog_10_method_5_code, 3, (some (.object "StackForth$Word")), xb_W, xt_W_withKey, false, 0, 1, 0, [])
def xi_T_isNumber : mx_I := (xN "StackForth$Text" "isNumber" "()Z", prog_9_method_9_code, 3, (some .boolean), xb_T, xt_T_isNumber, false, 1, 1, 1, [])
def xi_T_firstDigit : mx_I := (xN "StackForth$Text" "firstDigit" "()I", prog_9_method_11_code, 1, (some .int), xb_T, xt_T_firstDigit, false, 1, 1, 1, [])
def xi_T_number : mx_I := (xN "StackForth$Text" "number" "()I", prog_9_method_10_code, 4, (some .int), xb_T, xt_T_number, false, 1, 1, 1, [])
def xi_F_define : mx_I := (xN "StackForth" "define" "(LStackForth$Word;)LStackForth$Fault;", prog_1_method_15_code, 2, (some (.object "StackForth$Fault")), xb_F, xt_F_define, false, 1, 2, 0, [])
def xi_T_isName : mx_I := (xN "StackForth$Text" "isName" "()Z", prog_9_method_7_code, 1, (some .boolean), xb_T, xt_T_isName, false, 1, 1, 1, [])
def xi_D_isFull : mx_I := (xN "StackForth$Dictionary" "isFull" "()Z", prog_5_method_2_code, 1, (some .boolean), xb_D, xt_D_isFull, false, 1, 1, 2, [])
def xi_F_defineVariable : mx_I := (xN "StackForth" "defineVariable" "(J)LStackForth$Fault;", prog_1_method_16_code, 4, (some (.object "StackForth$Fault")), xb_F, xt_F_defineVariable, false, 1, 2, 0, [])
def xi_C_defineNumber : mx_I := (xN "StackForth$Compiler" "defineNumber" "(JI)Z", prog_3_method_4_code, 4, (some .boolean), xb_C, xt_C_defineNumber, false, 1, 3, 4, [])
def xi_C_begin : mx_I := (xN "StackForth$Compiler" "begin" "(J)V", prog_3_method_2_code, 3, none, xb_C, xt_C_begin, false, 1, 2, 4, [])
def xi_C_finish : mx_I := (xN "StackForth$Compiler" "finish" "()Z", prog_3_method_7_code, 1, (some .boolean), xb_C, xt_C_finish, false, 1, 1, 4, [])
def xi_N_init : mx_I := (xN "StackForth$Definition" "<init>" "(JI[LStackForth$Word;[I[I[I)V", prog_4_method_1_code, 9, none, xbi_N, xt_N_init, true, 2, 7, 3, [])
def xi_D_add : mx_I := (xN "StackForth$Dictionary" "add" "(LStackForth$Definition;)V", prog_5_method_3_code, 2, none, xb_D, xt_D_add, false, 1, 2, 2, [])
def xi_F_defineConstant : mx_I := (xN "StackForth" "defineConstant" "(J)LStackForth$Fault;", prog_1_method_17_code, 3, (some (.object "StackForth$Fault")), xb_F, xt_F_defineConstant, false, 1, 2, 0, [])
def xi_C_act : mx_I := (xN "StackForth$Compiler" "act" "(LStackForth$Word;)Z", prog_3_method_6_code, 2, (some .boolean), xb_C, xt_C_act, false, 1, 2, 4, [])
def xi_C_open : mx_I := (xN "StackForth$Compiler" "open" "(LStackForth$Word;I)Z", prog_3_method_9_code, 3, (some .boolean), xb_C, xt_C_open, false, 1, 3, 4, [])
def xi_C_lastOpen : mx_I := (xN "StackForth$Compiler" "lastOpen" "()LStackForth$Word;", prog_3_method_10_code, 1, (some (.object "StackForth$Word")), xb_C, xt_C_lastOpen, false, 1, 1, 4, [])
def xi_C_turnIfToElse : mx_I := (xN "StackForth$Compiler" "turnIfToElse" "()Z", prog_3_method_12_code, 1, (some .boolean), xb_C, xt_C_turnIfToElse, false, 1, 1, 4, [])
def xi_C_closeLast : mx_I := (xN "StackForth$Compiler" "closeLast" "()I", prog_3_method_11_code, 1, (some .int), xb_C, xt_C_closeLast, false, 1, 1, 4, [])
def xi_C_endCondition : mx_I := (xN "StackForth$Compiler" "endCondition" "()Z", prog_3_method_13_code, 1, (some .boolean), xb_C, xt_C_endCondition, false, 1, 1, 4, [])
def xi_C_goBack : mx_I := (xN "StackForth$Compiler" "goBack" "(LStackForth$Word;)Z", prog_3_method_14_code, 2, (some .boolean), xb_C, xt_C_goBack, false, 1, 2, 4, [])
def xi_C_endWhile : mx_I := (xN "StackForth$Compiler" "endWhile" "()Z", prog_3_method_15_code, 3, (some .boolean), xb_C, xt_C_endWhile, false, 1, 1, 4, [])
def xi_T_clear : mx_I := (xN "StackForth$Text" "clear" "()V", prog_9_method_5_code, 1, none, xb_T, xt_T_clear, false, 1, 1, 1, [])
def xi_M_emptyStacks : mx_I := (xN "StackForth$Machine" "emptyStacks" "()V", prog_7_method_3_code, 1, none, xb_M, xt_M_emptyStacks, false, 1, 1, 6, [])
def xi_C_drop : mx_I := (xN "StackForth$Compiler" "drop" "()V", prog_3_method_3_code, 1, none, xb_C, xt_C_drop, false, 1, 1, 4, [])
def xi_F_raise : mx_I := (xN "StackForth" "raise" "(LStackForth$Fault;)V", prog_1_method_12_code, 1, none, xb_F, xt_F_raise, false, 0, 1, 0, [])
def xi_F_top : mx_I := (xN "StackForth" "top" "(I)I", prog_1_method_6_code, 2, (some .int), xb_F, xt_F_top, false, 1, 2, 0, [])
def xi_F_cell : mx_I := (xN "StackForth" "cell" "(I)I", prog_1_method_7_code, 2, (some .int), xb_F, xt_F_cell, false, 1, 2, 0, [])
def xi_F_saying : mx_I := (xN "StackForth" "saying" "(I)I", prog_1_method_9_code, 2, (some .int), xb_F, xt_F_saying, false, 1, 2, 0, [])
def xi_F_definition : mx_I := (xN "StackForth" "definition" "(II)I", prog_1_method_10_code, 4, (some .int), xb_F, xt_F_definition, false, 1, 3, 0, [])
def xi_N_sum : mx_I := (xN "StackForth$Definition" "sum" "([I)I", prog_4_method_2_code, 3, (some .int), xb_N, xt_N_sum, false, 0, 1, 3, [])
def xi_F_count : mx_I := (xN "StackForth" "count" "(I)I", prog_1_method_11_code, 2, (some .int), xb_F, xt_F_count, false, 1, 2, 0, [])
def xi_R_init : mx_I := (xN "StackForthModel" "<init>" "()V", prog_12_method_1_code, 1, none, xbi_R, xt_R_init, true, 2, 1, 7, [])
def xi_R_thrown : mx_I := (xN "StackForthModel" "thrown" "()I", prog_12_method_2_code, 1, (some .int), xb_R, xt_R_thrown, false, 1, 1, 7, [])
def xi_R_write : mx_I := (xN "StackForthModel" "write" "(JI)I", prog_12_method_6_code, 6, (some .int), xb_R, xt_R_write, false, 1, 3, 7, [])
def xi_R_within : mx_I := (xN "StackForthModel" "within" "(III)Z", prog_12_method_4_code, 3, (some .boolean), xb_R, xt_R_within, false, 0, 3, 7, [])
def xi_R_fail : mx_I := (xN "StackForthModel" "fail" "(I)I", prog_12_method_3_code, 2, (some .int), xb_R, xt_R_fail, false, 1, 2, 7, [])
def xi_R_interpret : mx_I := (xN "StackForthModel" "interpret" "()I", prog_12_method_46_code, 5, (some .int), xb_R, xt_R_interpret, false, 1, 1, 7, [])
def xi_R_word : mx_I := (xN "StackForthModel" "word" "()Z", prog_12_method_7_code, 1, (some .boolean), xb_R, xt_R_word, false, 1, 1, 7, [])
def xi_R_packed : mx_I := (xN "StackForthModel" "packed" "()J", prog_12_method_8_code, 4, (some .long), xb_R, xt_R_packed, false, 1, 1, 7, [])
def xi_R_compile : mx_I := (xN "StackForthModel" "compile" "(J)V", prog_12_method_40_code, 5, none, xb_R, xt_R_compile, false, 1, 2, 7, [])
def xi_R_find : mx_I := (xN "StackForthModel" "find" "(J)I", prog_12_method_13_code, 5, (some .int), xb_R, xt_R_find, false, 1, 2, 7, [])
def xi_R_builtIn : mx_I := (xN "StackForthModel" "builtIn" "(J)I", prog_12_method_9_code, 2, (some .int), xb_R, xt_R_builtIn, false, 0, 1, 7, [])
def xi_R_other : mx_I := (xN "StackForthModel" "other" "(J)I", prog_12_method_10_code, 2, (some .int), xb_R, xt_R_other, false, 0, 1, 7, [])
def xi_R_add : mx_I := (xN "StackForthModel" "add" "(II)V", prog_12_method_34_code, 7, none, xb_R, xt_R_add, false, 1, 3, 7, [])
def xi_R_wrong : mx_I := (xN "StackForthModel" "wrong" "(I)V", prog_12_method_5_code, 2, none, xb_R, xt_R_wrong, false, 1, 2, 7, [])
def xi_R_flushes : mx_I := (xN "StackForthModel" "flushes" "(I)Z", prog_12_method_33_code, 1, (some .boolean), xb_R, xt_R_flushes, false, 0, 1, 7, [])
def xi_R_flush : mx_I := (xN "StackForthModel" "flush" "()V", prog_12_method_32_code, 2, none, xb_R, xt_R_flush, false, 1, 1, 7, [])
def xi_R_takes : mx_I := (xN "StackForthModel" "takes" "(I)I", prog_12_method_14_code, 1, (some .int), xb_R, xt_R_takes, false, 0, 1, 7, [])
def xi_R_gives : mx_I := (xN "StackForthModel" "gives" "(I)I", prog_12_method_15_code, 1, (some .int), xb_R, xt_R_gives, false, 0, 1, 7, [])
def xi_R_conditions : mx_I := (xN "StackForthModel" "conditions" "(I)V", prog_12_method_38_code, 3, none, xb_R, xt_R_conditions, false, 1, 2, 7, [])
def xi_R_put : mx_I := (xN "StackForthModel" "put" "(II)V", prog_12_method_35_code, 3, none, xb_R, xt_R_put, false, 1, 3, 7, [])
def xi_R_closes : mx_I := (xN "StackForthModel" "closes" "(II)Z", prog_12_method_36_code, 4, (some .boolean), xb_R, xt_R_closes, false, 1, 3, 7, [])
def xi_R_aim : mx_I := (xN "StackForthModel" "aim" "(I)V", prog_12_method_37_code, 2, none, xb_R, xt_R_aim, false, 1, 2, 7, [])
def xi_R_loops : mx_I := (xN "StackForthModel" "loops" "(I)V", prog_12_method_39_code, 3, none, xb_R, xt_R_loops, false, 1, 2, 7, [])
def xi_R_isNumber : mx_I := (xN "StackForthModel" "isNumber" "()Z", prog_12_method_11_code, 4, (some .boolean), xb_R, xt_R_isNumber, false, 1, 1, 7, [])
def xi_R_number : mx_I := (xN "StackForthModel" "number" "()I", prog_12_method_12_code, 3, (some .int), xb_R, xt_R_number, false, 1, 1, 7, [])
def xi_R_acts : mx_I := (xN "StackForthModel" "acts" "(J)V", prog_12_method_45_code, 5, none, xb_R, xt_R_acts, false, 1, 2, 7, [])
def xi_R_run : mx_I := (xN "StackForthModel" "run" "(I)V", prog_12_method_31_code, 2, none, xb_R, xt_R_run, false, 1, 2, 7, [])
def xi_R_step : mx_I := (xN "StackForthModel" "step" "()Z", prog_12_method_26_code, 1, (some .boolean), xb_R, xt_R_step, false, 1, 1, 7, [])
def xi_R_enter : mx_I := (xN "StackForthModel" "enter" "(I)V", prog_12_method_28_code, 2, none, xb_R, xt_R_enter, false, 1, 2, 7, [])
def xi_R_operate : mx_I := (xN "StackForthModel" "operate" "()V", prog_12_method_30_code, 6, none, xb_R, xt_R_operate, false, 1, 1, 7, [])
def xi_R_perform : mx_I := (xN "StackForthModel" "perform" "(II)V", prog_12_method_27_code, 3, none, xb_R, xt_R_perform, false, 1, 3, 7, [])
def xi_R_fits : mx_I := (xN "StackForthModel" "fits" "(I)Z", prog_12_method_21_code, 3, (some .boolean), xb_R, xt_R_fits, false, 1, 2, 7, [])
def xi_R_does : mx_I := (xN "StackForthModel" "does" "(II)V", prog_12_method_25_code, 5, none, xb_R, xt_R_does, false, 1, 3, 7, [])
def xi_R_push : mx_I := (xN "StackForthModel" "push" "(I)V", prog_12_method_16_code, 2, none, xb_R, xt_R_push, false, 1, 2, 7, [])
def xi_R_pop : mx_I := (xN "StackForthModel" "pop" "()I", prog_12_method_17_code, 1, (some .int), xb_R, xt_R_pop, false, 1, 1, 7, [])
def xi_R_arithmetic : mx_I := (xN "StackForthModel" "arithmetic" "(III)I", prog_12_method_18_code, 3, (some .int), xb_R, xt_R_arithmetic, false, 0, 3, 7, [])
def xi_R_single : mx_I := (xN "StackForthModel" "single" "(II)I", prog_12_method_19_code, 2, (some .int), xb_R, xt_R_single, false, 0, 2, 7, [])
def xi_R_shuffle : mx_I := (xN "StackForthModel" "shuffle" "(I)V", prog_12_method_20_code, 5, none, xb_R, xt_R_shuffle, false, 1, 2, 7, [])
def xi_R_access : mx_I := (xN "StackForthModel" "access" "(I)V", prog_12_method_22_code, 3, none, xb_R, xt_R_access, false, 1, 2, 7, [])
def xi_R_returnStack : mx_I := (xN "StackForthModel" "returnStack" "(I)V", prog_12_method_24_code, 2, none, xb_R, xt_R_returnStack, false, 1, 2, 7, [])
def xi_R_say : mx_I := (xN "StackForthModel" "say" "(I)V", prog_12_method_23_code, 3, none, xb_R, xt_R_say, false, 1, 2, 7, [])
def xi_R_goes : mx_I := (xN "StackForthModel" "goes" "(II)V", prog_12_method_29_code, 5, none, xb_R, xt_R_goes, false, 1, 3, 7, [])
def xi_R_defines : mx_I := (xN "StackForthModel" "defines" "(I)V", prog_12_method_44_code, 4, none, xb_R, xt_R_defines, false, 1, 2, 7, [])
def xi_R_name : mx_I := (xN "StackForthModel" "name" "()J", prog_12_method_41_code, 2, (some .long), xb_R, xt_R_name, false, 1, 1, 7, [])
def xi_R_begin : mx_I := (xN "StackForthModel" "begin" "(J)V", prog_12_method_42_code, 3, none, xb_R, xt_R_begin, false, 1, 2, 7, [])
def xi_R_simple : mx_I := (xN "StackForthModel" "simple" "(JI)V", prog_12_method_43_code, 4, none, xb_R, xt_R_simple, false, 1, 3, 7, [])
def xi_R_compiling : mx_I := (xN "StackForthModel" "compiling" "()Z", prog_12_method_47_code, 1, (some .boolean), xb_R, xt_R_compiling, false, 1, 1, 7, [])
def xi_R_depth : mx_I := (xN "StackForthModel" "depth" "()I", prog_12_method_48_code, 1, (some .int), xb_R, xt_R_depth, false, 1, 1, 7, [])
def xi_R_top : mx_I := (xN "StackForthModel" "top" "(I)I", prog_12_method_49_code, 2, (some .int), xb_R, xt_R_top, false, 1, 2, 7, [])
def xi_R_cell : mx_I := (xN "StackForthModel" "cell" "(I)I", prog_12_method_50_code, 2, (some .int), xb_R, xt_R_cell, false, 1, 2, 7, [])
def xi_R_said : mx_I := (xN "StackForthModel" "said" "()I", prog_12_method_51_code, 1, (some .int), xb_R, xt_R_said, false, 1, 1, 7, [])
def xi_R_saying : mx_I := (xN "StackForthModel" "saying" "(I)I", prog_12_method_52_code, 2, (some .int), xb_R, xt_R_saying, false, 1, 2, 7, [])
def xi_R_definition : mx_I := (xN "StackForthModel" "definition" "(II)I", prog_12_method_53_code, 5, (some .int), xb_R, xt_R_definition, false, 1, 3, 7, [])
def xi_R_count : mx_I := (xN "StackForthModel" "count" "(I)I", prog_12_method_54_code, 2, (some .int), xb_R, xt_R_count, false, 1, 2, 7, [])
def xi_L_write : mx_I := (xN "StackForthLaw" "write" "(LStackForth;JI[J)I", method_3_code, 6, (some .int), xb_L, xt_L_write, false, 0, 4, 0, [(0, 11, 14, 13), (0, 11, 18, 15)])
def xi_L_interpret : mx_I := (xN "StackForthLaw" "interpret" "(LStackForth;[J)I", method_4_code, 3, (some .int), xb_L, xt_L_interpret, false, 0, 2, 0, [(0, 8, 11, 21), (0, 8, 14, 13), (0, 8, 17, 15), (0, 8, 20, 23), (0, 8, 23, 25)])
def xi_L_top : mx_I := (xN "StackForthLaw" "top" "(LStackForth;I[J)I", method_5_code, 4, (some .int), xb_L, xt_L_top, false, 0, 3, 0, [(0, 9, 12, 31)])
def xi_L_cell : mx_I := (xN "StackForthLaw" "cell" "(LStackForth;I[J)I", method_6_code, 4, (some .int), xb_L, xt_L_cell, false, 0, 3, 0, [(0, 9, 12, 31)])
def xi_L_saying : mx_I := (xN "StackForthLaw" "saying" "(LStackForth;I[J)I", method_7_code, 4, (some .int), xb_L, xt_L_saying, false, 0, 3, 0, [(0, 9, 12, 31)])
def xi_L_definition : mx_I := (xN "StackForthLaw" "definition" "(LStackForth;II[J)I", method_8_code, 5, (some .int), xb_L, xt_L_definition, false, 0, 4, 0, [(0, 10, 13, 31)])
def xi_L_count : mx_I := (xN "StackForthLaw" "count" "(LStackForth;I[J)I", method_9_code, 4, (some .int), xb_L, xt_L_count, false, 0, 3, 0, [(0, 9, 12, 31)])
def xi_L_law : mx_I := (xN "StackForthLaw" "law" "([I)Z", code, 7, (some .boolean), xb_L, xt_L_law, false, 0, 1, 0, [])
def xmi : List mx_I := [xi_F_init, xi_T_init, xi_D_init, xi_C_init, xi_M_init, xi_S_init, xi_F_compiling, xi_F_depth, xi_F_said, xi_F_write, xi_T_areCharacters, xi_T_byteOf, xi_T_append, xi_F_interpret, xi_M_beginText, xi_T_nextWord, xi_F_interpretWord, xi_T_key, xi_D_find, xi_F_compileOrDo, xi_C_add, xi_C_storeHeld, xi_F_fitting, xi_M_doWord, xi_M_takeStep, xi_M_perform, xi_S_hasRoom, xi_M_performOfTwo, xi_S_pop, xi_M_ofTwo, xi_M_flag, xi_S_push, xi_M_ofOne, xi_M_move, xi_M_useCell, xi_M_isCell, xi_M_useReturns, xi_S_fromTop, xi_M_put, xi_M_control, xi_M_goOnAt, xi_M_beginLoop, xi_M_endLoop, xi_D_at, xi_M_enter, xi_M_countLoads, xi_M_leaveWhatEnded, xi_W_withKey, xi_T_isNumber, xi_T_firstDigit, xi_T_number, xi_F_define, xi_T_isName, xi_D_isFull, xi_F_defineVariable, xi_C_defineNumber, xi_C_begin, xi_C_finish, xi_N_init, xi_D_add, xi_F_defineConstant, xi_C_act, xi_C_open, xi_C_lastOpen, xi_C_turnIfToElse, xi_C_closeLast, xi_C_endCondition, xi_C_goBack, xi_C_endWhile, xi_T_clear, xi_M_emptyStacks, xi_C_drop, xi_F_raise, xi_F_top, xi_F_cell, xi_F_saying, xi_F_definition, xi_N_sum, xi_F_count, xi_R_init, xi_R_thrown, xi_R_write, xi_R_within, xi_R_fail, xi_R_interpret, xi_R_word, xi_R_packed, xi_R_compile, xi_R_find, xi_R_builtIn, xi_R_other, xi_R_add, xi_R_wrong, xi_R_flushes, xi_R_flush, xi_R_takes, xi_R_gives, xi_R_conditions, xi_R_put, xi_R_closes, xi_R_aim, xi_R_loops, xi_R_isNumber, xi_R_number, xi_R_acts, xi_R_run, xi_R_step, xi_R_enter, xi_R_operate, xi_R_perform, xi_R_fits, xi_R_does, xi_R_push, xi_R_pop, xi_R_arithmetic, xi_R_single, xi_R_shuffle, xi_R_access, xi_R_returnStack, xi_R_say, xi_R_goes, xi_R_defines, xi_R_name, xi_R_begin, xi_R_simple, xi_R_compiling, xi_R_depth, xi_R_top, xi_R_cell, xi_R_said, xi_R_saying, xi_R_definition, xi_R_count, xi_L_write, xi_L_interpret, xi_L_top, xi_L_cell, xi_L_saying, xi_L_definition, xi_L_count]
def xMi (y : Nat) : Option mx_I := xmi[y]?
