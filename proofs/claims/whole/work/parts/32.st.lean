/-! The class's side of the store: numbers, rows of numbers, rows of ints, the name in work, rows of references, the law's row, the cells behind, the room used. The other object's side: numbers, rows of numbers, rows of ints, names. -/
abbrev xC : Type := (Nat → Nat) × (Nat → Nat → Nat) × (Nat → Nat → Int32) × Int64 × (Nat → Nat → Option Nat) × (Nat → Int64) × mj_S × Nat
abbrev xM : Type := (Nat → Nat) × (Nat → Nat → Nat) × (Nat → Nat → Int32) × (Nat → Int64)
def xu {α : Type} (f : Nat → α) (i : Nat) (v : α) : Nat → α := fun j => if j = i then v else f j
def xu2 {α : Type} (f : Nat → Nat → α) (k i : Nat) (v : α) : Nat → Nat → α := fun j => if j = k then xu (f k) i v else f j
def cN (C : xC) (i v : Nat) : xC := (xu C.1 i v, C.2)
def cB (C : xC) (k i v : Nat) : xC := (C.1, xu2 C.2.1 k i v, C.2.2)
def cA (C : xC) (k i : Nat) (v : Int32) : xC := (C.1, C.2.1, xu2 C.2.2.1 k i v, C.2.2.2)
def cL (C : xC) (v : Int64) : xC := (C.1, C.2.1, C.2.2.1, v, C.2.2.2.2)
def cR (C : xC) (k i : Nat) (v : Option Nat) : xC := (C.1, C.2.1, C.2.2.1, C.2.2.2.1, xu2 C.2.2.2.2.1 k i v, C.2.2.2.2.2)
def cO (C : xC) (i : Nat) (v : Int64) : xC := (C.1, C.2.1, C.2.2.1, C.2.2.2.1, C.2.2.2.2.1, xu C.2.2.2.2.2.1 i v, C.2.2.2.2.2.2)
/-- an exception is made -/
def cX (C : xC) (ci : Nat) : xC := (C.1, C.2.1, C.2.2.1, C.2.2.2.1, C.2.2.2.2.1, C.2.2.2.2.2.1, C.2.2.2.2.2.2.1 ++ [.inr (ci, [])], C.2.2.2.2.2.2.2 + 6)
def dN (M : xM) (i v : Nat) : xM := (xu M.1 i v, M.2)
def dB (M : xM) (k i v : Nat) : xM := (M.1, xu2 M.2.1 k i v, M.2.2)
def dA (M : xM) (k i : Nat) (v : Int32) : xM := (M.1, M.2.1, xu2 M.2.2.1 k i v, M.2.2.2)
def dL (M : xM) (i : Nat) (v : Int64) : xM := (M.1, M.2.1, M.2.2.1, xu M.2.2.2 i v)
def xq (k n : Nat) (f : Nat → Option Nat) : va_E := .inl (k, n, .inr (.inr (.inr (.inr f))))
def xst (C : xC) (M : xM) : mj_S :=
  .inr (0, [.ref 1, .ref 3, .ref 5, .ref 12]) ::
  .inr (1, [.ref 2, .int (nI (C.1 0)), .int (nI (C.1 1)), .int (nI (C.1 2)), .int (nI (C.1 3))]) ::
  .inl (2, 160, .inl (fun j => nI (C.2.1 0 j))) ::
  .inr (2, [.ref 4, .int (nI (C.1 4))]) ::
  .inl (4, 40, .inr (.inr (.inr (.inr (C.2.2.2.2.1 0))))) ::
  .inr (4, [.ref 3, .ref 6, .ref 7, .ref 8, .ref 9, .ref 10, .ref 11, .int (nI (C.1 5)), .long C.2.2.2.1, .int (nI (C.1 6)), .int (nI (C.1 7)), .int (nI (C.1 8))]) ::
  .inl (3, 60, .inr (.inr (.inr (.inr (C.2.2.2.2.1 1))))) ::
  .inl (0, 60, .inl (C.2.2.1 0)) ::
  .inl (0, 60, .inl (fun j => nI (C.2.1 1 j))) ::
  .inl (0, 60, .inl (fun j => nI (C.2.1 2 j))) ::
  .inl (3, 8, .inr (.inr (.inr (.inr (C.2.2.2.2.1 2))))) ::
  .inl (0, 8, .inl (fun j => nI (C.2.1 3 j))) ::
  .inr (6, [.ref 3, .ref 13, .ref 15, .ref 17, .ref 18, .ref 19, .ref 20, .ref 21, .int (nI (C.1 11)), .int (nI (C.1 12)), .int (nI (C.1 13)), .int (nI (C.1 14)), .int (nI (C.1 15)), .int (nI (C.1 16))]) ::
  .inr (5, [.ref 14, .int (nI (C.1 9))]) ::
  .inl (0, 24, .inl (C.2.2.1 1)) ::
  .inr (5, [.ref 16, .int (nI (C.1 10))]) ::
  .inl (0, 24, .inl (C.2.2.1 2)) ::
  .inl (0, 64, .inl (C.2.2.1 3)) ::
  .inl (0, 40, .inl (C.2.2.1 4)) ::
  .inl (0, 3, .inl (C.2.2.1 5)) ::
  .inl (4, 12, .inr (.inr (.inr (.inr (C.2.2.2.2.1 3))))) ::
  .inl (0, 12, .inl (fun j => nI (C.2.1 4 j))) ::
  .inr (7, [.int (nI (M.1 0)), .int (nI (M.1 1)), .int (nI (M.1 2)), .ref 23, .int (nI (M.1 3)), .int (nI (M.1 4)), .ref 24, .ref 25, .ref 26, .ref 27, .ref 28, .int (nI (M.1 5)), .int (nI (M.1 6)), .int (nI (M.1 7)), .int (nI (M.1 8)), .ref 29, .ref 30, .int (nI (M.1 9)), .ref 31, .int (nI (M.1 10)), .ref 32, .ref 33, .int (nI (M.1 11)), .ref 34, .int (nI (M.1 12)), .int (nI (M.1 13)), .int (nI (M.1 14)), .int (nI (M.1 15)), .ref 35, .ref 36, .int (nI (M.1 16)), .int (nI (M.1 17))]) ::
  .inl (0, 160, .inl (fun j => nI (M.2.1 0 j))) ::
  .inl (1, 41, .inr (.inl M.2.2.2)) ::
  .inl (0, 41, .inl (fun j => nI (M.2.1 1 j))) ::
  .inl (0, 2460, .inl (fun j => nI (M.2.1 2 j))) ::
  .inl (0, 2460, .inl (M.2.2.1 0)) ::
  .inl (0, 2460, .inl (fun j => nI (M.2.1 3 j))) ::
  .inl (0, 8, .inl (fun j => nI (M.2.1 4 j))) ::
  .inl (0, 8, .inl (fun j => nI (M.2.1 5 j))) ::
  .inl (0, 32, .inl (M.2.2.1 1)) ::
  .inl (0, 24, .inl (M.2.2.1 2)) ::
  .inl (0, 64, .inl (M.2.2.1 3)) ::
  .inl (0, 40, .inl (M.2.2.1 4)) ::
  .inl (0, 13, .inl (fun j => nI (M.2.1 6 j))) ::
  .inl (0, 13, .inl (fun j => nI (M.2.1 7 j))) ::
  .inl (1, 1, .inr (.inl C.2.2.2.2.2.1)) :: C.2.2.2.2.2.2.1
def xec : xEn xC xM := fun C M => (xst C M, C.2.2.2.2.2.2.2)
def xem : xEn xM xC := fun M C => (xst C M, C.2.2.2.2.2.2.2)
theorem xst_dyn (C : xC) (M : xM) (k : Nat) : (xst C M)[k + 38]? = C.2.2.2.2.2.2.1[k]? := rfl
/-- rows of numbers are rows of ints -/
theorem xu_nI (f : Nat → Nat) (i v : Nat) : upd (fun j => nI (f j)) i (nI v) = fun j => nI (xu f i v j) := by
  funext j
  simp only [upd, xu]
  split <;> rfl
theorem xu_id (f : Nat → Int32) (i : Nat) (v : Int32) : upd f i v = xu f i v := rfl
theorem xq_id (f : Nat → Option Nat) (i : Nat) (v : Option Nat) : va_up f i v = xu f i v := rfl
theorem xl_id (f : Nat → Int64) (i : Nat) (v : Int64) : vp_updL f i v = xu f i v := rfl
theorem xn_c {v : Nat} (h : v < 65536) : vp_nar .char (nI v) = nI v := by
  have h1 : (nI v).toUInt32 = UInt32.ofNat v := rfl
  have h2 : (UInt32.ofNat v).toUInt16.toUInt32 = UInt32.ofNat v := by
    apply UInt32.toNat_inj.mp
    simp
    omega
  simp only [vp_nar, narrow]
  rw [h1, h2]
  rfl
/-- the words: kind, takes, length of what it gives, its letters; the switch's numbers -/
def xwK (w : Nat) : Nat := [0, 0, 0, 0, 0, 0, 0, 0, 0, 0, 0, 0, 0, 1, 1, 1, 1, 1, 1, 2, 2, 2, 2, 2, 2, 2, 2, 2, 3, 3, 3, 4, 4, 4, 4, 5, 5, 5, 6, 6, 6, 6, 7, 7, 7, 7, 7, 7, 7, 7, 8, 8, 9, 9, 9].getD w 0
def xwT (w : Nat) : Nat := [2, 2, 2, 2, 2, 2, 2, 2, 2, 2, 2, 2, 2, 1, 1, 1, 1, 1, 1, 1, 1, 2, 2, 3, 2, 2, 2, 2, 1, 2, 2, 1, 0, 0, 0, 0, 1, 0, 1, 1, 1, 2, 0, 0, 0, 0, 0, 0, 0, 0, 0, 0, 0, 0, 0].getD w 0
def xwG (w : Nat) : Nat := [0, 0, 0, 0, 0, 0, 0, 0, 0, 0, 0, 0, 0, 1, 1, 1, 1, 1, 1, 2, 3, 4, 5, 6, 1, 7, 8, 3, 9, 3, 3, 3, 9, 9, 9, 9, 3, 9, 3, 3, 3, 3, 3, 3, 3, 3, 3, 3, 3, 3, 3, 3, 3, 3, 3].getD w 3
def xwS (g : Nat) : List Nat := [[99], [98], [97, 97], [], [98, 97], [97, 98, 97], [98, 99, 97], [98, 97, 98], [97, 98, 97, 98], [110]].getD g []
def xwL (w : Nat) : Nat := (xwS (xwG w)).length
def xwC (w i : Nat) : Nat := (xwS (xwG w)).getD i 0
def xwV (w : Nat) : Nat := [15, 16, 17, 18, 19, 20, 21, 22, 23, 24, 25, 26, 0, 27, 28, 29, 30, 31, 0, 0, 0, 0, 0, 0, 0, 0, 0, 0, 32, 33, 0, 0, 0, 0, 0, 34, 35, 0, 3, 7, 9, 11, 4, 8, 10, 12, 36, 13, 14, 37, 5, 6, 0, 1, 2].getD w 0
def xwF (w : Nat) : Nat := [0, 1, 2, 3, 4, 0].getD w 0
def xwY (w : Nat) : Int64 := xw_key.getD w 0
theorem xk_cf_e {l : List (Nat × Nat)} {ix k w : Nat} (h : l.lookup ix = some k) : xk_cf l ix (1048576 + w) = xk_wf k w := by
  simp [xk_cf, h]
theorem xwK_e {w : Nat} (h : w < 55) : xk_wf 1 w = some (.int (nI (xwK w))) := by
  have : ∀ w, w < 55 → xw_kind[w]? = some (nI (xwK w)) := by decide
  simp [xk_wf, this w h]
theorem xwT_e {w : Nat} (h : w < 55) : xk_wf 2 w = some (.int (nI (xwT w))) := by
  have : ∀ w, w < 55 → xw_takes[w]? = some (nI (xwT w)) := by decide
  simp [xk_wf, this w h]
theorem xwY_e {w : Nat} (h : w < 55) : xk_wf 0 w = some (.long (xwY w)) := by
  have : ∀ w, w < 55 → xw_key[w]? = some (xwY w) := by decide
  simp [xk_wf, this w h]
theorem xwG_e {w : Nat} (h : w < 55) : xk_wf 3 w = some (.ref (1048641 + xwG w)) := by
  have : ∀ w, w < 55 → xw_gives[w]? = some (xwG w) := by decide
  simp [xk_wf, this w h]
theorem xwL_e {w : Nat} (h : w < 55) : xp_f 0 [.ref (1048641 + xwG w)] = some (.int (nI (xwL w))) := by
  have : ∀ w, w < 55 → xw_str[xwG w]? = some ((xwS (xwG w)).map nI) := by decide
  simp [xp_f, this w h, xwL]
theorem xwC_e {w i : Nat} (h : w < 55) (hi : i < xwL w) : xp_f 1 [.ref (1048641 + xwG w), .int (nI i)] = some (.int (nI (xwC w i))) := by
  have : ∀ w, w < 55 → xw_str[xwG w]? = some ((xwS (xwG w)).map nI) := by decide
  have h4 : ∀ w, w < 55 → xwL w < 5 := by decide
  have h5 := h4 w h
  have hin : mx_inb (nI i) (xwS (xwG w)).length = true := mx_inb_N hi (by show xwL w ≤ _; omega)
  have hi2 : i < (xwS (xwG w)).length := hi
  simp [xp_f, this w h, hin, xt_clamp (i := i) (by omega), xwC, List.getElem?_eq_getElem hi2]
theorem xwV_e {w : Nat} (h : w < 55) : xw_sw.getD w 0 = nI (xwV w) := by
  have : ∀ w, w < 55 → xw_sw.getD w 0 = nI (xwV w) := by decide
  exact this w h
theorem xwF_e {w : Nat} (h : w < 6) : xw_sf.getD w 0 = nI (xwF w) := by
  have : ∀ w, w < 6 → xw_sf.getD w 0 = nI (xwF w) := by decide
  exact this w h
