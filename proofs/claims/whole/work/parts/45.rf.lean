/-! the return stack, and what puts -/
section RG
variable {w : Nat} {n v : Int32} {C : xC} {M : xM} {Q : Nat → xC → Prop}
theorem rs4 (hw0 : 31 ≤ w) (hw : w < 35) (hS : rS C M) (hW : rW C M) (hb : M.1 1 = 0) (hQ : ∀ f C', (∀ Q' : xM → Prop, (∀ M', rP w C M C' f M' → Q' M') → w_R_perform (rcd w) v M Q') → Q f C') : w_M_perform w n C Q := by
  obtain ⟨s1, s2, s3, s4, s5, s6⟩ := hS
  have T : xwK w = 4 ∧ (w = 31 ∧ rcd w = 33 ∧ xwT w = 1 ∧ xwL w = 0 ∨ w = 32 ∧ rcd w = 34 ∧ xwT w = 0 ∧ xwL w = 1 ∨ (w = 33 ∨ w = 34) ∧ rcd w = 35 ∧ xwT w = 0 ∧ xwL w = 1) := (by decide : ∀ w, w < 35 → 31 ≤ w → xwK w = 4 ∧ (w = 31 ∧ rcd w = 33 ∧ xwT w = 1 ∧ xwL w = 0 ∨ w = 32 ∧ rcd w = 34 ∧ xwT w = 0 ∧ xwL w = 1 ∨ (w = 33 ∨ w = 34) ∧ rcd w = 35 ∧ xwT w = 0 ∧ xwL w = 1)) w hw hw0
  obtain ⟨K, T⟩ := T
  have no : ((rcd w = 33 ∧ M.1 10 = 24) ∨ (rcd w ≠ 33 ∧ M.1 10 = 0)) → xwT w ≤ M.1 9 → Q 58 C := fun z c1 => hQ 58 C (fun Q' hq => rpfM_no (b := 3) (by omega) hb s2 c1 (fun Q' h => rftr (by omega) hb s2 s5 (fun z1 z2 => by
      rcases z with ⟨z, z3⟩ | ⟨z, z3⟩
      · have := z1 z; omega
      · have := z2 z; omega) (fun _ => h)) (hq _ (rP_no hW (rfC_rf C) rfl (by decide))))
  have yes : ((rcd w = 33 → M.1 10 < 24) ∧ (rcd w ≠ 33 → 0 < M.1 10)) → xwT w ≤ M.1 9 → M.1 9 - xwT w + xwL w ≤ 24 → ∀ C', (∀ Q' : xM → Prop, (∀ M', rP w C M C' 55 M' → Q' M') → w_R_returnStack (rcd w) M Q') → Q 55 C' := fun z c1 c2 C' h => hQ 55 C' (fun Q0 hq => rpfM_ok (by omega) hb s2 c1 (fun Q' h => rftr (by omega) hb s2 s5 (fun _ _ => h) (fun z1 => by
      rcases z1 with ⟨z1, z3⟩ | ⟨z1, z3⟩
      · have := z.1 z1; omega
      · have := z.2 z1; omega)) (fun q => by omega) (fun _ => by
    unfold w_R_does
    exact ⟨by omega, fun q => by omega, fun _ => ⟨by omega, fun _ => ⟨by omega, fun _ => ⟨by omega, fun _ => ⟨by omega, fun q => by omega, fun _ => ⟨by omega, fun _ => ⟨by omega, fun q => by omega, fun _ => h Q0 hq⟩, fun q => by omega⟩⟩, fun q => by omega⟩, fun q => by omega⟩, fun q => by omega⟩⟩))
  refine rpfC (by omega) (by omega) (fun c => hQ 58 C (fun Q' hq => rpfM_few (by omega) hb s2 (by omega) (hq _ (rP_no hW (rfC_rf C) rfl (by decide))))) (fun c1 c2 => ?_) (fun c1 c2 => ⟨fun q => by omega, fun q => by omega, fun q => by omega, fun q => by omega, fun _ => ?_, fun q => by omega, fun q => by omega⟩)
  · by_cases z : M.1 10 = 0
    · exact no (by omega) (by omega)
    · exact hQ 58 C (fun Q' hq => rpfM_ok (by omega) hb s2 (by omega) (fun Q' h => rftr (by omega) hb s2 s5 (fun _ _ => h) (fun z1 => by omega)) (fun _ => hq _ (rP_no hW (rfC_rf C) rfl (by decide))) (fun q => by omega))
  unfold w_M_useReturns
  refine ⟨by omega, fun q => ?_, fun q => ⟨by omega, fun z => no (by omega) (by omega), fun z => ⟨by omega, fun q2 => ?_, fun q2 => ?_⟩⟩⟩
  · unfold w_S_hasRoom_1
    refine ⟨by omega, by decide, fun z => ⟨by decide, fun _ => no (by omega) (by omega), fun q => absurd rfl q⟩, fun z => ⟨by decide, fun q => absurd q (by decide), fun _ => ?_⟩⟩
    have t1 : C.2.2.1 1 (C.1 9 - 1) = M.2.2.1 1 (M.1 9 - 1) := by rw [s1]; exact s3 _ (by omega)
    refine ⟨by omega, by omega, (show C.1 10 < 24 by omega), yes (by omega) (by omega) (by omega) _ (fun Q' hq => ?_)⟩
    unfold w_R_returnStack
    refine ⟨by omega, fun _ => ⟨by omega, by omega, (show M.1 10 < 24 by omega), ?_⟩, fun q => by omega⟩
    refine hq _ (rP_ok hW ⟨?_, ?_, fun i hi => ?_, ?_, ?_, fun i hi => ?_⟩ ⟨fun i h1 h2 h3 => by simp [cN, cA, xu, h1, h2], rfl, rfl, rfl⟩ ⟨fun i h0 h1 h2 h3 => by simp [dN, dA, xu, h1, h2], rfl, rfl, rfl⟩ hb (Nat.le_succ _) (by show M.1 9 - 1 + xwT w = M.1 9 + xwL w; omega) (by omega))
    · show C.1 9 - 1 = M.1 9 - 1; omega
    · show M.1 9 - 1 ≤ 24; omega
    · have hi : i < M.1 9 - 1 := hi
      exact s3 i (by omega)
    · show C.1 10 + 1 = M.1 10 + 1; omega
    · show M.1 10 + 1 ≤ 24; omega
    · have hi : i < M.1 10 + 1 := hi
      show xu (C.2.2.1 2) (C.1 10) (C.2.2.1 1 (C.1 9 - 1)) i = xu (M.2.2.1 2) (M.1 10) (M.2.2.1 1 (M.1 9 - 1)) i
      rw [t1, s4]
      unfold xu
      split
      · rfl
      · exact s6 i (by omega)
  · have t1 : C.2.2.1 2 (C.1 10 - 1) = M.2.2.1 2 (M.1 10 - 1) := by rw [s4]; exact s6 _ (by omega)
    refine ⟨by omega, by omega, (show C.1 9 < 24 by omega), yes (by omega) (by omega) (by omega) _ (fun Q' hq => ?_)⟩
    unfold w_R_returnStack
    refine ⟨by omega, fun q => by omega, fun _ => ⟨by omega, by omega, (show M.1 9 < 32 by omega), by omega, fun _ => ⟨(show 1 ≤ M.1 10 by omega), ?_⟩, fun q => by omega⟩⟩
    refine hq _ (rP_ok hW ⟨?_, ?_, fun i hi => ?_, ?_, ?_, fun i hi => ?_⟩ ⟨fun i h1 h2 h3 => by simp [cN, cA, xu, h1, h2], rfl, rfl, rfl⟩ ⟨fun i h0 h1 h2 h3 => by simp [dN, dA, xu, h1, h2], rfl, rfl, rfl⟩ hb (Nat.le_succ _) (by show M.1 9 + 1 + xwT w = M.1 9 + xwL w; omega) (by omega))
    · show C.1 9 + 1 = M.1 9 + 1; omega
    · show M.1 9 + 1 ≤ 24; omega
    · have hi : i < M.1 9 + 1 := hi
      show xu (C.2.2.1 1) (C.1 9) (C.2.2.1 2 (C.1 10 - 1)) i = xu (M.2.2.1 1) (M.1 9) (M.2.2.1 2 (M.1 10 - 1)) i
      rw [t1, s1]
      unfold xu
      split
      · rfl
      · exact s3 i (by omega)
    · show C.1 10 - 1 = M.1 10 - 1; omega
    · show M.1 10 - 1 ≤ 24; omega
    · have hi : i < M.1 10 - 1 := hi
      exact s6 i (by omega)
  · have t1 : C.2.2.1 2 (C.1 10 - (1 + 0)) = M.2.2.1 2 (M.1 10 - 1) := by rw [s4]; exact s6 _ (by omega)
    refine ⟨by omega, by omega, (show C.1 9 < 24 by omega), yes (by omega) (by omega) (by omega) _ (fun Q' hq => ?_)⟩
    unfold w_R_returnStack
    refine ⟨by omega, fun q => by omega, fun _ => ⟨by omega, by omega, (show M.1 9 < 32 by omega), by omega, fun q => by omega, fun _ => ⟨Nat.zero_le _, ?_⟩⟩⟩
    refine hq _ (rP_ok hW ⟨?_, ?_, fun i hi => ?_, ?_, ?_, fun i hi => ?_⟩ ⟨fun i h1 h2 h3 => by simp [cN, cA, xu, h1], rfl, rfl, rfl⟩ ⟨fun i h0 h1 h2 h3 => by simp [dN, dA, xu, h1, h2], rfl, rfl, rfl⟩ hb (Nat.le_succ _) (by show M.1 9 + 1 + xwT w = M.1 9 + xwL w; omega) (by omega))
    · show C.1 9 + 1 = M.1 9 + 1; omega
    · show M.1 9 + 1 ≤ 24; omega
    · have hi : i < M.1 9 + 1 := hi
      show xu (C.2.2.1 1) (C.1 9) (C.2.2.1 2 (C.1 10 - (1 + 0))) i = xu (M.2.2.1 1) (M.1 9) (M.2.2.1 2 (M.1 10 - 1)) i
      rw [t1, s1]
      unfold xu
      split
      · rfl
      · exact s3 i (by omega)
    · show C.1 10 = M.1 10 - 0; omega
    · show M.1 10 - 0 ≤ 24; omega
    · have hi : i < M.1 10 - 0 := hi
      exact s6 i (by omega)
/-- the row of said numbers, shifted behind place j -/
def rsh (f : Nat → Int32) (j : Nat) : Nat → Int32 := fun k => if j < k ∧ k < 40 then f (k - 1) else f k
def dS (M : xM) (g : Nat → Int32) : xM := (M.1, M.2.1, (fun k => if k = 4 then g else M.2.2.1 k), M.2.2.2)
theorem rsay_l {M : xM} {Q : xM → Prop} {v : Int32} (h : Q (dN (dA (dS M (rsh (M.2.2.1 4) 0)) 4 0 v) 11 (M.1 11 + 1))) : ∀ j, j ≤ 39 → w_R_say_3 (j + 1) v j (dS M (rsh (M.2.2.1 4) j)) Q
  | 0, _ => ⟨by decide, fun _ => ⟨by decide, h⟩, fun q => absurd (Nat.le_refl 0) q⟩
  | j + 1, hj => by
    unfold w_R_say_3 wi_R_say_3
    refine ⟨by omega, fun q => by omega, fun _ => ⟨by omega, by omega, by omega, by omega, ?_⟩⟩
    have ih := rsay_l h j (by omega)
    have e : dA (dS M (rsh (M.2.2.1 4) (j + 1))) 4 (j + 1) ((dS M (rsh (M.2.2.1 4) (j + 1))).2.2.1 4 (j + 1 - 1)) = dS M (rsh (M.2.2.1 4) j) := by
      simp only [dA, dS]
      congr 3
      funext k
      by_cases hk : k = 4
      · subst hk
        funext i
        simp only [xu2, xu, rsh, if_true]
        by_cases hi : i = j + 1
        · subst hi
          rw [if_pos rfl, if_neg (by omega), if_pos (by omega)]
        · simp only [hi, if_false]
          by_cases h2 : j + 1 < i ∧ i < 40
          · rw [if_pos h2, if_pos (by omega)]
          · rw [if_neg h2, if_neg (by omega)]
      · simp [hk, xu2]
    rw [e]
    exact ih
theorem rsay {M : xM} {Q : xM → Prop} {v : Int32} (h : Q (dN (dA (dS M (rsh (M.2.2.1 4) 0)) 4 0 v) 11 (M.1 11 + 1))) : w_R_say v M Q := by
  have e : dS M (rsh (M.2.2.1 4) 39) = M := by
    obtain ⟨a, b, c, d⟩ := M
    simp only [dS]
    congr 3
    funext k
    by_cases hk : k = 4
    · subst hk
      funext i
      simp only [rsh, if_true]
      rw [if_neg (by omega)]
    · simp [hk]
  have q := rsay_l h 39 (by decide)
  rw [e] at q
  exact ⟨40, q⟩
theorem rs5 (hw0 : 35 ≤ w) (hw : w < 38) (hS : rS C M) (hW : rW C M) (hb : M.1 1 = 0) (hv : w = 37 → v = n) (hsd : M.1 11 < 2147483648) (hQ : ∀ f C', (∀ Q' : xM → Prop, (∀ M', rP w C M C' f M' → Q' M') → w_R_perform (rcd w) v M Q') → Q f C') : w_M_perform w n C Q := by
  obtain ⟨s1, s2, s3, s4, s5, s6⟩ := hS
  have T : xwK w = 5 ∧ (w = 35 ∧ rcd w = 29 ∧ xwT w = 0 ∧ xwL w = 1 ∧ xwV w = 34 ∨ w = 36 ∧ rcd w = 36 ∧ xwT w = 1 ∧ xwL w = 0 ∧ xwV w = 35 ∨ w = 37 ∧ rcd w = 40 ∧ xwT w = 0 ∧ xwL w = 1 ∧ xwV w = 0) := by
    have h : w = 35 ∨ w = 36 ∨ w = 37 := by omega
    rcases h with h | h | h <;> subst h <;> decide
  obtain ⟨K, T⟩ := T
  have yes : xwT w ≤ M.1 9 → M.1 9 - xwT w + xwL w ≤ 24 → ∀ C', (∀ Q' : xM → Prop, (∀ M', rP w C M C' 55 M' → Q' M') → w_R_does (rcd w) v M Q') → Q 55 C' := fun c1 c2 C' h => hQ 55 C' (fun Q0 hq => rpfM_ok (by omega) hb s2 c1 (fun Q' h => rft0 (by omega) (by omega) hb s2 h) (fun q => by omega) (fun _ => h Q0 hq))
  refine rpfC (by omega) (by omega) (fun c => hQ 58 C (fun Q' hq => rpfM_few (by omega) hb s2 (by omega) (hq _ (rP_no hW (rfC_rf C) rfl (by decide))))) (fun c1 c2 => hQ 58 C (fun Q' hq => rpfM_ok (by omega) hb s2 (by omega) (fun Q' h => rft0 (by omega) (by omega) hb s2 h) (fun _ => hq _ (rP_no hW (rfC_rf C) rfl (by decide))) (fun q => by omega))) (fun c1 c2 => ⟨fun q => by omega, fun q => by omega, fun q => by omega, fun q => by omega, fun q => by omega, fun _ => ?_, fun q => by omega⟩)
  have psh : ∀ x : Int32, C.1 9 < 24 → xwL w = xwT w + 1 → rP w C M (cN (cA C 1 (C.1 9) x) 9 (C.1 9 + 1)) 55 (dN (dA M 1 (M.1 9) x) 9 (M.1 9 + 1)) := fun x hx hx2 => by
    refine rP_ok hW ⟨?_, ?_, fun i hi => ?_, s4, s5, s6⟩ ⟨fun i h1 h2 h3 => by simp [cN, cA, xu, h1], rfl, rfl, rfl⟩ ⟨fun i h0 h1 h2 h3 => by simp [dN, dA, xu, h1], rfl, rfl, rfl⟩ hb (Nat.le_succ _) (by show M.1 9 + 1 + xwT w = M.1 9 + xwL w; omega) (by omega)
    · show C.1 9 + 1 = M.1 9 + 1; omega
    · show M.1 9 + 1 ≤ 24; omega
    · have hi : i < M.1 9 + 1 := hi
      show xu (C.2.2.1 1) (C.1 9) x i = xu (M.2.2.1 1) (M.1 9) x i
      rw [s1]
      unfold xu
      split
      · rfl
      · exact s3 i (by omega)
  unfold w_M_put
  refine ⟨by omega, by omega, by omega, fun q => ?_, fun q => ⟨fun q2 => ?_, fun q2 => ?_⟩⟩
  · refine ⟨by omega, yes (by omega) (by omega) _ (fun Q' hq => ?_)⟩
    unfold w_R_does
    refine ⟨by omega, fun q => by omega, fun _ => ⟨by omega, fun _ => ⟨by omega, fun _ => ⟨by omega, fun _ => ⟨by omega, fun _ => ⟨by omega, ?_⟩, fun q => by omega⟩, fun q => by omega⟩, fun q => by omega⟩, fun q => by omega⟩⟩
    refine hq _ ?_
    rw [s1]
    have := psh (nI (M.1 9)) (by omega) (by omega)
    rw [s1] at this
    exact this
  · have t1 : C.2.2.1 1 (C.1 9 - 1) = M.2.2.1 1 (M.1 9 - 1) := by rw [s1]; exact s3 _ (by omega)
    obtain ⟨w1, w2, w3⟩ := hW
    refine ⟨by omega, by omega, by omega, Nat.mod_lt _ (by decide), yes (by omega) (by omega) _ (fun Q' hq => ?_)⟩
    unfold w_R_does
    refine ⟨by omega, fun q => by omega, fun _ => ⟨by omega, fun _ => ⟨by omega, fun _ => ⟨by omega, fun _ => ⟨by omega, fun q => by omega, fun _ => ⟨by omega, fun _ => ⟨by omega, fun _ => ⟨by omega, by omega, rsay ?_⟩, fun q => by omega⟩, fun q => by omega⟩⟩, fun q => by omega⟩, fun q => by omega⟩, fun q => by omega⟩⟩
    refine hq _ (rP_ok ⟨w1, ?_, fun k hk hk2 => ?_⟩ ⟨?_, ?_, fun i hi => ?_, s4, s5, s6⟩ ⟨fun i h1 h2 h3 => by simp [cN, cA, xu, h1, h3], rfl, rfl, rfl⟩ ⟨fun i h0 h1 h2 h3 => by simp [dN, dA, dS, xu, h1, h3], rfl, rfl, rfl⟩ hb (Nat.le_refl _) (by show M.1 9 - 1 + xwT w = M.1 9 + xwL w; omega) (by omega))
    · show C.1 13 + 1 = M.1 11 + 1; omega
    · have hk2 : k < M.1 11 + 1 := hk2
      show xu (C.2.2.1 4) (C.1 13 % 40) (C.2.2.1 1 (C.1 9 - 1)) ((M.1 11 + 1 - 1 - k) % 40) = xu (rsh (M.2.2.1 4) 0) 0 (M.2.2.1 1 (M.1 9 - 1)) k
      rw [t1, w2]
      unfold xu
      by_cases h0 : k = 0
      · subst h0
        simp
      · rw [if_neg h0, if_neg (by omega)]
        have := w3 (k - 1) (by omega) (by omega)
        rw [show M.1 11 + 1 - 1 - k = M.1 11 - 1 - (k - 1) by omega, this]
        simp only [rsh]
        rw [if_pos (by omega)]
    · show C.1 9 - 1 = M.1 9 - 1; omega
    · show M.1 9 - 1 ≤ 24; omega
    · have hi : i < M.1 9 - 1 := hi
      exact s3 i (by omega)
  · refine ⟨by omega, yes (by omega) (by omega) _ (fun Q' hq => ?_)⟩
    unfold w_R_does
    refine ⟨by omega, fun _ => ⟨by omega, ?_⟩, fun q => by omega⟩
    rw [hv (by omega)]
    exact hq _ (psh n (by omega) (by omega))
/-- every word but those that control -/
theorem rsim (hw : w < 38) (hS : rS C M) (hW : rW C M) (hb : M.1 1 = 0) (hv : w = 37 → v = n) (hsd : M.1 11 < 2147483648) (hQ : ∀ f C', (∀ Q' : xM → Prop, (∀ M', rP w C M C' f M' → Q' M') → w_R_perform (rcd w) v M Q') → Q f C') : w_M_perform w n C Q := by
  by_cases h1 : w < 13
  · exact rs0 h1 hS hW hb hQ
  by_cases h2 : w < 19
  · exact rs1 (by omega) h2 hS hW hb hQ
  by_cases h3 : w < 28
  · exact rs2 (by omega) h3 hS hW hb hQ
  by_cases h4 : w < 31
  · exact rs3 (by omega) h4 hS hW hb hQ
  by_cases h5 : w < 35
  · exact rs4 (by omega) h5 hS hW hb hQ
  · exact rs5 (by omega) hw hS hW hb hv hsd hQ
end RG
