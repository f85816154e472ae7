/-! a word is compiled: alike -/
section SJ
variable {z0 e : Nat} {C : xC} {M : xM} {Q : Nat → xC → Prop} {P : xM → Prop}
theorem rWk_act {w : Nat} (hk : xwK w = 6 ∨ xwK w = 7 ∨ xwK w = 8) (h5 : C.1 5 = 1) (h : w_C_act w C (fun r27 C26 => (r27 < 2147483648 ∧ ((r27 = 0 → w_F_fitting 0 C26 (fun r31 C30 => Q r31 C30)) ∧ (¬ (r27 = 0) → w_F_fitting 1 C26 (fun r33 C32 => Q r33 C32)))))) : rWk w C Q := by
  have z : C.1 5 < 2147483648 ∧ ((C.1 5 = 0 → w_F_fitting 0 C (fun r25 C24 => Q r25 C24)) ∧ (¬ (C.1 5 = 0) → w_C_act w C (fun r27 C26 => (r27 < 2147483648 ∧ ((r27 = 0 → w_F_fitting 0 C26 (fun r31 C30 => Q r31 C30)) ∧ (¬ (r27 = 0) → w_F_fitting 1 C26 (fun r33 C32 => Q r33 C32))))))) := ⟨by omega, fun q => by omega, fun _ => h⟩
  exact ⟨fun _ => z, fun n6 => ⟨fun _ => z, fun n7 => ⟨fun _ => z, fun n8 => by omega⟩⟩⟩
theorem sK {r : Nat} {C' : xC} (hr : r = 0 ∨ r = 1) (h : Q (if r = 0 then 57 else 55) C') : (r < 2147483648 ∧ ((r = 0 → w_F_fitting 0 C' (fun r31 C30 => Q r31 C30)) ∧ (¬ (r = 0) → w_F_fitting 1 C' (fun r33 C32 => Q r33 C32)))) := by
  rcases hr with rfl | rfl
  · exact ⟨by decide, fun _ => ⟨by decide, fun _ => h, fun z => absurd rfl z⟩, fun z => absurd rfl z⟩
  · exact ⟨by decide, fun z => absurd z (by decide), fun _ => ⟨by decide, fun z => absurd z (by decide), fun _ => h⟩⟩
theorem rU.r {r : Nat} {C' : xC} {M' : xM} (h : rU C M C' r M') : r = 0 ∨ r = 1 := by
  rcases h with ⟨h, _⟩ | ⟨h, _⟩
  · exact Or.inr h
  · exact Or.inl h
theorem rE.r {r : Nat} {C' : xC} {M' : xM} (h : rE C M C' r M') : r = 0 ∨ r = 1 := by
  rcases h with ⟨h, _⟩ | ⟨h, _⟩
  · exact Or.inr h
  · exact Or.inl h
/-- an operation is compiled -/
theorem sadd {w : Nat} {n v : Int32} (hI : rI z0 e C M) (hd : rWd C M) (h6 : M.1 6 = 1) (hw : w < 50) (hw7 : w ≠ 47) (hw8 : w ≠ 48) (hn : ∀ h, rKp C M h → rNn C M h w n v) (hQ : ∀ f C', w_R_add (rcd w) v M (fun M' => rX z0 e C M C' f M') → Q f C') : w_F_compileOrDo w n C Q := by
  have h5 := hI.2.2.2.1.1
  obtain ⟨⟨h, hk⟩, k8, nm⟩ := hI.2.2.2.1.2.2 h6
  have hb := hI.2.2.2.2.1
  unfold w_F_compileOrDo
  refine ⟨by omega, fun z => by omega, fun _ => ?_⟩
  refine rad hk hb hw hw7 hw8 (hn h hk) (fun q hr => ⟨by decide, fun _ => hQ 57 C (hr _ ?_), fun z => absurd rfl z⟩) (fun C' M' h' ha hr => ⟨by decide, fun z => absurd z (by decide), fun _ => hQ 55 C' (hr _ ?_)⟩)
  · exact hI.u (r := 0) hd.2.2.1.symm hd.2.2.2.2.1 h6 (Or.inr ⟨rfl, rhC.rf C, rhM_1 M 2, rfl⟩)
  · have u : rU C M C' 1 M' := by
      obtain ⟨a1, a2, a3, a4, a5, a6, a7, a8, a9, a10, a11, a12, a13, a14, a15, a16, a17, a18⟩ := id ha
      exact Or.inl ⟨rfl, ha.ak, ⟨h', a1⟩, by omega, a6⟩
    exact hI.u (r := 1) hd.2.2.1.symm hd.2.2.2.2.1 h6 u
/-- the other side: which of its branches -/
theorem cw_loops {c : Nat} (h1 : 59 ≤ c) (h2 : c ≤ 65) (h : w_R_loops c M P) : w_R_compile_32 0 (c + 1) M P := by
  unfold w_R_compile_32 w_R_compile_54 w_R_within_ZNN
  exact ⟨by omega, fun q => by omega, fun _ => ⟨by omega, fun _ => ⟨by omega, by omega, by omega, fun q => by omega, fun _ => ⟨by omega, by omega, by omega, fun _ => ⟨by omega, fun _ => ⟨by omega, fun q => by omega, fun _ => ⟨by omega, fun q => by omega, fun _ => ⟨by omega, fun q => by omega, fun _ => ⟨by omega, by omega, by omega, fun q => by omega, fun _ => ⟨by omega, by omega, by omega, fun _ => ⟨by omega, fun _ => ⟨by omega, fun q => by omega, fun _ => ⟨by omega, h⟩⟩, fun q => absurd rfl q⟩, fun q => by omega⟩⟩⟩⟩⟩, fun q => absurd rfl q⟩, fun q => by omega⟩⟩, fun q => by omega⟩⟩
theorem cw_cond {c : Nat} (h1 : 56 ≤ c) (h2 : c ≤ 58) (h : w_R_conditions c M P) : w_R_compile_32 0 (c + 1) M P := by
  unfold w_R_compile_32 w_R_compile_54 w_R_within_ZNN
  exact ⟨by omega, fun q => by omega, fun _ => ⟨by omega, fun _ => ⟨by omega, by omega, by omega, fun q => by omega, fun _ => ⟨by omega, by omega, by omega, fun _ => ⟨by omega, fun _ => ⟨by omega, fun q => by omega, fun _ => ⟨by omega, fun q => by omega, fun _ => ⟨by omega, fun q => by omega, fun _ => ⟨by omega, by omega, by omega, fun q => by omega, fun _ => ⟨by omega, by omega, by omega, fun q => by omega, fun _ => ⟨by omega, fun q => by omega, fun _ => ⟨by omega, h⟩⟩⟩⟩⟩⟩⟩, fun q => absurd rfl q⟩, fun q => by omega⟩⟩, fun q => by omega⟩⟩
theorem cw_exit (h : w_R_add 42 (nI 0) M P) : w_R_compile_32 0 55 M P := by
  unfold w_R_compile_32 w_R_compile_54 w_R_within_ZNN
  exact ⟨by omega, fun q => by omega, fun _ => ⟨by omega, fun _ => ⟨by omega, by omega, by omega, fun q => by omega, fun _ => ⟨by omega, by omega, by omega, fun _ => ⟨by omega, fun _ => ⟨by omega, fun q => by omega, fun _ => ⟨by omega, fun _ => h, fun q => absurd rfl q⟩⟩, fun q => absurd rfl q⟩, fun q => by omega⟩⟩, fun q => by omega⟩⟩
theorem cw_rec (h : w_R_add 41 (nI (M.1 4)) M P) : w_R_compile_32 0 56 M P := by
  unfold w_R_compile_32 w_R_compile_54 w_R_within_ZNN
  exact ⟨by omega, fun q => by omega, fun _ => ⟨by omega, fun _ => ⟨by omega, by omega, by omega, fun q => by omega, fun _ => ⟨by omega, by omega, by omega, fun _ => ⟨by omega, fun _ => ⟨by omega, fun q => by omega, fun _ => ⟨by omega, fun q => by omega, fun _ => ⟨by omega, fun _ => h, fun q => absurd rfl q⟩⟩⟩, fun q => absurd rfl q⟩, fun q => by omega⟩⟩, fun q => by omega⟩⟩
theorem cw_end (h : rWe M P) : w_R_compile_32 0 54 M P := by
  unfold w_R_compile_32 w_R_compile_54 w_R_within_ZNN
  exact ⟨by omega, fun q => by omega, fun _ => ⟨by omega, fun _ => ⟨by omega, by omega, by omega, fun q => by omega, fun _ => ⟨by omega, by omega, by omega, fun _ => ⟨by omega, fun _ => ⟨by omega, fun _ => h, fun q => absurd rfl q⟩, fun q => absurd rfl q⟩, fun q => by omega⟩⟩, fun q => by omega⟩⟩
theorem cw_def {c : Nat} (h1 : 50 ≤ c) (h2 : c ≤ 52) (h : w_R_wrong 2 M P) : w_R_compile_32 0 (c + 1) M P := by
  unfold w_R_compile_32 w_R_compile_54 w_R_within_ZNN
  exact ⟨by omega, fun q => by omega, fun _ => ⟨by omega, fun _ => ⟨by omega, by omega, by omega, fun q => by omega, fun _ => ⟨by omega, by omega, by omega, fun q => by omega, fun _ => ⟨by omega, fun q => by omega, fun _ => h⟩⟩⟩, fun q => by omega⟩⟩
theorem cw_op {c l : Nat} (h1 : 1 ≤ c) (h2 : c < 42) (h : w_R_add c (nI l - nI 1) M P) : w_R_compile_32 l (c + 1) M P := by
  unfold w_R_compile_32
  exact ⟨by omega, fun q => by omega, fun _ => ⟨by omega, fun q => by omega, fun _ => ⟨by omega, h⟩⟩⟩
theorem cw_num (h : w_R_isNumber M (fun r3018 M3017 => (r3018 < 2147483648 ∧ ((r3018 = 0 → w_R_wrong 1 M3017 (fun M3021 => P M3021)) ∧ (¬ (r3018 = 0) → w_R_number M3017 (fun r3023 M3022 => w_R_add 40 r3023 M3022 (fun M3024 => P M3024))))))) : w_R_compile_32 0 0 M P := by
  unfold w_R_compile_32 w_R_compile_54 w_R_within_ZNN
  exact ⟨by omega, fun _ => ⟨by omega, by omega, by omega, fun _ => ⟨by omega, fun _ => ⟨by omega, fun q => by omega, fun _ => ⟨by omega, fun q => by omega, fun _ => ⟨by omega, fun q => by omega, fun _ => ⟨by omega, by omega, by omega, fun _ => ⟨by omega, fun _ => ⟨by omega, fun _ => h, fun q => by omega⟩, fun q => absurd rfl q⟩, fun q => by omega⟩⟩⟩⟩, fun q => absurd rfl q⟩, fun q => by omega⟩, fun q => by omega⟩
theorem scmp (hI : rI z0 e C M) (hd : rWd C M) (h6 : M.1 6 = 1) (he : e ≤ 1000) (hQ : ∀ f C', w_R_compile (rkM (M.2.1 0) (M.1 16) (M.1 17)) M (fun M' => rX z0 e C M C' f M') → Q f C') : w_F_interpretWord C Q := by
  obtain ⟨c1, c2, c3, c4, c5⟩ := hd.ch hI
  have hF := hI.1
  have h5 : C.1 5 = 1 := hI.2.2.2.1.1.trans h6
  obtain ⟨⟨h, hk⟩, k8, nm⟩ := hI.2.2.2.1.2.2 h6
  have hb := hI.2.2.2.2.1
  obtain ⟨H, hDs⟩ := hF.2.2.2.2.1
  have hN := hF.2.2.2.2.2.1
  have h40 := hDs.2.1
  have e4 := hDs.1
  have hle := rfd_le M
  have h17 := hd.2.2.2.1
  have hlen : C.2.2.2.2.2.2.1.length + 43 < 1048576 := by have := hF.2.2.2.2.2.2.1.1; omega
  have hd3 := hd.2.2.1.symm
  have hd5 := hd.2.2.2.2.1
  have wcp : ∀ P : xM → Prop, (1 ≤ rfd M → w_R_compile_32 (rfd M) 42 M P) → (rfd M = 0 → rbo (rkM (M.2.1 0) (M.1 16) (M.1 17)) M (fun r M => w_R_compile_32 0 r M P)) → w_R_compile (rkM (M.2.1 0) (M.1 16) (M.1 17)) M P := fun P a b => by
    unfold w_R_compile
    refine sfdM hF (by omega) ⟨by omega, fun q => ?_, fun q => ⟨fun _ => a (by omega), fun z => absurd (by decide) z⟩⟩
    have q0 : rfd M = 0 := by omega
    have := b q0
    rw [q0]
    exact this
  refine siw hI hd (fun q1 => ?_) (fun q0 w w1 w2 w3 hw => ?_) (fun q0 hno => ⟨fun hu => ?_, fun hu => ?_⟩)
  · refine sadd (v := nI (rfd M) - nI 1) hI hd h6 (by decide) (by decide) (by decide) (fun h hk => ⟨fun _ => rfl, fun _ => ⟨rfd M - 1, by omega, xe_cut (by omega), xe_cut (by omega)⟩, fun _ z => absurd z (by decide)⟩) (fun f C' hr => hQ f C' (wcp _ (fun _ => cw_op (by decide) (by decide) hr) (fun z => by omega)))
  · have wb : ∀ P : xM → Prop, w_R_compile_32 0 (rwc w + 1) M P → w_R_compile (rkM (M.2.1 0) (M.1 16) (M.1 17)) M P := fun P k => wcp P (fun z => by omega) (fun _ => by rw [hw]; exact rbo_w w w1 w2 w3 k)
    have ku : ∀ {r : Nat} {C' : xC} {M' : xM}, rU C M C' r M' → (∀ P : xM → Prop, P M' → w_R_compile_32 0 (rwc w + 1) M P) → (r < 2147483648 ∧ ((r = 0 → w_F_fitting 0 C' (fun r31 C30 => Q r31 C30)) ∧ (¬ (r = 0) → w_F_fitting 1 C' (fun r33 C32 => Q r33 C32)))) := fun {r C' M'} u k => sK u.r (hQ _ C' (wb _ (k _ (hI.u hd3 hd5 h6 u))))
    by_cases a37 : w < 37
    · have e1 : rcd w = rwc w ∧ 1 ≤ rwc w ∧ rwc w < 42 ∧ xwK w < 6 := (by decide : ∀ w, w < 37 → rcd w = rwc w ∧ 1 ≤ rwc w ∧ rwc w < 42 ∧ xwK w < 6) w a37
      refine ⟨fun z => by omega, fun _ => ⟨fun z => by omega, fun _ => ⟨fun z => by omega, fun _ => ⟨fun z => by omega, fun _ => ?_⟩⟩⟩⟩
      refine sadd (v := nI 0 - nI 1) hI hd h6 (by omega) (by omega) (by omega) (fun h hk => ⟨fun z => by omega, fun z => by omega, fun z => by omega⟩) (fun f C' hr => hQ f C' (wb _ (cw_op e1.2.1 e1.2.2.1 (by rw [← e1.1]; exact hr))))
    by_cases a38 : w = 38
    · subst a38
      exact rWk_act (by decide) h5 (sIF hk k8 hb fun r C' M' u k => ku u fun P p => cw_cond (c := 56) (by decide) (by decide) (k P p))
    by_cases a39 : w = 39
    · subst a39
      exact rWk_act (by decide) h5 (sUNTIL hk k8 hb fun r C' M' u k => ku u fun P p => cw_loops (c := 60) (by decide) (by decide) (k P p))
    by_cases a40 : w = 40
    · subst a40
      exact rWk_act (by decide) h5 (sWHILE hk k8 hb fun r C' M' u k => ku u fun P p => cw_loops (c := 62) (by decide) (by decide) (k P p))
    by_cases a41 : w = 41
    · subst a41
      exact rWk_act (by decide) h5 (sDO hk k8 hb fun r C' M' u k => ku u fun P p => cw_loops (c := 64) (by decide) (by decide) (k P p))
    by_cases a42 : w = 42
    · subst a42
      exact rWk_act (by decide) h5 (sELSE hk k8 hb fun r C' M' u k => ku u fun P p => cw_cond (c := 57) (by decide) (by decide) (k P p))
    by_cases a43 : w = 43
    · subst a43
      exact rWk_act (by decide) h5 (sAGAIN hk k8 hb fun r C' M' u k => ku u fun P p => cw_loops (c := 61) (by decide) (by decide) (k P p))
    by_cases a44 : w = 44
    · subst a44
      exact rWk_act (by decide) h5 (sREPEAT hk k8 hb fun r C' M' u k => ku u fun P p => cw_loops (c := 63) (by decide) (by decide) (k P p))
    by_cases a45 : w = 45
    · subst a45
      exact rWk_act (by decide) h5 (sLOOP hk k8 hb fun r C' M' u k => ku u fun P p => cw_loops (c := 65) (by decide) (by decide) (k P p))
    by_cases a46 : w = 46
    · subst a46
      exact rWk_act (by decide) h5 (sEXIT hk k8 hb fun r C' M' u k => ku u fun P p => cw_exit (k P p))
    by_cases a47 : w = 47
    · subst a47
      exact rWk_act (by decide) h5 (sREC hk k8 e4 hb fun r C' M' u k => ku u fun P p => cw_rec (k P p))
    by_cases a48 : w = 48
    · subst a48
      exact rWk_act (by decide) h5 (sEND hk k8 hb hDs hN hlen nm fun r C' M' u k => sK u.r (hQ _ C' (wb _ (cw_end (k _ (hI.ed hd3 hd5 u))))))
    by_cases a50 : w = 50
    · subst a50
      exact rWk_act (by decide) h5 (sTHEN hk k8 hb fun r C' M' u k => ku u fun P p => cw_cond (c := 58) (by decide) (by decide) (k P p))
    by_cases a51 : w = 51
    · subst a51
      exact rWk_act (by decide) h5 (sBEGIN hk k8 hb fun r C' M' u k => ku u fun P p => cw_loops (c := 59) (by decide) (by decide) (k P p))
    have e1 : xwK w = 9 ∧ 50 ≤ rwc w ∧ rwc w ≤ 52 := by
      have : w = 52 ∨ w = 53 ∨ w = 54 := by omega
      rcases this with z | z | z <;> subst z <;> decide
    refine ⟨fun z => by omega, fun _ => ⟨fun z => by omega, fun _ => ⟨fun z => by omega, fun _ => ⟨fun _ => ⟨by omega, fun z => by omega, fun _ => ?_⟩, fun z => by omega⟩⟩⟩⟩
    exact hQ 57 C (wb _ (cw_def e1.2.1 e1.2.2 (rwr hb (hI.f (f := 57) (by omega) (by decide) (by decide)))))
  · refine hQ 56 C (wcp _ (fun z => by omega) (fun _ => rbo_n hno (cw_num (risM c4 h17 c5 ?_))))
    rw [hu, if_neg (by decide)]
    exact ⟨by decide, fun _ => rwr hb (hI.f (f := 56) (by omega) (by decide) (by decide)), fun z => absurd rfl z⟩
  · refine sadd (v := rnI (M.2.1 0) (M.1 16) (M.1 17)) hI hd h6 (by decide) (by decide) (by decide) (fun h hk => ⟨fun _ => rfl, fun z => absurd z (by decide), fun z => absurd z (by decide)⟩) (fun f C' hr => hQ f C' (wcp _ (fun z => by omega) (fun _ => rbo_n hno (cw_num (risM c4 h17 c5 ?_)))))
    rw [hu, if_pos rfl]
    exact ⟨by decide, fun z => absurd z (by decide), fun _ => rnmM c4 h17 c5 hu hr⟩
end SJ
