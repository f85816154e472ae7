/-! the words that move; written by a program -/
theorem rmv_19 {C : xC} {M : xM} {v : Int32} {Q : Nat → xC → Prop} (hS : rS C M) (hW : rW C M) (hb : M.1 1 = 0) (hk : 1 ≤ M.1 9) (hr : M.1 9 - 1 + 2 ≤ 24) (hQ : ∀ C', (∀ Q' : xM → Prop, (∀ M', rP 19 C M C' 55 M' → Q' M') → w_R_does 20 v M Q') → Q 55 C') : w_M_move 19 C Q := by
  obtain ⟨s1, s2, s3, s4, s5, s6⟩ := hS
  have z1 : C.2.2.1 1 (M.1 9 - 1) = M.2.2.1 1 (M.1 9 - 1) := s3 _ (by omega)
  unfold w_M_move
  refine ⟨by decide, 4, ?_⟩
  simp [w_M_move_7, wi_M_move_7, w_S_pop_0, xwT, cN, cA, xu, s1]
  repeat' with_reducible apply And.intro
  all_goals first | omega | skip
  refine ⟨5, ?_⟩
  simp [w_M_move_32, wi_M_move_32, w_S_push_0, xwL, xwS, xwG, xwC, cN, cA, xu, xu2, z1]
  repeat' with_reducible apply And.intro
  all_goals first | omega | skip
  refine hQ _ (fun Q' hq => ?_)
  simp [w_R_does, w_R_shuffle, w_R_shuffle_67, w_R_pop, w_R_push, dN, dA, xu]
  repeat' with_reducible apply And.intro
  all_goals first | omega | skip
  refine hq _ (rP_ok hW ⟨?_, ?_, fun i hi => ?_, s4, s5, s6⟩ ⟨fun i h1 h2 h3 => by simp [xu, h1], rfl, rfl, rfl⟩ ⟨fun i h0 h1 h2 h3 => by simp [xu, h1], rfl, rfl, rfl⟩ hb (Nat.le_succ _) ?_ hk)
  · simp [xu]
  · simp [xu]; omega
  · simp [xu] at hi
    simp [xu, xu2]
    repeat' split
    all_goals first | rfl | exact s3 i (by omega) | omega
  · simp [xu, xwT, xwL, xwS, xwG]; omega
theorem rmv_20 {C : xC} {M : xM} {v : Int32} {Q : Nat → xC → Prop} (hS : rS C M) (hW : rW C M) (hb : M.1 1 = 0) (hk : 1 ≤ M.1 9) (hr : M.1 9 - 1 + 0 ≤ 24) (hQ : ∀ C', (∀ Q' : xM → Prop, (∀ M', rP 20 C M C' 55 M' → Q' M') → w_R_does 21 v M Q') → Q 55 C') : w_M_move 20 C Q := by
  obtain ⟨s1, s2, s3, s4, s5, s6⟩ := hS
  have z1 : C.2.2.1 1 (M.1 9 - 1) = M.2.2.1 1 (M.1 9 - 1) := s3 _ (by omega)
  unfold w_M_move
  refine ⟨by decide, 4, ?_⟩
  simp [w_M_move_7, wi_M_move_7, w_S_pop_0, xwT, cN, cA, xu, s1]
  repeat' with_reducible apply And.intro
  all_goals first | omega | skip
  refine ⟨5, ?_⟩
  simp [w_M_move_32, wi_M_move_32, w_S_push_0, xwL, xwS, xwG, xwC, cN, cA, xu, xu2, z1]
  repeat' with_reducible apply And.intro
  all_goals first | omega | skip
  refine hQ _ (fun Q' hq => ?_)
  simp [w_R_does, w_R_shuffle, w_R_shuffle_67, w_R_pop, w_R_push, dN, dA, xu]
  repeat' with_reducible apply And.intro
  all_goals first | omega | skip
  refine hq _ (rP_ok hW ⟨?_, ?_, fun i hi => ?_, s4, s5, s6⟩ ⟨fun i h1 h2 h3 => by simp [xu, h1], rfl, rfl, rfl⟩ ⟨fun i h0 h1 h2 h3 => by simp [xu, h1], rfl, rfl, rfl⟩ hb (Nat.le_succ _) ?_ hk)
  · simp [xu]
  · simp [xu]; omega
  · simp [xu] at hi
    simp [xu, xu2]
    repeat' split
    all_goals first | rfl | exact s3 i (by omega) | omega
  · simp [xu, xwT, xwL, xwS, xwG]; omega
theorem rmv_21 {C : xC} {M : xM} {v : Int32} {Q : Nat → xC → Prop} (hS : rS C M) (hW : rW C M) (hb : M.1 1 = 0) (hk : 2 ≤ M.1 9) (hr : M.1 9 - 2 + 2 ≤ 24) (hQ : ∀ C', (∀ Q' : xM → Prop, (∀ M', rP 21 C M C' 55 M' → Q' M') → w_R_does 22 v M Q') → Q 55 C') : w_M_move 21 C Q := by
  obtain ⟨s1, s2, s3, s4, s5, s6⟩ := hS
  have z1 : C.2.2.1 1 (M.1 9 - 1) = M.2.2.1 1 (M.1 9 - 1) := s3 _ (by omega)
  have z2 : C.2.2.1 1 (M.1 9 - 1 - 1) = M.2.2.1 1 (M.1 9 - 1 - 1) := s3 _ (by omega)
  unfold w_M_move
  refine ⟨by decide, 4, ?_⟩
  simp [w_M_move_7, wi_M_move_7, w_S_pop_0, xwT, cN, cA, xu, s1]
  repeat' with_reducible apply And.intro
  all_goals first | omega | skip
  refine ⟨5, ?_⟩
  simp [w_M_move_32, wi_M_move_32, w_S_push_0, xwL, xwS, xwG, xwC, cN, cA, xu, xu2, z1, z2]
  repeat' with_reducible apply And.intro
  all_goals first | omega | skip
  refine hQ _ (fun Q' hq => ?_)
  simp [w_R_does, w_R_shuffle, w_R_shuffle_67, w_R_pop, w_R_push, dN, dA, xu]
  repeat' with_reducible apply And.intro
  all_goals first | omega | skip
  refine hq _ (rP_ok hW ⟨?_, ?_, fun i hi => ?_, s4, s5, s6⟩ ⟨fun i h1 h2 h3 => by simp [xu, h1], rfl, rfl, rfl⟩ ⟨fun i h0 h1 h2 h3 => by simp [xu, h1], rfl, rfl, rfl⟩ hb (Nat.le_succ _) ?_ hk)
  · simp [xu]
  · simp [xu]; omega
  · simp [xu] at hi
    simp [xu, xu2]
    repeat' split
    all_goals first | rfl | exact s3 i (by omega) | omega
  · simp [xu, xwT, xwL, xwS, xwG]; omega
theorem rmv_22 {C : xC} {M : xM} {v : Int32} {Q : Nat → xC → Prop} (hS : rS C M) (hW : rW C M) (hb : M.1 1 = 0) (hk : 2 ≤ M.1 9) (hr : M.1 9 - 2 + 3 ≤ 24) (hQ : ∀ C', (∀ Q' : xM → Prop, (∀ M', rP 22 C M C' 55 M' → Q' M') → w_R_does 23 v M Q') → Q 55 C') : w_M_move 22 C Q := by
  obtain ⟨s1, s2, s3, s4, s5, s6⟩ := hS
  have z1 : C.2.2.1 1 (M.1 9 - 1) = M.2.2.1 1 (M.1 9 - 1) := s3 _ (by omega)
  have z2 : C.2.2.1 1 (M.1 9 - 1 - 1) = M.2.2.1 1 (M.1 9 - 1 - 1) := s3 _ (by omega)
  unfold w_M_move
  refine ⟨by decide, 4, ?_⟩
  simp [w_M_move_7, wi_M_move_7, w_S_pop_0, xwT, cN, cA, xu, s1]
  repeat' with_reducible apply And.intro
  all_goals first | omega | skip
  refine ⟨5, ?_⟩
  simp [w_M_move_32, wi_M_move_32, w_S_push_0, xwL, xwS, xwG, xwC, cN, cA, xu, xu2, z1, z2]
  repeat' with_reducible apply And.intro
  all_goals first | omega | skip
  refine hQ _ (fun Q' hq => ?_)
  simp [w_R_does, w_R_shuffle, w_R_shuffle_67, w_R_pop, w_R_push, dN, dA, xu]
  repeat' with_reducible apply And.intro
  all_goals first | omega | skip
  refine hq _ (rP_ok hW ⟨?_, ?_, fun i hi => ?_, s4, s5, s6⟩ ⟨fun i h1 h2 h3 => by simp [xu, h1], rfl, rfl, rfl⟩ ⟨fun i h0 h1 h2 h3 => by simp [xu, h1], rfl, rfl, rfl⟩ hb (Nat.le_succ _) ?_ hk)
  · simp [xu]
  · simp [xu]; omega
  · simp [xu] at hi
    simp [xu, xu2]
    repeat' split
    all_goals first | rfl | exact s3 i (by omega) | omega
  · simp [xu, xwT, xwL, xwS, xwG]; omega
theorem rmv_23 {C : xC} {M : xM} {v : Int32} {Q : Nat → xC → Prop} (hS : rS C M) (hW : rW C M) (hb : M.1 1 = 0) (hk : 3 ≤ M.1 9) (hr : M.1 9 - 3 + 3 ≤ 24) (hQ : ∀ C', (∀ Q' : xM → Prop, (∀ M', rP 23 C M C' 55 M' → Q' M') → w_R_does 24 v M Q') → Q 55 C') : w_M_move 23 C Q := by
  obtain ⟨s1, s2, s3, s4, s5, s6⟩ := hS
  have z1 : C.2.2.1 1 (M.1 9 - 1) = M.2.2.1 1 (M.1 9 - 1) := s3 _ (by omega)
  have z2 : C.2.2.1 1 (M.1 9 - 1 - 1) = M.2.2.1 1 (M.1 9 - 1 - 1) := s3 _ (by omega)
  have z3 : C.2.2.1 1 (M.1 9 - 1 - 1 - 1) = M.2.2.1 1 (M.1 9 - 1 - 1 - 1) := s3 _ (by omega)
  unfold w_M_move
  refine ⟨by decide, 4, ?_⟩
  simp [w_M_move_7, wi_M_move_7, w_S_pop_0, xwT, cN, cA, xu, s1]
  repeat' with_reducible apply And.intro
  all_goals first | omega | skip
  refine ⟨5, ?_⟩
  simp [w_M_move_32, wi_M_move_32, w_S_push_0, xwL, xwS, xwG, xwC, cN, cA, xu, xu2, z1, z2, z3]
  repeat' with_reducible apply And.intro
  all_goals first | omega | skip
  refine hQ _ (fun Q' hq => ?_)
  simp [w_R_does, w_R_shuffle, w_R_shuffle_67, w_R_pop, w_R_push, dN, dA, xu]
  repeat' with_reducible apply And.intro
  all_goals first | omega | skip
  refine hq _ (rP_ok hW ⟨?_, ?_, fun i hi => ?_, s4, s5, s6⟩ ⟨fun i h1 h2 h3 => by simp [xu, h1], rfl, rfl, rfl⟩ ⟨fun i h0 h1 h2 h3 => by simp [xu, h1], rfl, rfl, rfl⟩ hb (Nat.le_succ _) ?_ hk)
  · simp [xu]
  · simp [xu]; omega
  · simp [xu] at hi
    simp [xu, xu2]
    repeat' split
    all_goals first | rfl | exact s3 i (by omega) | omega
  · simp [xu, xwT, xwL, xwS, xwG]; omega
theorem rmv_24 {C : xC} {M : xM} {v : Int32} {Q : Nat → xC → Prop} (hS : rS C M) (hW : rW C M) (hb : M.1 1 = 0) (hk : 2 ≤ M.1 9) (hr : M.1 9 - 2 + 1 ≤ 24) (hQ : ∀ C', (∀ Q' : xM → Prop, (∀ M', rP 24 C M C' 55 M' → Q' M') → w_R_does 25 v M Q') → Q 55 C') : w_M_move 24 C Q := by
  obtain ⟨s1, s2, s3, s4, s5, s6⟩ := hS
  have z1 : C.2.2.1 1 (M.1 9 - 1) = M.2.2.1 1 (M.1 9 - 1) := s3 _ (by omega)
  have z2 : C.2.2.1 1 (M.1 9 - 1 - 1) = M.2.2.1 1 (M.1 9 - 1 - 1) := s3 _ (by omega)
  unfold w_M_move
  refine ⟨by decide, 4, ?_⟩
  simp [w_M_move_7, wi_M_move_7, w_S_pop_0, xwT, cN, cA, xu, s1]
  repeat' with_reducible apply And.intro
  all_goals first | omega | skip
  refine ⟨5, ?_⟩
  simp [w_M_move_32, wi_M_move_32, w_S_push_0, xwL, xwS, xwG, xwC, cN, cA, xu, xu2, z1, z2]
  repeat' with_reducible apply And.intro
  all_goals first | omega | skip
  refine hQ _ (fun Q' hq => ?_)
  simp [w_R_does, w_R_shuffle, w_R_shuffle_67, w_R_pop, w_R_push, dN, dA, xu]
  repeat' with_reducible apply And.intro
  all_goals first | omega | skip
  refine hq _ (rP_ok hW ⟨?_, ?_, fun i hi => ?_, s4, s5, s6⟩ ⟨fun i h1 h2 h3 => by simp [xu, h1], rfl, rfl, rfl⟩ ⟨fun i h0 h1 h2 h3 => by simp [xu, h1], rfl, rfl, rfl⟩ hb (Nat.le_succ _) ?_ hk)
  · simp [xu]
  · simp [xu]; omega
  · simp [xu] at hi
    simp [xu, xu2]
    repeat' split
    all_goals first | rfl | exact s3 i (by omega) | omega
  · simp [xu, xwT, xwL, xwS, xwG]; omega
theorem rmv_25 {C : xC} {M : xM} {v : Int32} {Q : Nat → xC → Prop} (hS : rS C M) (hW : rW C M) (hb : M.1 1 = 0) (hk : 2 ≤ M.1 9) (hr : M.1 9 - 2 + 3 ≤ 24) (hQ : ∀ C', (∀ Q' : xM → Prop, (∀ M', rP 25 C M C' 55 M' → Q' M') → w_R_does 26 v M Q') → Q 55 C') : w_M_move 25 C Q := by
  obtain ⟨s1, s2, s3, s4, s5, s6⟩ := hS
  have z1 : C.2.2.1 1 (M.1 9 - 1) = M.2.2.1 1 (M.1 9 - 1) := s3 _ (by omega)
  have z2 : C.2.2.1 1 (M.1 9 - 1 - 1) = M.2.2.1 1 (M.1 9 - 1 - 1) := s3 _ (by omega)
  unfold w_M_move
  refine ⟨by decide, 4, ?_⟩
  simp [w_M_move_7, wi_M_move_7, w_S_pop_0, xwT, cN, cA, xu, s1]
  repeat' with_reducible apply And.intro
  all_goals first | omega | skip
  refine ⟨5, ?_⟩
  simp [w_M_move_32, wi_M_move_32, w_S_push_0, xwL, xwS, xwG, xwC, cN, cA, xu, xu2, z1, z2]
  repeat' with_reducible apply And.intro
  all_goals first | omega | skip
  refine hQ _ (fun Q' hq => ?_)
  simp [w_R_does, w_R_shuffle, w_R_shuffle_67, w_R_pop, w_R_push, dN, dA, xu]
  repeat' with_reducible apply And.intro
  all_goals first | omega | skip
  refine hq _ (rP_ok hW ⟨?_, ?_, fun i hi => ?_, s4, s5, s6⟩ ⟨fun i h1 h2 h3 => by simp [xu, h1], rfl, rfl, rfl⟩ ⟨fun i h0 h1 h2 h3 => by simp [xu, h1], rfl, rfl, rfl⟩ hb (Nat.le_succ _) ?_ hk)
  · simp [xu]
  · simp [xu]; omega
  · simp [xu] at hi
    simp [xu, xu2]
    repeat' split
    all_goals first | rfl | exact s3 i (by omega) | omega
  · simp [xu, xwT, xwL, xwS, xwG]; omega
theorem rmv_26 {C : xC} {M : xM} {v : Int32} {Q : Nat → xC → Prop} (hS : rS C M) (hW : rW C M) (hb : M.1 1 = 0) (hk : 2 ≤ M.1 9) (hr : M.1 9 - 2 + 4 ≤ 24) (hQ : ∀ C', (∀ Q' : xM → Prop, (∀ M', rP 26 C M C' 55 M' → Q' M') → w_R_does 27 v M Q') → Q 55 C') : w_M_move 26 C Q := by
  obtain ⟨s1, s2, s3, s4, s5, s6⟩ := hS
  have z1 : C.2.2.1 1 (M.1 9 - 1) = M.2.2.1 1 (M.1 9 - 1) := s3 _ (by omega)
  have z2 : C.2.2.1 1 (M.1 9 - 1 - 1) = M.2.2.1 1 (M.1 9 - 1 - 1) := s3 _ (by omega)
  unfold w_M_move
  refine ⟨by decide, 4, ?_⟩
  simp [w_M_move_7, wi_M_move_7, w_S_pop_0, xwT, cN, cA, xu, s1]
  repeat' with_reducible apply And.intro
  all_goals first | omega | skip
  refine ⟨5, ?_⟩
  simp [w_M_move_32, wi_M_move_32, w_S_push_0, xwL, xwS, xwG, xwC, cN, cA, xu, xu2, z1, z2]
  repeat' with_reducible apply And.intro
  all_goals first | omega | skip
  refine hQ _ (fun Q' hq => ?_)
  simp [w_R_does, w_R_shuffle, w_R_shuffle_67, w_R_pop, w_R_push, dN, dA, xu]
  repeat' with_reducible apply And.intro
  all_goals first | omega | skip
  refine hq _ (rP_ok hW ⟨?_, ?_, fun i hi => ?_, s4, s5, s6⟩ ⟨fun i h1 h2 h3 => by simp [xu, h1], rfl, rfl, rfl⟩ ⟨fun i h0 h1 h2 h3 => by simp [xu, h1], rfl, rfl, rfl⟩ hb (Nat.le_succ _) ?_ hk)
  · simp [xu]
  · simp [xu]; omega
  · simp [xu] at hi
    simp [xu, xu2]
    repeat' split
    all_goals first | rfl | exact s3 i (by omega) | omega
  · simp [xu, xwT, xwL, xwS, xwG]; omega
theorem rmv_27 {C : xC} {M : xM} {v : Int32} {Q : Nat → xC → Prop} (hS : rS C M) (hW : rW C M) (hb : M.1 1 = 0) (hk : 2 ≤ M.1 9) (hr : M.1 9 - 2 + 0 ≤ 24) (hQ : ∀ C', (∀ Q' : xM → Prop, (∀ M', rP 27 C M C' 55 M' → Q' M') → w_R_does 28 v M Q') → Q 55 C') : w_M_move 27 C Q := by
  obtain ⟨s1, s2, s3, s4, s5, s6⟩ := hS
  have z1 : C.2.2.1 1 (M.1 9 - 1) = M.2.2.1 1 (M.1 9 - 1) := s3 _ (by omega)
  have z2 : C.2.2.1 1 (M.1 9 - 1 - 1) = M.2.2.1 1 (M.1 9 - 1 - 1) := s3 _ (by omega)
  unfold w_M_move
  refine ⟨by decide, 4, ?_⟩
  simp [w_M_move_7, wi_M_move_7, w_S_pop_0, xwT, cN, cA, xu, s1]
  repeat' with_reducible apply And.intro
  all_goals first | omega | skip
  refine ⟨5, ?_⟩
  simp [w_M_move_32, wi_M_move_32, w_S_push_0, xwL, xwS, xwG, xwC, cN, cA, xu, xu2, z1, z2]
  repeat' with_reducible apply And.intro
  all_goals first | omega | skip
  refine hQ _ (fun Q' hq => ?_)
  simp [w_R_does, w_R_shuffle, w_R_shuffle_67, w_R_pop, w_R_push, dN, dA, xu]
  repeat' with_reducible apply And.intro
  all_goals first | omega | skip
  refine hq _ (rP_ok hW ⟨?_, ?_, fun i hi => ?_, s4, s5, s6⟩ ⟨fun i h1 h2 h3 => by simp [xu, h1], rfl, rfl, rfl⟩ ⟨fun i h0 h1 h2 h3 => by simp [xu, h1], rfl, rfl, rfl⟩ hb (Nat.le_succ _) ?_ hk)
  · simp [xu]
  · simp [xu]; omega
  · simp [xu] at hi
    simp [xu, xu2]
    repeat' split
    all_goals first | rfl | exact s3 i (by omega) | omega
  · simp [xu, xwT, xwL, xwS, xwG]; omega
