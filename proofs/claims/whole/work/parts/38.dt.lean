/-! the other object's methods end in one way -/
def xd1 {β : Type} (w : (β → Prop) → Prop) : Prop := ∀ Q, w Q → ∃ x, Q x ∧ ∀ Q', Q' x → w Q'
def xd2 {α β : Type} (w : (α → β → Prop) → Prop) : Prop := ∀ Q, w Q → ∃ r x, Q r x ∧ ∀ Q', Q' r x → w Q'
section DT
variable {α β γ : Type}
theorem d1_q (x : β) : xd1 (fun Q => Q x) := fun _ h => ⟨x, h, fun _ k => k⟩
theorem d2_q (r : α) (x : β) : xd2 (fun Q => Q r x) := fun _ h => ⟨r, x, h, fun _ k => k⟩
theorem d1_f : xd1 (fun _ : β → Prop => False) := fun _ h => h.elim
theorem d2_f : xd2 (fun _ : α → β → Prop => False) := fun _ h => h.elim
theorem d1_a {A : Prop} {w : (β → Prop) → Prop} (h : A → xd1 w) : xd1 (fun Q => A ∧ w Q) := fun Q k => by
  obtain ⟨x, h1, h2⟩ := h k.1 Q k.2
  exact ⟨x, h1, fun Q' q => ⟨k.1, h2 Q' q⟩⟩
theorem d2_a {A : Prop} {w : (α → β → Prop) → Prop} (h : A → xd2 w) : xd2 (fun Q => A ∧ w Q) := fun Q k => by
  obtain ⟨r, x, h1, h2⟩ := h k.1 Q k.2
  exact ⟨r, x, h1, fun Q' q => ⟨k.1, h2 Q' q⟩⟩
theorem d1_i {A : Prop} {w1 w2 : (β → Prop) → Prop} (h1 : A → xd1 w1) (h2 : ¬ A → xd1 w2) : xd1 (fun Q => (A → w1 Q) ∧ (¬ A → w2 Q)) := fun Q k => by
  by_cases c : A
  · obtain ⟨x, e1, e2⟩ := h1 c Q (k.1 c)
    exact ⟨x, e1, fun Q' q => ⟨fun _ => e2 Q' q, fun z => absurd c z⟩⟩
  · obtain ⟨x, e1, e2⟩ := h2 c Q (k.2 c)
    exact ⟨x, e1, fun Q' q => ⟨fun z => absurd z c, fun _ => e2 Q' q⟩⟩
theorem d2_i {A : Prop} {w1 w2 : (α → β → Prop) → Prop} (h1 : A → xd2 w1) (h2 : ¬ A → xd2 w2) : xd2 (fun Q => (A → w1 Q) ∧ (¬ A → w2 Q)) := fun Q k => by
  by_cases c : A
  · obtain ⟨r, x, e1, e2⟩ := h1 c Q (k.1 c)
    exact ⟨r, x, e1, fun Q' q => ⟨fun _ => e2 Q' q, fun z => absurd c z⟩⟩
  · obtain ⟨r, x, e1, e2⟩ := h2 c Q (k.2 c)
    exact ⟨r, x, e1, fun Q' q => ⟨fun z => absurd z c, fun _ => e2 Q' q⟩⟩
theorem d1_e {w : γ → (β → Prop) → Prop} (h : ∀ e, xd1 (w e)) : xd1 (fun Q => ∃ e, w e Q) := fun Q ⟨e, k⟩ => by
  obtain ⟨x, e1, e2⟩ := h e Q k
  exact ⟨x, e1, fun Q' q => ⟨e, e2 Q' q⟩⟩
theorem d2_e {w : γ → (α → β → Prop) → Prop} (h : ∀ e, xd2 (w e)) : xd2 (fun Q => ∃ e, w e Q) := fun Q ⟨e, k⟩ => by
  obtain ⟨r, x, e1, e2⟩ := h e Q k
  exact ⟨r, x, e1, fun Q' q => ⟨e, e2 Q' q⟩⟩
theorem d_inj {v : Int32} {e e' : Nat} (h : v = nI e) (h' : v = nI e') (l : e < 2147483648) (l' : e' < 2147483648) : e' = e := by
  have h3 : (nI e).toInt = (nI e').toInt := by rw [← h, h']
  rw [xt_N l, xt_N l'] at h3
  omega
theorem d1_s {v : Int32} {w1 : (β → Prop) → Prop} {w2 : Nat → (β → Prop) → Prop} (h1 : xd1 w1) (h2 : ∀ e, xd1 (w2 e)) : xd1 (fun Q => (v < 0 → w1 Q) ∧ (∀ e : Nat, v = nI e → e < 2147483648 → w2 e Q)) := fun Q k => by
  rcases xe_sgn v with c | ⟨e, he, hl⟩
  · obtain ⟨x, e1, e2⟩ := h1 Q (k.1 c)
    refine ⟨x, e1, fun Q' q => ⟨fun _ => e2 Q' q, fun e' he' hl' => ?_⟩⟩
    rw [he', Int32.lt_iff_toInt_lt, xt_N hl'] at c
    have : (0 : Int32).toInt = 0 := rfl
    omega
  · obtain ⟨x, e1, e2⟩ := h2 e Q (k.2 e he hl)
    refine ⟨x, e1, fun Q' q => ⟨fun c => ?_, fun e' he' hl' => ?_⟩⟩
    · rw [he, Int32.lt_iff_toInt_lt, xt_N hl] at c
      have : (0 : Int32).toInt = 0 := rfl
      omega
    · rw [d_inj he he' hl hl']; exact e2 Q' q
theorem d2_s {v : Int32} {w1 : (α → β → Prop) → Prop} {w2 : Nat → (α → β → Prop) → Prop} (h1 : xd2 w1) (h2 : ∀ e, xd2 (w2 e)) : xd2 (fun Q => (v < 0 → w1 Q) ∧ (∀ e : Nat, v = nI e → e < 2147483648 → w2 e Q)) := fun Q k => by
  rcases xe_sgn v with c | ⟨e, he, hl⟩
  · obtain ⟨r, x, e1, e2⟩ := h1 Q (k.1 c)
    refine ⟨r, x, e1, fun Q' q => ⟨fun _ => e2 Q' q, fun e' he' hl' => ?_⟩⟩
    rw [he', Int32.lt_iff_toInt_lt, xt_N hl'] at c
    have : (0 : Int32).toInt = 0 := rfl
    omega
  · obtain ⟨r, x, e1, e2⟩ := h2 e Q (k.2 e he hl)
    refine ⟨r, x, e1, fun Q' q => ⟨fun c => ?_, fun e' he' hl' => ?_⟩⟩
    · rw [he, Int32.lt_iff_toInt_lt, xt_N hl] at c
      have : (0 : Int32).toInt = 0 := rfl
      omega
    · rw [d_inj he he' hl hl']; exact e2 Q' q
theorem d11 {w : (γ → Prop) → Prop} {v : γ → (β → Prop) → Prop} (h : xd1 w) (k : ∀ x, xd1 (v x)) : xd1 (fun Q => w (fun x => v x Q)) := fun Q q => by
  obtain ⟨x, e1, e2⟩ := h _ q
  obtain ⟨x2, e3, e4⟩ := k x Q e1
  exact ⟨x2, e3, fun Q' z => e2 _ (e4 Q' z)⟩
theorem d12 {δ : Type} {w : (δ → γ → Prop) → Prop} {v : δ → γ → (β → Prop) → Prop} (h : xd2 w) (k : ∀ r x, xd1 (v r x)) : xd1 (fun Q => w (fun r x => v r x Q)) := fun Q q => by
  obtain ⟨r, x, e1, e2⟩ := h _ q
  obtain ⟨x2, e3, e4⟩ := k r x Q e1
  exact ⟨x2, e3, fun Q' z => e2 _ (e4 Q' z)⟩
theorem d21 {w : (γ → Prop) → Prop} {v : γ → (α → β → Prop) → Prop} (h : xd1 w) (k : ∀ x, xd2 (v x)) : xd2 (fun Q => w (fun x => v x Q)) := fun Q q => by
  obtain ⟨x, e1, e2⟩ := h _ q
  obtain ⟨r2, x2, e3, e4⟩ := k x Q e1
  exact ⟨r2, x2, e3, fun Q' z => e2 _ (e4 Q' z)⟩
theorem d22 {δ : Type} {w : (δ → γ → Prop) → Prop} {v : δ → γ → (α → β → Prop) → Prop} (h : xd2 w) (k : ∀ r x, xd2 (v r x)) : xd2 (fun Q => w (fun r x => v r x Q)) := fun Q q => by
  obtain ⟨r, x, e1, e2⟩ := h _ q
  obtain ⟨r2, x2, e3, e4⟩ := k r x Q e1
  exact ⟨r2, x2, e3, fun Q' z => e2 _ (e4 Q' z)⟩
end DT

set_option maxRecDepth 8000 in
set_option maxHeartbeats 4000000 in
theorem yd_R_thrown (M : xM) : xd2 (fun Q => w_R_thrown M Q) := by
  unfold w_R_thrown
  repeat' first
    | with_reducible exact d2_q _ _
    | with_reducible exact d2_f
    | with_reducible refine d2_s ?_ (fun _ => ?_)
    | with_reducible refine d2_i (fun _ => ?_) (fun _ => ?_)
    | with_reducible refine d2_a (fun _ => ?_)
    | with_reducible refine d2_e (fun _ => ?_)
set_option maxRecDepth 8000 in
set_option maxHeartbeats 4000000 in
theorem yd_R_within_GNN (x1 : Int32) (x2 : Nat) (x3 : Nat) (M : xM) : xd2 (fun Q => w_R_within_GNN x1 x2 x3 M Q) := by
  unfold w_R_within_GNN
  repeat' first
    | with_reducible exact d2_q _ _
    | with_reducible exact d2_f
    | with_reducible refine d2_s ?_ (fun _ => ?_)
    | with_reducible refine d2_i (fun _ => ?_) (fun _ => ?_)
    | with_reducible refine d2_a (fun _ => ?_)
    | with_reducible refine d2_e (fun _ => ?_)
set_option maxRecDepth 8000 in
set_option maxHeartbeats 4000000 in
theorem yd_R_fail (x1 : Nat) (M : xM) : xd2 (fun Q => w_R_fail x1 M Q) := by
  unfold w_R_fail
  repeat' first
    | with_reducible exact d2_q _ _
    | with_reducible exact d2_f
    | with_reducible refine d2_s ?_ (fun _ => ?_)
    | with_reducible refine d2_i (fun _ => ?_) (fun _ => ?_)
    | with_reducible refine d2_a (fun _ => ?_)
    | with_reducible refine d2_e (fun _ => ?_)
set_option maxRecDepth 8000 in
set_option maxHeartbeats 4000000 in
theorem yd_R_within_NNN (x1 : Nat) (x2 : Nat) (x3 : Nat) (M : xM) : xd2 (fun Q => w_R_within_NNN x1 x2 x3 M Q) := by
  unfold w_R_within_NNN
  repeat' first
    | with_reducible exact d2_q _ _
    | with_reducible exact d2_f
    | with_reducible refine d2_s ?_ (fun _ => ?_)
    | with_reducible refine d2_i (fun _ => ?_) (fun _ => ?_)
    | with_reducible refine d2_a (fun _ => ?_)
    | with_reducible refine d2_e (fun _ => ?_)
set_option maxRecDepth 8000 in
set_option maxHeartbeats 4000000 in
theorem yd_R_within_INN (x1 : Int32) (x2 : Nat) (x3 : Nat) (M : xM) : xd2 (fun Q => w_R_within_INN x1 x2 x3 M Q) := by
  unfold w_R_within_INN
  repeat' first
    | with_reducible exact d2_q _ _
    | with_reducible exact d2_f
    | with_reducible refine d2_s ?_ (fun _ => ?_)
    | with_reducible refine d2_i (fun _ => ?_) (fun _ => ?_)
    | with_reducible refine d2_a (fun _ => ?_)
    | with_reducible refine d2_e (fun _ => ?_)
theorem yd_R_write_105 : ∀ (n : Nat) (l1 : Int64) (l3 : Nat) (l5 : Nat) (M : xM), xd2 (fun Q => w_R_write_105 n l1 l3 l5 M Q)
  | 0, _, _, _, _ => by unfold w_R_write_105; exact d2_f
  | n + 1, l1, l3, l5, M => by
    unfold w_R_write_105 wi_R_write_105
    repeat' first
      | with_reducible exact d2_q _ _
      | with_reducible exact d2_f
      | with_reducible refine d2_s ?_ (fun _ => ?_)
      | with_reducible refine d2_i (fun _ => ?_) (fun _ => ?_)
      | with_reducible refine d2_a (fun _ => ?_)
      | with_reducible refine d2_e (fun _ => ?_)
      | exact yd_R_write_105 n _ _ _ _
theorem yd_R_write_27 : ∀ (n : Nat) (l1 : Int64) (l3 : Nat) (l4 : Nat) (l5 : Nat) (M : xM), xd2 (fun Q => w_R_write_27 n l1 l3 l4 l5 M Q)
  | 0, _, _, _, _, _ => by unfold w_R_write_27; exact d2_f
  | n + 1, l1, l3, l4, l5, M => by
    unfold w_R_write_27 wi_R_write_27
    repeat' first
      | with_reducible exact d2_q _ _
      | with_reducible exact d2_f
      | with_reducible refine d22 (yd_R_fail _ _) (fun _ _ => ?_)
      | with_reducible exact yd_R_fail _ _
      | with_reducible refine d22 (yd_R_write_105 _ _ _ _ _) (fun _ _ => ?_)
      | with_reducible exact yd_R_write_105 _ _ _ _ _
      | with_reducible refine d22 (yd_R_within_INN _ _ _ _) (fun _ _ => ?_)
      | with_reducible exact yd_R_within_INN _ _ _ _
      | with_reducible refine d2_s ?_ (fun _ => ?_)
      | with_reducible refine d2_i (fun _ => ?_) (fun _ => ?_)
      | with_reducible refine d2_a (fun _ => ?_)
      | with_reducible refine d2_e (fun _ => ?_)
      | exact yd_R_write_27 n _ _ _ _ _
set_option maxRecDepth 8000 in
set_option maxHeartbeats 4000000 in
theorem yd_R_write (x1 : Int64) (x2 : Int32) (M : xM) : xd2 (fun Q => w_R_write x1 x2 M Q) := by
  unfold w_R_write
  repeat' first
    | with_reducible exact d2_q _ _
    | with_reducible exact d2_f
    | with_reducible refine d22 (yd_R_within_GNN _ _ _ _) (fun _ _ => ?_)
    | with_reducible exact yd_R_within_GNN _ _ _ _
    | with_reducible refine d22 (yd_R_fail _ _) (fun _ _ => ?_)
    | with_reducible exact yd_R_fail _ _
    | with_reducible refine d22 (yd_R_within_NNN _ _ _ _) (fun _ _ => ?_)
    | with_reducible exact yd_R_within_NNN _ _ _ _
    | with_reducible refine d22 (yd_R_write_27 _ _ _ _ _ _) (fun _ _ => ?_)
    | with_reducible exact yd_R_write_27 _ _ _ _ _ _
    | with_reducible refine d2_s ?_ (fun _ => ?_)
    | with_reducible refine d2_i (fun _ => ?_) (fun _ => ?_)
    | with_reducible refine d2_a (fun _ => ?_)
    | with_reducible refine d2_e (fun _ => ?_)
theorem yd_R_word_46 : ∀ (n : Nat) (M : xM), xd2 (fun Q => w_R_word_46 n M Q)
  | 0, _ => by unfold w_R_word_46; exact d2_f
  | n + 1, M => by
    unfold w_R_word_46 wi_R_word_46
    repeat' first
      | with_reducible exact d2_q _ _
      | with_reducible exact d2_f
      | unfold w_R_word_84
      | with_reducible refine d2_s ?_ (fun _ => ?_)
      | with_reducible refine d2_i (fun _ => ?_) (fun _ => ?_)
      | with_reducible refine d2_a (fun _ => ?_)
      | with_reducible refine d2_e (fun _ => ?_)
      | exact yd_R_word_46 n _
theorem yd_R_word_0 : ∀ (n : Nat) (M : xM), xd2 (fun Q => w_R_word_0 n M Q)
  | 0, _ => by unfold w_R_word_0; exact d2_f
  | n + 1, M => by
    unfold w_R_word_0 wi_R_word_0
    repeat' first
      | with_reducible exact d2_q _ _
      | with_reducible exact d2_f
      | with_reducible refine d22 (yd_R_word_46 _ _) (fun _ _ => ?_)
      | with_reducible exact yd_R_word_46 _ _
      | with_reducible refine d2_s ?_ (fun _ => ?_)
      | with_reducible refine d2_i (fun _ => ?_) (fun _ => ?_)
      | with_reducible refine d2_a (fun _ => ?_)
      | with_reducible refine d2_e (fun _ => ?_)
      | exact yd_R_word_0 n _
set_option maxRecDepth 8000 in
set_option maxHeartbeats 4000000 in
theorem yd_R_word (M : xM) : xd2 (fun Q => w_R_word M Q) := by
  unfold w_R_word
  repeat' first
    | with_reducible exact d2_q _ _
    | with_reducible exact d2_f
    | with_reducible refine d22 (yd_R_word_0 _ _) (fun _ _ => ?_)
    | with_reducible exact yd_R_word_0 _ _
    | with_reducible refine d2_s ?_ (fun _ => ?_)
    | with_reducible refine d2_i (fun _ => ?_) (fun _ => ?_)
    | with_reducible refine d2_a (fun _ => ?_)
    | with_reducible refine d2_e (fun _ => ?_)
theorem yd_R_packed_4 : ∀ (n : Nat) (l1 : Int64) (l3 : Nat) (M : xM), xd2 (fun Q => w_R_packed_4 n l1 l3 M Q)
  | 0, _, _, _ => by unfold w_R_packed_4; exact d2_f
  | n + 1, l1, l3, M => by
    unfold w_R_packed_4 wi_R_packed_4
    repeat' first
      | with_reducible exact d2_q _ _
      | with_reducible exact d2_f
      | with_reducible refine d2_s ?_ (fun _ => ?_)
      | with_reducible refine d2_i (fun _ => ?_) (fun _ => ?_)
      | with_reducible refine d2_a (fun _ => ?_)
      | with_reducible refine d2_e (fun _ => ?_)
      | exact yd_R_packed_4 n _ _ _
set_option maxRecDepth 8000 in
set_option maxHeartbeats 4000000 in
theorem yd_R_packed (M : xM) : xd2 (fun Q => w_R_packed M Q) := by
  unfold w_R_packed
  repeat' first
    | with_reducible exact d2_q _ _
    | with_reducible exact d2_f
    | with_reducible refine d22 (yd_R_packed_4 _ _ _ _) (fun _ _ => ?_)
    | with_reducible exact yd_R_packed_4 _ _ _ _
    | with_reducible refine d2_s ?_ (fun _ => ?_)
    | with_reducible refine d2_i (fun _ => ?_) (fun _ => ?_)
    | with_reducible refine d2_a (fun _ => ?_)
    | with_reducible refine d2_e (fun _ => ?_)
theorem yd_R_find_5 : ∀ (n : Nat) (l1 : Int64) (l3 : Nat) (l4 : Nat) (M : xM), xd2 (fun Q => w_R_find_5 n l1 l3 l4 M Q)
  | 0, _, _, _, _ => by unfold w_R_find_5; exact d2_f
  | n + 1, l1, l3, l4, M => by
    unfold w_R_find_5 wi_R_find_5
    repeat' first
      | with_reducible exact d2_q _ _
      | with_reducible exact d2_f
      | with_reducible refine d2_s ?_ (fun _ => ?_)
      | with_reducible refine d2_i (fun _ => ?_) (fun _ => ?_)
      | with_reducible refine d2_a (fun _ => ?_)
      | with_reducible refine d2_e (fun _ => ?_)
      | exact yd_R_find_5 n _ _ _ _
set_option maxRecDepth 8000 in
set_option maxHeartbeats 4000000 in
theorem yd_R_find (x1 : Int64) (M : xM) : xd2 (fun Q => w_R_find x1 M Q) := by
  unfold w_R_find
  repeat' first
    | with_reducible exact d2_q _ _
    | with_reducible exact d2_f
    | with_reducible refine d22 (yd_R_find_5 _ _ _ _ _) (fun _ _ => ?_)
    | with_reducible exact yd_R_find_5 _ _ _ _ _
    | with_reducible refine d2_s ?_ (fun _ => ?_)
    | with_reducible refine d2_i (fun _ => ?_) (fun _ => ?_)
    | with_reducible refine d2_a (fun _ => ?_)
    | with_reducible refine d2_e (fun _ => ?_)
set_option maxRecDepth 8000 in
set_option maxHeartbeats 4000000 in
theorem yd_R_builtIn (x1 : Int64) (M : xM) : xd2 (fun Q => w_R_builtIn x1 M Q) := by
  unfold w_R_builtIn
  repeat' first
    | with_reducible exact d2_q _ _
    | with_reducible exact d2_f
    | with_reducible refine d2_s ?_ (fun _ => ?_)
    | with_reducible refine d2_i (fun _ => ?_) (fun _ => ?_)
    | with_reducible refine d2_a (fun _ => ?_)
    | with_reducible refine d2_e (fun _ => ?_)
set_option maxRecDepth 8000 in
set_option maxHeartbeats 4000000 in
theorem yd_R_within_ZNN (x1 : Nat) (y1 : Nat) (x2 : Nat) (x3 : Nat) (M : xM) : xd2 (fun Q => w_R_within_ZNN x1 y1 x2 x3 M Q) := by
  unfold w_R_within_ZNN
  repeat' first
    | with_reducible exact d2_q _ _
    | with_reducible exact d2_f
    | with_reducible refine d2_s ?_ (fun _ => ?_)
    | with_reducible refine d2_i (fun _ => ?_) (fun _ => ?_)
    | with_reducible refine d2_a (fun _ => ?_)
    | with_reducible refine d2_e (fun _ => ?_)
theorem yd_R_isNumber_47 : ∀ (n : Nat) (l2 : Nat) (l3 : Nat) (M : xM), xd2 (fun Q => w_R_isNumber_47 n l2 l3 M Q)
  | 0, _, _, _ => by unfold w_R_isNumber_47; exact d2_f
  | n + 1, l2, l3, M => by
    unfold w_R_isNumber_47 wi_R_isNumber_47
    repeat' first
      | with_reducible exact d2_q _ _
      | with_reducible exact d2_f
      | with_reducible refine d22 (yd_R_within_NNN _ _ _ _) (fun _ _ => ?_)
      | with_reducible exact yd_R_within_NNN _ _ _ _
      | with_reducible refine d2_s ?_ (fun _ => ?_)
      | with_reducible refine d2_i (fun _ => ?_) (fun _ => ?_)
      | with_reducible refine d2_a (fun _ => ?_)
      | with_reducible refine d2_e (fun _ => ?_)
      | exact yd_R_isNumber_47 n _ _ _
set_option maxRecDepth 8000 in
set_option maxHeartbeats 4000000 in
theorem yd_R_isNumber (M : xM) : xd2 (fun Q => w_R_isNumber M Q) := by
  unfold w_R_isNumber
  repeat' first
    | with_reducible exact d2_q _ _
    | with_reducible exact d2_f
    | with_reducible refine d22 (yd_R_isNumber_47 _ _ _ _) (fun _ _ => ?_)
    | with_reducible exact yd_R_isNumber_47 _ _ _ _
    | with_reducible refine d2_s ?_ (fun _ => ?_)
    | with_reducible refine d2_i (fun _ => ?_) (fun _ => ?_)
    | with_reducible refine d2_a (fun _ => ?_)
    | with_reducible refine d2_e (fun _ => ?_)
set_option maxRecDepth 8000 in
set_option maxHeartbeats 4000000 in
theorem yd_R_wrong (x1 : Nat) (M : xM) : xd1 (fun Q => w_R_wrong x1 M Q) := by
  unfold w_R_wrong
  repeat' first
    | with_reducible exact d1_q _
    | with_reducible exact d1_f
    | with_reducible refine d1_s ?_ (fun _ => ?_)
    | with_reducible refine d1_i (fun _ => ?_) (fun _ => ?_)
    | with_reducible refine d1_a (fun _ => ?_)
    | with_reducible refine d1_e (fun _ => ?_)
set_option maxRecDepth 8000 in
set_option maxHeartbeats 4000000 in
theorem yd_R_step (M : xM) : xd2 (fun Q => w_R_step M Q) := by
  unfold w_R_step
  repeat' first
    | with_reducible exact d2_q _ _
    | with_reducible exact d2_f
    | with_reducible refine d21 (yd_R_wrong _ _) (fun _ => ?_)
    | with_reducible exact yd_R_wrong _ _
    | with_reducible refine d2_s ?_ (fun _ => ?_)
    | with_reducible refine d2_i (fun _ => ?_) (fun _ => ?_)
    | with_reducible refine d2_a (fun _ => ?_)
    | with_reducible refine d2_e (fun _ => ?_)
theorem yd_R_number_22 : ∀ (n : Nat) (l1 : Nat) (l2 : Nat) (M : xM), xd2 (fun Q => w_R_number_22 n l1 l2 M Q)
  | 0, _, _, _ => by unfold w_R_number_22; exact d2_f
  | n + 1, l1, l2, M => by
    unfold w_R_number_22 wi_R_number_22
    repeat' first
      | with_reducible exact d2_q _ _
      | with_reducible exact d2_f
      | with_reducible refine d2_s ?_ (fun _ => ?_)
      | with_reducible refine d2_i (fun _ => ?_) (fun _ => ?_)
      | with_reducible refine d2_a (fun _ => ?_)
      | with_reducible refine d2_e (fun _ => ?_)
      | exact yd_R_number_22 n _ _ _
set_option maxRecDepth 8000 in
set_option maxHeartbeats 4000000 in
theorem yd_R_number (M : xM) : xd2 (fun Q => w_R_number M Q) := by
  unfold w_R_number
  repeat' first
    | with_reducible exact d2_q _ _
    | with_reducible exact d2_f
    | with_reducible refine d22 (yd_R_number_22 _ _ _ _) (fun _ _ => ?_)
    | with_reducible exact yd_R_number_22 _ _ _ _
    | with_reducible refine d2_s ?_ (fun _ => ?_)
    | with_reducible refine d2_i (fun _ => ?_) (fun _ => ?_)
    | with_reducible refine d2_a (fun _ => ?_)
    | with_reducible refine d2_e (fun _ => ?_)
set_option maxRecDepth 8000 in
set_option maxHeartbeats 4000000 in
theorem yd_R_takes (x1 : Nat) (M : xM) : xd2 (fun Q => w_R_takes x1 M Q) := by
  unfold w_R_takes
  repeat' first
    | with_reducible exact d2_q _ _
    | with_reducible exact d2_f
    | with_reducible refine d2_s ?_ (fun _ => ?_)
    | with_reducible refine d2_i (fun _ => ?_) (fun _ => ?_)
    | with_reducible refine d2_a (fun _ => ?_)
    | with_reducible refine d2_e (fun _ => ?_)
set_option maxRecDepth 8000 in
set_option maxHeartbeats 4000000 in
theorem yd_R_fits_124 (l1 : Nat) (M : xM) : xd2 (fun Q => w_R_fits_124 l1 M Q) := by
  unfold w_R_fits_124
  repeat' first
    | with_reducible exact d2_q _ _
    | with_reducible exact d2_f
    | with_reducible refine d21 (yd_R_wrong _ _) (fun _ => ?_)
    | with_reducible exact yd_R_wrong _ _
    | with_reducible refine d2_s ?_ (fun _ => ?_)
    | with_reducible refine d2_i (fun _ => ?_) (fun _ => ?_)
    | with_reducible refine d2_a (fun _ => ?_)
    | with_reducible refine d2_e (fun _ => ?_)
set_option maxRecDepth 8000 in
set_option maxHeartbeats 4000000 in
theorem yd_R_fits_109 (l1 : Nat) (M : xM) : xd2 (fun Q => w_R_fits_109 l1 M Q) := by
  unfold w_R_fits_109
  repeat' first
    | with_reducible exact d2_q _ _
    | with_reducible exact d2_f
    | with_reducible refine d21 (yd_R_wrong _ _) (fun _ => ?_)
    | with_reducible exact yd_R_wrong _ _
    | with_reducible refine d22 (yd_R_fits_124 _ _) (fun _ _ => ?_)
    | with_reducible exact yd_R_fits_124 _ _
    | with_reducible refine d2_s ?_ (fun _ => ?_)
    | with_reducible refine d2_i (fun _ => ?_) (fun _ => ?_)
    | with_reducible refine d2_a (fun _ => ?_)
    | with_reducible refine d2_e (fun _ => ?_)
set_option maxRecDepth 8000 in
set_option maxHeartbeats 4000000 in
theorem yd_R_fits_104 (l1 : Nat) (M : xM) : xd2 (fun Q => w_R_fits_104 l1 M Q) := by
  unfold w_R_fits_104
  repeat' first
    | with_reducible exact d2_q _ _
    | with_reducible exact d2_f
    | with_reducible refine d21 (yd_R_wrong _ _) (fun _ => ?_)
    | with_reducible exact yd_R_wrong _ _
    | with_reducible refine d22 (yd_R_fits_109 _ _) (fun _ _ => ?_)
    | with_reducible exact yd_R_fits_109 _ _
    | with_reducible refine d2_s ?_ (fun _ => ?_)
    | with_reducible refine d2_i (fun _ => ?_) (fun _ => ?_)
    | with_reducible refine d2_a (fun _ => ?_)
    | with_reducible refine d2_e (fun _ => ?_)
set_option maxRecDepth 8000 in
set_option maxHeartbeats 4000000 in
theorem yd_R_fits_97 (l1 : Nat) (M : xM) : xd2 (fun Q => w_R_fits_97 l1 M Q) := by
  unfold w_R_fits_97
  repeat' first
    | with_reducible exact d2_q _ _
    | with_reducible exact d2_f
    | with_reducible refine d22 (yd_R_fits_104 _ _) (fun _ _ => ?_)
    | with_reducible exact yd_R_fits_104 _ _
    | with_reducible refine d22 (yd_R_fits_109 _ _) (fun _ _ => ?_)
    | with_reducible exact yd_R_fits_109 _ _
    | with_reducible refine d2_s ?_ (fun _ => ?_)
    | with_reducible refine d2_i (fun _ => ?_) (fun _ => ?_)
    | with_reducible refine d2_a (fun _ => ?_)
    | with_reducible refine d2_e (fun _ => ?_)
set_option maxRecDepth 8000 in
set_option maxHeartbeats 4000000 in
theorem yd_R_fits_85 (l1 : Nat) (M : xM) : xd2 (fun Q => w_R_fits_85 l1 M Q) := by
  unfold w_R_fits_85
  repeat' first
    | with_reducible exact d2_q _ _
    | with_reducible exact d2_f
    | with_reducible refine d22 (yd_R_fits_97 _ _) (fun _ _ => ?_)
    | with_reducible exact yd_R_fits_97 _ _
    | with_reducible refine d22 (yd_R_fits_109 _ _) (fun _ _ => ?_)
    | with_reducible exact yd_R_fits_109 _ _
    | with_reducible refine d2_s ?_ (fun _ => ?_)
    | with_reducible refine d2_i (fun _ => ?_) (fun _ => ?_)
    | with_reducible refine d2_a (fun _ => ?_)
    | with_reducible refine d2_e (fun _ => ?_)
set_option maxRecDepth 8000 in
set_option maxHeartbeats 4000000 in
theorem yd_R_fits_70 (l1 : Nat) (M : xM) : xd2 (fun Q => w_R_fits_70 l1 M Q) := by
  unfold w_R_fits_70
  repeat' first
    | with_reducible exact d2_q _ _
    | with_reducible exact d2_f
    | with_reducible refine d22 (yd_R_fits_104 _ _) (fun _ _ => ?_)
    | with_reducible exact yd_R_fits_104 _ _
    | with_reducible refine d22 (yd_R_fits_85 _ _) (fun _ _ => ?_)
    | with_reducible exact yd_R_fits_85 _ _
    | with_reducible refine d2_s ?_ (fun _ => ?_)
    | with_reducible refine d2_i (fun _ => ?_) (fun _ => ?_)
    | with_reducible refine d2_a (fun _ => ?_)
    | with_reducible refine d2_e (fun _ => ?_)
set_option maxRecDepth 8000 in
set_option maxHeartbeats 4000000 in
theorem yd_R_fits_44 (l1 : Nat) (l2 : Int32) (M : xM) : xd2 (fun Q => w_R_fits_44 l1 l2 M Q) := by
  unfold w_R_fits_44
  repeat' first
    | with_reducible exact d2_q _ _
    | with_reducible exact d2_f
    | with_reducible refine d22 (yd_R_within_NNN _ _ _ _) (fun _ _ => ?_)
    | with_reducible exact yd_R_within_NNN _ _ _ _
    | with_reducible refine d22 (yd_R_fits_70 _ _) (fun _ _ => ?_)
    | with_reducible exact yd_R_fits_70 _ _
    | with_reducible refine d22 (yd_R_within_INN _ _ _ _) (fun _ _ => ?_)
    | with_reducible exact yd_R_within_INN _ _ _ _
    | with_reducible refine d21 (yd_R_wrong _ _) (fun _ => ?_)
    | with_reducible exact yd_R_wrong _ _
    | with_reducible refine d2_s ?_ (fun _ => ?_)
    | with_reducible refine d2_i (fun _ => ?_) (fun _ => ?_)
    | with_reducible refine d2_a (fun _ => ?_)
    | with_reducible refine d2_e (fun _ => ?_)
set_option maxRecDepth 8000 in
set_option maxHeartbeats 4000000 in
theorem yd_R_fits_35 (l1 : Nat) (l2 : Int32) (M : xM) : xd2 (fun Q => w_R_fits_35 l1 l2 M Q) := by
  unfold w_R_fits_35
  repeat' first
    | with_reducible exact d2_q _ _
    | with_reducible exact d2_f
    | with_reducible refine d21 (yd_R_wrong _ _) (fun _ => ?_)
    | with_reducible exact yd_R_wrong _ _
    | with_reducible refine d22 (yd_R_fits_44 _ _ _) (fun _ _ => ?_)
    | with_reducible exact yd_R_fits_44 _ _ _
    | with_reducible refine d2_s ?_ (fun _ => ?_)
    | with_reducible refine d2_i (fun _ => ?_) (fun _ => ?_)
    | with_reducible refine d2_a (fun _ => ?_)
    | with_reducible refine d2_e (fun _ => ?_)
set_option maxRecDepth 8000 in
set_option maxHeartbeats 4000000 in
theorem yd_R_fits (x1 : Nat) (M : xM) : xd2 (fun Q => w_R_fits x1 M Q) := by
  unfold w_R_fits
  repeat' first
    | with_reducible exact d2_q _ _
    | with_reducible exact d2_f
    | with_reducible refine d22 (yd_R_fits_35 _ _ _) (fun _ _ => ?_)
    | with_reducible exact yd_R_fits_35 _ _ _
    | with_reducible refine d22 (yd_R_fits_44 _ _ _) (fun _ _ => ?_)
    | with_reducible exact yd_R_fits_44 _ _ _
    | with_reducible refine d2_s ?_ (fun _ => ?_)
    | with_reducible refine d2_i (fun _ => ?_) (fun _ => ?_)
    | with_reducible refine d2_a (fun _ => ?_)
    | with_reducible refine d2_e (fun _ => ?_)
set_option maxRecDepth 8000 in
set_option maxHeartbeats 4000000 in
theorem yd_R_gives (x1 : Nat) (M : xM) : xd2 (fun Q => w_R_gives x1 M Q) := by
  unfold w_R_gives
  repeat' first
    | with_reducible exact d2_q _ _
    | with_reducible exact d2_f
    | with_reducible refine d2_s ?_ (fun _ => ?_)
    | with_reducible refine d2_i (fun _ => ?_) (fun _ => ?_)
    | with_reducible refine d2_a (fun _ => ?_)
    | with_reducible refine d2_e (fun _ => ?_)
set_option maxRecDepth 8000 in
set_option maxHeartbeats 4000000 in
theorem yd_R_pop (M : xM) : xd2 (fun Q => w_R_pop M Q) := by
  unfold w_R_pop
  repeat' first
    | with_reducible exact d2_q _ _
    | with_reducible exact d2_f
    | with_reducible refine d2_s ?_ (fun _ => ?_)
    | with_reducible refine d2_i (fun _ => ?_) (fun _ => ?_)
    | with_reducible refine d2_a (fun _ => ?_)
    | with_reducible refine d2_e (fun _ => ?_)
theorem yd_R_say_3 : ∀ (n : Nat) (l1 : Int32) (l2 : Nat) (M : xM), xd1 (fun Q => w_R_say_3 n l1 l2 M Q)
  | 0, _, _, _ => by unfold w_R_say_3; exact d1_f
  | n + 1, l1, l2, M => by
    unfold w_R_say_3 wi_R_say_3
    repeat' first
      | with_reducible exact d1_q _
      | with_reducible exact d1_f
      | with_reducible refine d1_s ?_ (fun _ => ?_)
      | with_reducible refine d1_i (fun _ => ?_) (fun _ => ?_)
      | with_reducible refine d1_a (fun _ => ?_)
      | with_reducible refine d1_e (fun _ => ?_)
      | exact yd_R_say_3 n _ _ _
set_option maxRecDepth 8000 in
set_option maxHeartbeats 4000000 in
theorem yd_R_say (x1 : Int32) (M : xM) : xd1 (fun Q => w_R_say x1 M Q) := by
  unfold w_R_say
  repeat' first
    | with_reducible exact d1_q _
    | with_reducible exact d1_f
    | with_reducible refine d11 (yd_R_say_3 _ _ _ _) (fun _ => ?_)
    | with_reducible exact yd_R_say_3 _ _ _ _
    | with_reducible refine d1_s ?_ (fun _ => ?_)
    | with_reducible refine d1_i (fun _ => ?_) (fun _ => ?_)
    | with_reducible refine d1_a (fun _ => ?_)
    | with_reducible refine d1_e (fun _ => ?_)
set_option maxRecDepth 8000 in
set_option maxHeartbeats 4000000 in
theorem yd_R_push (x1 : Int32) (M : xM) : xd1 (fun Q => w_R_push x1 M Q) := by
  unfold w_R_push
  repeat' first
    | with_reducible exact d1_q _
    | with_reducible exact d1_f
    | with_reducible refine d1_s ?_ (fun _ => ?_)
    | with_reducible refine d1_i (fun _ => ?_) (fun _ => ?_)
    | with_reducible refine d1_a (fun _ => ?_)
    | with_reducible refine d1_e (fun _ => ?_)
set_option maxRecDepth 8000 in
set_option maxHeartbeats 4000000 in
theorem yd_R_returnStack (x1 : Nat) (M : xM) : xd1 (fun Q => w_R_returnStack x1 M Q) := by
  unfold w_R_returnStack
  repeat' first
    | with_reducible exact d1_q _
    | with_reducible exact d1_f
    | with_reducible refine d12 (yd_R_pop _) (fun _ _ => ?_)
    | with_reducible exact yd_R_pop _
    | with_reducible refine d11 (yd_R_push _ _) (fun _ => ?_)
    | with_reducible exact yd_R_push _ _
    | with_reducible refine d1_s ?_ (fun _ => ?_)
    | with_reducible refine d1_i (fun _ => ?_) (fun _ => ?_)
    | with_reducible refine d1_a (fun _ => ?_)
    | with_reducible refine d1_e (fun _ => ?_)
set_option maxRecDepth 8000 in
set_option maxHeartbeats 4000000 in
theorem yd_R_access_21 (l1 : Nat) (l2 : Int32) (M : xM) : xd1 (fun Q => w_R_access_21 l1 l2 M Q) := by
  unfold w_R_access_21
  repeat' first
    | with_reducible exact d1_q _
    | with_reducible exact d1_f
    | with_reducible refine d12 (yd_R_pop _) (fun _ _ => ?_)
    | with_reducible exact yd_R_pop _
    | with_reducible refine d1_s ?_ (fun _ => ?_)
    | with_reducible refine d1_i (fun _ => ?_) (fun _ => ?_)
    | with_reducible refine d1_a (fun _ => ?_)
    | with_reducible refine d1_e (fun _ => ?_)
set_option maxRecDepth 8000 in
set_option maxHeartbeats 4000000 in
theorem yd_R_access (x1 : Nat) (M : xM) : xd1 (fun Q => w_R_access x1 M Q) := by
  unfold w_R_access
  repeat' first
    | with_reducible exact d1_q _
    | with_reducible exact d1_f
    | with_reducible refine d12 (yd_R_pop _) (fun _ _ => ?_)
    | with_reducible exact yd_R_pop _
    | with_reducible refine d11 (yd_R_push _ _) (fun _ => ?_)
    | with_reducible exact yd_R_push _ _
    | with_reducible refine d11 (yd_R_access_21 _ _ _) (fun _ => ?_)
    | with_reducible exact yd_R_access_21 _ _ _
    | with_reducible refine d1_s ?_ (fun _ => ?_)
    | with_reducible refine d1_i (fun _ => ?_) (fun _ => ?_)
    | with_reducible refine d1_a (fun _ => ?_)
    | with_reducible refine d1_e (fun _ => ?_)
set_option maxRecDepth 8000 in
set_option maxHeartbeats 4000000 in
theorem yd_R_shuffle_67 (l1 : Nat) (l2 : Int32) (l3 : Int32) (l4 : Int32) (M : xM) : xd1 (fun Q => w_R_shuffle_67 l1 l2 l3 l4 M Q) := by
  unfold w_R_shuffle_67
  repeat' first
    | with_reducible exact d1_q _
    | with_reducible exact d1_f
    | with_reducible refine d11 (yd_R_push _ _) (fun _ => ?_)
    | with_reducible exact yd_R_push _ _
    | with_reducible refine d1_s ?_ (fun _ => ?_)
    | with_reducible refine d1_i (fun _ => ?_) (fun _ => ?_)
    | with_reducible refine d1_a (fun _ => ?_)
    | with_reducible refine d1_e (fun _ => ?_)
set_option maxRecDepth 8000 in
set_option maxHeartbeats 4000000 in
theorem yd_R_shuffle (x1 : Nat) (M : xM) : xd1 (fun Q => w_R_shuffle x1 M Q) := by
  unfold w_R_shuffle
  repeat' first
    | with_reducible exact d1_q _
    | with_reducible exact d1_f
    | with_reducible refine d12 (yd_R_pop _) (fun _ _ => ?_)
    | with_reducible exact yd_R_pop _
    | with_reducible refine d11 (yd_R_push _ _) (fun _ => ?_)
    | with_reducible exact yd_R_push _ _
    | with_reducible refine d11 (yd_R_shuffle_67 _ _ _ _ _) (fun _ => ?_)
    | with_reducible exact yd_R_shuffle_67 _ _ _ _ _
    | with_reducible refine d1_s ?_ (fun _ => ?_)
    | with_reducible refine d1_i (fun _ => ?_) (fun _ => ?_)
    | with_reducible refine d1_a (fun _ => ?_)
    | with_reducible refine d1_e (fun _ => ?_)
set_option maxRecDepth 8000 in
set_option maxHeartbeats 4000000 in
theorem yd_R_single (x1 : Nat) (x2 : Int32) (M : xM) : xd2 (fun Q => w_R_single x1 x2 M Q) := by
  unfold w_R_single
  repeat' first
    | with_reducible exact d2_q _ _
    | with_reducible exact d2_f
    | with_reducible refine d2_s ?_ (fun _ => ?_)
    | with_reducible refine d2_i (fun _ => ?_) (fun _ => ?_)
    | with_reducible refine d2_a (fun _ => ?_)
    | with_reducible refine d2_e (fun _ => ?_)
set_option maxRecDepth 8000 in
set_option maxHeartbeats 4000000 in
theorem yd_R_arithmetic (x1 : Nat) (x2 : Int32) (x3 : Int32) (M : xM) : xd2 (fun Q => w_R_arithmetic x1 x2 x3 M Q) := by
  unfold w_R_arithmetic
  repeat' first
    | with_reducible exact d2_q _ _
    | with_reducible exact d2_f
    | with_reducible refine d2_s ?_ (fun _ => ?_)
    | with_reducible refine d2_i (fun _ => ?_) (fun _ => ?_)
    | with_reducible refine d2_a (fun _ => ?_)
    | with_reducible refine d2_e (fun _ => ?_)
set_option maxRecDepth 8000 in
set_option maxHeartbeats 4000000 in
theorem yd_R_does (x1 : Nat) (x2 : Int32) (M : xM) : xd1 (fun Q => w_R_does x1 x2 M Q) := by
  unfold w_R_does
  repeat' first
    | with_reducible exact d1_q _
    | with_reducible exact d1_f
    | with_reducible refine d11 (yd_R_push _ _) (fun _ => ?_)
    | with_reducible exact yd_R_push _ _
    | with_reducible refine d12 (yd_R_pop _) (fun _ _ => ?_)
    | with_reducible exact yd_R_pop _
    | with_reducible refine d11 (yd_R_say _ _) (fun _ => ?_)
    | with_reducible exact yd_R_say _ _
    | with_reducible refine d11 (yd_R_returnStack _ _) (fun _ => ?_)
    | with_reducible exact yd_R_returnStack _ _
    | with_reducible refine d11 (yd_R_access _ _) (fun _ => ?_)
    | with_reducible exact yd_R_access _ _
    | with_reducible refine d11 (yd_R_shuffle _ _) (fun _ => ?_)
    | with_reducible exact yd_R_shuffle _ _
    | with_reducible refine d12 (yd_R_single _ _ _) (fun _ _ => ?_)
    | with_reducible exact yd_R_single _ _ _
    | with_reducible refine d12 (yd_R_arithmetic _ _ _ _) (fun _ _ => ?_)
    | with_reducible exact yd_R_arithmetic _ _ _ _
    | with_reducible refine d1_s ?_ (fun _ => ?_)
    | with_reducible refine d1_i (fun _ => ?_) (fun _ => ?_)
    | with_reducible refine d1_a (fun _ => ?_)
    | with_reducible refine d1_e (fun _ => ?_)
set_option maxRecDepth 8000 in
set_option maxHeartbeats 4000000 in
theorem yd_R_perform_16 (l1 : Nat) (l2 : Int32) (M : xM) : xd1 (fun Q => w_R_perform_16 l1 l2 M Q) := by
  unfold w_R_perform_16
  repeat' first
    | with_reducible exact d1_q _
    | with_reducible exact d1_f
    | with_reducible refine d12 (yd_R_fits _ _) (fun _ _ => ?_)
    | with_reducible exact yd_R_fits _ _
    | with_reducible refine d12 (yd_R_takes _ _) (fun _ _ => ?_)
    | with_reducible exact yd_R_takes _ _
    | with_reducible refine d12 (yd_R_gives _ _) (fun _ _ => ?_)
    | with_reducible exact yd_R_gives _ _
    | with_reducible refine d11 (yd_R_does _ _ _) (fun _ => ?_)
    | with_reducible exact yd_R_does _ _ _
    | with_reducible refine d11 (yd_R_wrong _ _) (fun _ => ?_)
    | with_reducible exact yd_R_wrong _ _
    | with_reducible refine d1_s ?_ (fun _ => ?_)
    | with_reducible refine d1_i (fun _ => ?_) (fun _ => ?_)
    | with_reducible refine d1_a (fun _ => ?_)
    | with_reducible refine d1_e (fun _ => ?_)
set_option maxRecDepth 8000 in
set_option maxHeartbeats 4000000 in
theorem yd_R_perform (x1 : Nat) (x2 : Int32) (M : xM) : xd1 (fun Q => w_R_perform x1 x2 M Q) := by
  unfold w_R_perform
  repeat' first
    | with_reducible exact d1_q _
    | with_reducible exact d1_f
    | with_reducible refine d12 (yd_R_takes _ _) (fun _ _ => ?_)
    | with_reducible exact yd_R_takes _ _
    | with_reducible refine d11 (yd_R_perform_16 _ _ _) (fun _ => ?_)
    | with_reducible exact yd_R_perform_16 _ _ _
    | with_reducible refine d11 (yd_R_wrong _ _) (fun _ => ?_)
    | with_reducible exact yd_R_wrong _ _
    | with_reducible refine d1_s ?_ (fun _ => ?_)
    | with_reducible refine d1_i (fun _ => ?_) (fun _ => ?_)
    | with_reducible refine d1_a (fun _ => ?_)
    | with_reducible refine d1_e (fun _ => ?_)
set_option maxRecDepth 8000 in
set_option maxHeartbeats 4000000 in
theorem yd_R_name_29 (M : xM) : xd2 (fun Q => w_R_name_29 M Q) := by
  unfold w_R_name_29
  repeat' first
    | with_reducible exact d2_q _ _
    | with_reducible exact d2_f
    | with_reducible refine d21 (yd_R_wrong _ _) (fun _ => ?_)
    | with_reducible exact yd_R_wrong _ _
    | with_reducible refine d22 (yd_R_packed _) (fun _ _ => ?_)
    | with_reducible exact yd_R_packed _
    | with_reducible refine d2_s ?_ (fun _ => ?_)
    | with_reducible refine d2_i (fun _ => ?_) (fun _ => ?_)
    | with_reducible refine d2_a (fun _ => ?_)
    | with_reducible refine d2_e (fun _ => ?_)
set_option maxRecDepth 8000 in
set_option maxHeartbeats 4000000 in
theorem yd_R_name (M : xM) : xd2 (fun Q => w_R_name M Q) := by
  unfold w_R_name
  repeat' first
    | with_reducible exact d2_q _ _
    | with_reducible exact d2_f
    | with_reducible refine d22 (yd_R_word _) (fun _ _ => ?_)
    | with_reducible exact yd_R_word _
    | with_reducible refine d22 (yd_R_name_29 _) (fun _ _ => ?_)
    | with_reducible exact yd_R_name_29 _
    | with_reducible refine d21 (yd_R_wrong _ _) (fun _ => ?_)
    | with_reducible exact yd_R_wrong _ _
    | with_reducible refine d22 (yd_R_packed _) (fun _ _ => ?_)
    | with_reducible exact yd_R_packed _
    | with_reducible refine d2_s ?_ (fun _ => ?_)
    | with_reducible refine d2_i (fun _ => ?_) (fun _ => ?_)
    | with_reducible refine d2_a (fun _ => ?_)
    | with_reducible refine d2_e (fun _ => ?_)
set_option maxRecDepth 8000 in
set_option maxHeartbeats 4000000 in
theorem yd_R_begin (x1 : Int64) (M : xM) : xd1 (fun Q => w_R_begin x1 M Q) := by
  unfold w_R_begin
  repeat' first
    | with_reducible exact d1_q _
    | with_reducible exact d1_f
    | with_reducible refine d1_s ?_ (fun _ => ?_)
    | with_reducible refine d1_i (fun _ => ?_) (fun _ => ?_)
    | with_reducible refine d1_a (fun _ => ?_)
    | with_reducible refine d1_e (fun _ => ?_)
set_option maxRecDepth 8000 in
set_option maxHeartbeats 4000000 in
theorem yd_R_flushes (x1 : Nat) (M : xM) : xd2 (fun Q => w_R_flushes x1 M Q) := by
  unfold w_R_flushes
  repeat' first
    | with_reducible exact d2_q _ _
    | with_reducible exact d2_f
    | with_reducible refine d2_s ?_ (fun _ => ?_)
    | with_reducible refine d2_i (fun _ => ?_) (fun _ => ?_)
    | with_reducible refine d2_a (fun _ => ?_)
    | with_reducible refine d2_e (fun _ => ?_)
set_option maxRecDepth 8000 in
set_option maxHeartbeats 4000000 in
theorem yd_R_flush (M : xM) : xd1 (fun Q => w_R_flush M Q) := by
  unfold w_R_flush
  repeat' first
    | with_reducible exact d1_q _
    | with_reducible exact d1_f
    | with_reducible refine d1_s ?_ (fun _ => ?_)
    | with_reducible refine d1_i (fun _ => ?_) (fun _ => ?_)
    | with_reducible refine d1_a (fun _ => ?_)
    | with_reducible refine d1_e (fun _ => ?_)
set_option maxRecDepth 8000 in
set_option maxHeartbeats 4000000 in
theorem yd_R_add_112 (l1 : Nat) (l2 : Int32) (l3 : Nat) (l4 : Nat) (M : xM) : xd1 (fun Q => w_R_add_112 l1 l2 l3 l4 M Q) := by
  unfold w_R_add_112
  repeat' first
    | with_reducible exact d1_q _
    | with_reducible exact d1_f
    | with_reducible refine d1_s ?_ (fun _ => ?_)
    | with_reducible refine d1_i (fun _ => ?_) (fun _ => ?_)
    | with_reducible refine d1_a (fun _ => ?_)
    | with_reducible refine d1_e (fun _ => ?_)
set_option maxRecDepth 8000 in
set_option maxHeartbeats 4000000 in
theorem yd_R_add_33 (l1 : Nat) (l2 : Int32) (l3 : Nat) (M : xM) : xd1 (fun Q => w_R_add_33 l1 l2 l3 M Q) := by
  unfold w_R_add_33
  repeat' first
    | with_reducible exact d1_q _
    | with_reducible exact d1_f
    | with_reducible refine d12 (yd_R_takes _ _) (fun _ _ => ?_)
    | with_reducible exact yd_R_takes _ _
    | with_reducible refine d12 (yd_R_gives _ _) (fun _ _ => ?_)
    | with_reducible exact yd_R_gives _ _
    | with_reducible refine d11 (yd_R_add_112 _ _ _ _ _) (fun _ => ?_)
    | with_reducible exact yd_R_add_112 _ _ _ _ _
    | with_reducible refine d1_s ?_ (fun _ => ?_)
    | with_reducible refine d1_i (fun _ => ?_) (fun _ => ?_)
    | with_reducible refine d1_a (fun _ => ?_)
    | with_reducible refine d1_e (fun _ => ?_)
set_option maxRecDepth 8000 in
set_option maxHeartbeats 4000000 in
theorem yd_R_add (x1 : Nat) (x2 : Int32) (M : xM) : xd1 (fun Q => w_R_add x1 x2 M Q) := by
  unfold w_R_add
  repeat' first
    | with_reducible exact d1_q _
    | with_reducible exact d1_f
    | with_reducible refine d11 (yd_R_wrong _ _) (fun _ => ?_)
    | with_reducible exact yd_R_wrong _ _
    | with_reducible refine d12 (yd_R_flushes _ _) (fun _ _ => ?_)
    | with_reducible exact yd_R_flushes _ _
    | with_reducible refine d11 (yd_R_add_33 _ _ _ _) (fun _ => ?_)
    | with_reducible exact yd_R_add_33 _ _ _ _
    | with_reducible refine d11 (yd_R_flush _) (fun _ => ?_)
    | with_reducible exact yd_R_flush _
    | with_reducible refine d1_s ?_ (fun _ => ?_)
    | with_reducible refine d1_i (fun _ => ?_) (fun _ => ?_)
    | with_reducible refine d1_a (fun _ => ?_)
    | with_reducible refine d1_e (fun _ => ?_)
set_option maxRecDepth 8000 in
set_option maxHeartbeats 4000000 in
theorem yd_R_simple (x1 : Int64) (x2 : Int32) (M : xM) : xd1 (fun Q => w_R_simple x1 x2 M Q) := by
  unfold w_R_simple
  repeat' first
    | with_reducible exact d1_q _
    | with_reducible exact d1_f
    | with_reducible refine d11 (yd_R_begin _ _) (fun _ => ?_)
    | with_reducible exact yd_R_begin _ _
    | with_reducible refine d11 (yd_R_add _ _ _) (fun _ => ?_)
    | with_reducible exact yd_R_add _ _ _
    | with_reducible refine d11 (yd_R_flush _) (fun _ => ?_)
    | with_reducible exact yd_R_flush _
    | with_reducible refine d1_s ?_ (fun _ => ?_)
    | with_reducible refine d1_i (fun _ => ?_) (fun _ => ?_)
    | with_reducible refine d1_a (fun _ => ?_)
    | with_reducible refine d1_e (fun _ => ?_)
set_option maxRecDepth 8000 in
set_option maxHeartbeats 4000000 in
theorem yd_R_defines (x1 : Nat) (M : xM) : xd1 (fun Q => w_R_defines x1 M Q) := by
  unfold w_R_defines
  repeat' first
    | with_reducible exact d1_q _
    | with_reducible exact d1_f
    | with_reducible refine d12 (yd_R_name _) (fun _ _ => ?_)
    | with_reducible exact yd_R_name _
    | with_reducible refine d11 (yd_R_begin _ _) (fun _ => ?_)
    | with_reducible exact yd_R_begin _ _
    | with_reducible refine d11 (yd_R_wrong _ _) (fun _ => ?_)
    | with_reducible exact yd_R_wrong _ _
    | with_reducible refine d11 (yd_R_simple _ _ _) (fun _ => ?_)
    | with_reducible exact yd_R_simple _ _ _
    | with_reducible refine d12 (yd_R_pop _) (fun _ _ => ?_)
    | with_reducible exact yd_R_pop _
    | with_reducible refine d1_s ?_ (fun _ => ?_)
    | with_reducible refine d1_i (fun _ => ?_) (fun _ => ?_)
    | with_reducible refine d1_a (fun _ => ?_)
    | with_reducible refine d1_e (fun _ => ?_)
set_option maxRecDepth 8000 in
set_option maxHeartbeats 4000000 in
theorem yd_R_enter (x1 : Nat) (M : xM) : xd1 (fun Q => w_R_enter x1 M Q) := by
  unfold w_R_enter
  repeat' first
    | with_reducible exact d1_q _
    | with_reducible exact d1_f
    | with_reducible refine d11 (yd_R_wrong _ _) (fun _ => ?_)
    | with_reducible exact yd_R_wrong _ _
    | with_reducible refine d1_s ?_ (fun _ => ?_)
    | with_reducible refine d1_i (fun _ => ?_) (fun _ => ?_)
    | with_reducible refine d1_a (fun _ => ?_)
    | with_reducible refine d1_e (fun _ => ?_)
set_option maxRecDepth 8000 in
set_option maxHeartbeats 4000000 in
theorem yd_R_goes (x1 : Nat) (x2 : Int32) (M : xM) : xd1 (fun Q => w_R_goes x1 x2 M Q) := by
  unfold w_R_goes
  repeat' first
    | with_reducible exact d1_q _
    | with_reducible exact d1_f
    | with_reducible refine d12 (yd_R_pop _) (fun _ _ => ?_)
    | with_reducible exact yd_R_pop _
    | with_reducible refine d1_s ?_ (fun _ => ?_)
    | with_reducible refine d1_i (fun _ => ?_) (fun _ => ?_)
    | with_reducible refine d1_a (fun _ => ?_)
    | with_reducible refine d1_e (fun _ => ?_)
set_option maxRecDepth 8000 in
set_option maxHeartbeats 4000000 in
theorem yd_R_operate_241 (l1 : Nat) (l3 : Nat) (M : xM) : xd1 (fun Q => w_R_operate_241 l1 l3 M Q) := by
  unfold w_R_operate_241
  repeat' first
    | with_reducible exact d1_q _
    | with_reducible exact d1_f
    | with_reducible refine d1_s ?_ (fun _ => ?_)
    | with_reducible refine d1_i (fun _ => ?_) (fun _ => ?_)
    | with_reducible refine d1_a (fun _ => ?_)
    | with_reducible refine d1_e (fun _ => ?_)
set_option maxRecDepth 8000 in
set_option maxHeartbeats 4000000 in
theorem yd_R_operate_216 (l1 : Nat) (l2 : Nat) (l3 : Nat) (M : xM) : xd1 (fun Q => w_R_operate_216 l1 l2 l3 M Q) := by
  unfold w_R_operate_216
  repeat' first
    | with_reducible exact d1_q _
    | with_reducible exact d1_f
    | with_reducible refine d11 (yd_R_operate_241 _ _ _) (fun _ => ?_)
    | with_reducible exact yd_R_operate_241 _ _ _
    | with_reducible refine d1_s ?_ (fun _ => ?_)
    | with_reducible refine d1_i (fun _ => ?_) (fun _ => ?_)
    | with_reducible refine d1_a (fun _ => ?_)
    | with_reducible refine d1_e (fun _ => ?_)
set_option maxRecDepth 8000 in
set_option maxHeartbeats 4000000 in
theorem yd_R_operate_190 (l1 : Nat) (l2 : Nat) (l3 : Nat) (M : xM) : xd1 (fun Q => w_R_operate_190 l1 l2 l3 M Q) := by
  unfold w_R_operate_190
  repeat' first
    | with_reducible exact d1_q _
    | with_reducible exact d1_f
    | with_reducible refine d12 (yd_R_fits _ _) (fun _ _ => ?_)
    | with_reducible exact yd_R_fits _ _
    | with_reducible refine d11 (yd_R_operate_216 _ _ _ _) (fun _ => ?_)
    | with_reducible exact yd_R_operate_216 _ _ _ _
    | with_reducible refine d11 (yd_R_goes _ _ _) (fun _ => ?_)
    | with_reducible exact yd_R_goes _ _ _
    | with_reducible refine d1_s ?_ (fun _ => ?_)
    | with_reducible refine d1_i (fun _ => ?_) (fun _ => ?_)
    | with_reducible refine d1_a (fun _ => ?_)
    | with_reducible refine d1_e (fun _ => ?_)
set_option maxRecDepth 8000 in
set_option maxHeartbeats 4000000 in
theorem yd_R_operate_101 (l1 : Nat) (l2 : Nat) (l3 : Nat) (M : xM) : xd1 (fun Q => w_R_operate_101 l1 l2 l3 M Q) := by
  unfold w_R_operate_101
  repeat' first
    | with_reducible exact d1_q _
    | with_reducible exact d1_f
    | with_reducible refine d11 (yd_R_operate_216 _ _ _ _) (fun _ => ?_)
    | with_reducible exact yd_R_operate_216 _ _ _ _
    | with_reducible refine d11 (yd_R_enter _ _) (fun _ => ?_)
    | with_reducible exact yd_R_enter _ _
    | with_reducible refine d12 (yd_R_takes _ _) (fun _ _ => ?_)
    | with_reducible exact yd_R_takes _ _
    | with_reducible refine d11 (yd_R_operate_190 _ _ _ _) (fun _ => ?_)
    | with_reducible exact yd_R_operate_190 _ _ _ _
    | with_reducible refine d11 (yd_R_wrong _ _) (fun _ => ?_)
    | with_reducible exact yd_R_wrong _ _
    | with_reducible refine d11 (yd_R_perform _ _ _) (fun _ => ?_)
    | with_reducible exact yd_R_perform _ _ _
    | with_reducible refine d1_s ?_ (fun _ => ?_)
    | with_reducible refine d1_i (fun _ => ?_) (fun _ => ?_)
    | with_reducible refine d1_a (fun _ => ?_)
    | with_reducible refine d1_e (fun _ => ?_)
set_option maxRecDepth 8000 in
set_option maxHeartbeats 4000000 in
theorem yd_R_operate_44 (l1 : Nat) (l2 : Nat) (l3 : Nat) (M : xM) : xd1 (fun Q => w_R_operate_44 l1 l2 l3 M Q) := by
  unfold w_R_operate_44
  repeat' first
    | with_reducible exact d1_q _
    | with_reducible exact d1_f
    | with_reducible refine d12 (yd_R_takes _ _) (fun _ _ => ?_)
    | with_reducible exact yd_R_takes _ _
    | with_reducible refine d11 (yd_R_operate_101 _ _ _ _) (fun _ => ?_)
    | with_reducible exact yd_R_operate_101 _ _ _ _
    | with_reducible refine d1_s ?_ (fun _ => ?_)
    | with_reducible refine d1_i (fun _ => ?_) (fun _ => ?_)
    | with_reducible refine d1_a (fun _ => ?_)
    | with_reducible refine d1_e (fun _ => ?_)
set_option maxRecDepth 8000 in
set_option maxHeartbeats 4000000 in
theorem yd_R_operate (M : xM) : xd1 (fun Q => w_R_operate M Q) := by
  unfold w_R_operate
  repeat' first
    | with_reducible exact d1_q _
    | with_reducible exact d1_f
    | with_reducible refine d12 (yd_R_step _) (fun _ _ => ?_)
    | with_reducible exact yd_R_step _
    | with_reducible refine d11 (yd_R_operate_44 _ _ _ _) (fun _ => ?_)
    | with_reducible exact yd_R_operate_44 _ _ _ _
    | with_reducible refine d1_s ?_ (fun _ => ?_)
    | with_reducible refine d1_i (fun _ => ?_) (fun _ => ?_)
    | with_reducible refine d1_a (fun _ => ?_)
    | with_reducible refine d1_e (fun _ => ?_)
theorem yd_R_run_13 : ∀ (n : Nat) (M : xM), xd1 (fun Q => w_R_run_13 n M Q)
  | 0, _ => by unfold w_R_run_13; exact d1_f
  | n + 1, M => by
    unfold w_R_run_13 wi_R_run_13
    repeat' first
      | with_reducible exact d1_q _
      | with_reducible exact d1_f
      | with_reducible refine d11 (yd_R_operate _) (fun _ => ?_)
      | with_reducible exact yd_R_operate _
      | with_reducible refine d1_s ?_ (fun _ => ?_)
      | with_reducible refine d1_i (fun _ => ?_) (fun _ => ?_)
      | with_reducible refine d1_a (fun _ => ?_)
      | with_reducible refine d1_e (fun _ => ?_)
      | exact yd_R_run_13 n _
set_option maxRecDepth 8000 in
set_option maxHeartbeats 4000000 in
theorem yd_R_run (x1 : Nat) (M : xM) : xd1 (fun Q => w_R_run x1 M Q) := by
  unfold w_R_run
  repeat' first
    | with_reducible exact d1_q _
    | with_reducible exact d1_f
    | with_reducible refine d12 (yd_R_step _) (fun _ _ => ?_)
    | with_reducible exact yd_R_step _
    | with_reducible refine d11 (yd_R_enter _ _) (fun _ => ?_)
    | with_reducible exact yd_R_enter _ _
    | with_reducible refine d11 (yd_R_run_13 _ _) (fun _ => ?_)
    | with_reducible exact yd_R_run_13 _ _
    | with_reducible refine d1_s ?_ (fun _ => ?_)
    | with_reducible refine d1_i (fun _ => ?_) (fun _ => ?_)
    | with_reducible refine d1_a (fun _ => ?_)
    | with_reducible refine d1_e (fun _ => ?_)
set_option maxRecDepth 8000 in
set_option maxHeartbeats 4000000 in
theorem yd_R_other (x1 : Int64) (M : xM) : xd2 (fun Q => w_R_other x1 M Q) := by
  unfold w_R_other
  repeat' first
    | with_reducible exact d2_q _ _
    | with_reducible exact d2_f
    | with_reducible refine d2_s ?_ (fun _ => ?_)
    | with_reducible refine d2_i (fun _ => ?_) (fun _ => ?_)
    | with_reducible refine d2_a (fun _ => ?_)
    | with_reducible refine d2_e (fun _ => ?_)
set_option maxRecDepth 8000 in
set_option maxHeartbeats 4000000 in
theorem yd_R_acts_76 (l4 : Nat) (M : xM) : xd1 (fun Q => w_R_acts_76 l4 M Q) := by
  unfold w_R_acts_76
  repeat' first
    | with_reducible exact d1_q _
    | with_reducible exact d1_f
    | with_reducible refine d12 (yd_R_within_ZNN _ _ _ _ _) (fun _ _ => ?_)
    | with_reducible exact yd_R_within_ZNN _ _ _ _ _
    | with_reducible refine d12 (yd_R_isNumber _) (fun _ _ => ?_)
    | with_reducible exact yd_R_isNumber _
    | with_reducible refine d11 (yd_R_wrong _ _) (fun _ => ?_)
    | with_reducible exact yd_R_wrong _ _
    | with_reducible refine d12 (yd_R_step _) (fun _ _ => ?_)
    | with_reducible exact yd_R_step _
    | with_reducible refine d12 (yd_R_number _) (fun _ _ => ?_)
    | with_reducible exact yd_R_number _
    | with_reducible refine d11 (yd_R_perform _ _ _) (fun _ => ?_)
    | with_reducible exact yd_R_perform _ _ _
    | with_reducible refine d11 (yd_R_defines _ _) (fun _ => ?_)
    | with_reducible exact yd_R_defines _ _
    | with_reducible refine d1_s ?_ (fun _ => ?_)
    | with_reducible refine d1_i (fun _ => ?_) (fun _ => ?_)
    | with_reducible refine d1_a (fun _ => ?_)
    | with_reducible refine d1_e (fun _ => ?_)
set_option maxRecDepth 8000 in
set_option maxHeartbeats 4000000 in
theorem yd_R_acts_32 (l3 : Nat) (l4 : Nat) (M : xM) : xd1 (fun Q => w_R_acts_32 l3 l4 M Q) := by
  unfold w_R_acts_32
  repeat' first
    | with_reducible exact d1_q _
    | with_reducible exact d1_f
    | with_reducible refine d11 (yd_R_run _ _) (fun _ => ?_)
    | with_reducible exact yd_R_run _ _
    | with_reducible refine d11 (yd_R_acts_76 _ _) (fun _ => ?_)
    | with_reducible exact yd_R_acts_76 _ _
    | with_reducible refine d12 (yd_R_step _) (fun _ _ => ?_)
    | with_reducible exact yd_R_step _
    | with_reducible refine d11 (yd_R_perform _ _ _) (fun _ => ?_)
    | with_reducible exact yd_R_perform _ _ _
    | with_reducible refine d1_s ?_ (fun _ => ?_)
    | with_reducible refine d1_i (fun _ => ?_) (fun _ => ?_)
    | with_reducible refine d1_a (fun _ => ?_)
    | with_reducible refine d1_e (fun _ => ?_)
set_option maxRecDepth 8000 in
set_option maxHeartbeats 4000000 in
theorem yd_R_acts (x1 : Int64) (M : xM) : xd1 (fun Q => w_R_acts x1 M Q) := by
  unfold w_R_acts
  repeat' first
    | with_reducible exact d1_q _
    | with_reducible exact d1_f
    | with_reducible refine d12 (yd_R_find _ _) (fun _ _ => ?_)
    | with_reducible exact yd_R_find _ _
    | with_reducible refine d12 (yd_R_builtIn _ _) (fun _ _ => ?_)
    | with_reducible exact yd_R_builtIn _ _
    | with_reducible refine d11 (yd_R_acts_32 _ _ _) (fun _ => ?_)
    | with_reducible exact yd_R_acts_32 _ _ _
    | with_reducible refine d12 (yd_R_other _ _) (fun _ _ => ?_)
    | with_reducible exact yd_R_other _ _
    | with_reducible refine d1_s ?_ (fun _ => ?_)
    | with_reducible refine d1_i (fun _ => ?_) (fun _ => ?_)
    | with_reducible refine d1_a (fun _ => ?_)
    | with_reducible refine d1_e (fun _ => ?_)
set_option maxRecDepth 8000 in
set_option maxHeartbeats 4000000 in
theorem yd_R_closes (x1 : Nat) (x2 : Nat) (M : xM) : xd2 (fun Q => w_R_closes x1 x2 M Q) := by
  unfold w_R_closes
  repeat' first
    | with_reducible exact d2_q _ _
    | with_reducible exact d2_f
    | with_reducible refine d21 (yd_R_wrong _ _) (fun _ => ?_)
    | with_reducible exact yd_R_wrong _ _
    | with_reducible refine d2_s ?_ (fun _ => ?_)
    | with_reducible refine d2_i (fun _ => ?_) (fun _ => ?_)
    | with_reducible refine d2_a (fun _ => ?_)
    | with_reducible refine d2_e (fun _ => ?_)
set_option maxRecDepth 8000 in
set_option maxHeartbeats 4000000 in
theorem yd_R_put (x1 : Nat) (x2 : Nat) (M : xM) : xd1 (fun Q => w_R_put x1 x2 M Q) := by
  unfold w_R_put
  repeat' first
    | with_reducible exact d1_q _
    | with_reducible exact d1_f
    | with_reducible refine d11 (yd_R_wrong _ _) (fun _ => ?_)
    | with_reducible exact yd_R_wrong _ _
    | with_reducible refine d1_s ?_ (fun _ => ?_)
    | with_reducible refine d1_i (fun _ => ?_) (fun _ => ?_)
    | with_reducible refine d1_a (fun _ => ?_)
    | with_reducible refine d1_e (fun _ => ?_)
set_option maxRecDepth 8000 in
set_option maxHeartbeats 4000000 in
theorem yd_R_aim (x1 : Nat) (M : xM) : xd1 (fun Q => w_R_aim x1 M Q) := by
  unfold w_R_aim
  repeat' first
    | with_reducible exact d1_q _
    | with_reducible exact d1_f
    | with_reducible refine d1_s ?_ (fun _ => ?_)
    | with_reducible refine d1_i (fun _ => ?_) (fun _ => ?_)
    | with_reducible refine d1_a (fun _ => ?_)
    | with_reducible refine d1_e (fun _ => ?_)
set_option maxRecDepth 8000 in
set_option maxHeartbeats 4000000 in
theorem yd_R_loops_224 (l1 : Nat) (l2 : Nat) (M : xM) : xd1 (fun Q => w_R_loops_224 l1 l2 M Q) := by
  unfold w_R_loops_224
  repeat' first
    | with_reducible exact d1_q _
    | with_reducible exact d1_f
    | with_reducible refine d11 (yd_R_add _ _ _) (fun _ => ?_)
    | with_reducible exact yd_R_add _ _ _
    | with_reducible refine d11 (yd_R_put _ _ _) (fun _ => ?_)
    | with_reducible exact yd_R_put _ _ _
    | with_reducible refine d12 (yd_R_closes _ _ _) (fun _ _ => ?_)
    | with_reducible exact yd_R_closes _ _ _
    | with_reducible refine d1_s ?_ (fun _ => ?_)
    | with_reducible refine d1_i (fun _ => ?_) (fun _ => ?_)
    | with_reducible refine d1_a (fun _ => ?_)
    | with_reducible refine d1_e (fun _ => ?_)
set_option maxRecDepth 8000 in
set_option maxHeartbeats 4000000 in
theorem yd_R_loops_157 (l1 : Nat) (l2 : Nat) (M : xM) : xd1 (fun Q => w_R_loops_157 l1 l2 M Q) := by
  unfold w_R_loops_157
  repeat' first
    | with_reducible exact d1_q _
    | with_reducible exact d1_f
    | with_reducible refine d12 (yd_R_closes _ _ _) (fun _ _ => ?_)
    | with_reducible exact yd_R_closes _ _ _
    | with_reducible refine d11 (yd_R_loops_224 _ _ _) (fun _ => ?_)
    | with_reducible exact yd_R_loops_224 _ _ _
    | with_reducible refine d11 (yd_R_add _ _ _) (fun _ => ?_)
    | with_reducible exact yd_R_add _ _ _
    | with_reducible refine d11 (yd_R_aim _ _) (fun _ => ?_)
    | with_reducible exact yd_R_aim _ _
    | with_reducible refine d1_s ?_ (fun _ => ?_)
    | with_reducible refine d1_i (fun _ => ?_) (fun _ => ?_)
    | with_reducible refine d1_a (fun _ => ?_)
    | with_reducible refine d1_e (fun _ => ?_)
set_option maxRecDepth 8000 in
set_option maxHeartbeats 4000000 in
theorem yd_R_loops_119 (l1 : Nat) (l2 : Nat) (M : xM) : xd1 (fun Q => w_R_loops_119 l1 l2 M Q) := by
  unfold w_R_loops_119
  repeat' first
    | with_reducible exact d1_q _
    | with_reducible exact d1_f
    | with_reducible refine d12 (yd_R_closes _ _ _) (fun _ _ => ?_)
    | with_reducible exact yd_R_closes _ _ _
    | with_reducible refine d11 (yd_R_loops_157 _ _ _) (fun _ => ?_)
    | with_reducible exact yd_R_loops_157 _ _ _
    | with_reducible refine d11 (yd_R_add _ _ _) (fun _ => ?_)
    | with_reducible exact yd_R_add _ _ _
    | with_reducible refine d11 (yd_R_put _ _ _) (fun _ => ?_)
    | with_reducible exact yd_R_put _ _ _
    | with_reducible refine d1_s ?_ (fun _ => ?_)
    | with_reducible refine d1_i (fun _ => ?_) (fun _ => ?_)
    | with_reducible refine d1_a (fun _ => ?_)
    | with_reducible refine d1_e (fun _ => ?_)
set_option maxRecDepth 8000 in
set_option maxHeartbeats 4000000 in
theorem yd_R_loops_74 (l1 : Nat) (l2 : Nat) (M : xM) : xd1 (fun Q => w_R_loops_74 l1 l2 M Q) := by
  unfold w_R_loops_74
  repeat' first
    | with_reducible exact d1_q _
    | with_reducible exact d1_f
    | with_reducible refine d12 (yd_R_closes _ _ _) (fun _ _ => ?_)
    | with_reducible exact yd_R_closes _ _ _
    | with_reducible refine d11 (yd_R_loops_119 _ _ _) (fun _ => ?_)
    | with_reducible exact yd_R_loops_119 _ _ _
    | with_reducible refine d11 (yd_R_add _ _ _) (fun _ => ?_)
    | with_reducible exact yd_R_add _ _ _
    | with_reducible refine d1_s ?_ (fun _ => ?_)
    | with_reducible refine d1_i (fun _ => ?_) (fun _ => ?_)
    | with_reducible refine d1_a (fun _ => ?_)
    | with_reducible refine d1_e (fun _ => ?_)
set_option maxRecDepth 8000 in
set_option maxHeartbeats 4000000 in
theorem yd_R_loops (x1 : Nat) (M : xM) : xd1 (fun Q => w_R_loops x1 M Q) := by
  unfold w_R_loops
  repeat' first
    | with_reducible exact d1_q _
    | with_reducible exact d1_f
    | with_reducible refine d11 (yd_R_flush _) (fun _ => ?_)
    | with_reducible exact yd_R_flush _
    | with_reducible refine d11 (yd_R_put _ _ _) (fun _ => ?_)
    | with_reducible exact yd_R_put _ _ _
    | with_reducible refine d12 (yd_R_closes _ _ _) (fun _ _ => ?_)
    | with_reducible exact yd_R_closes _ _ _
    | with_reducible refine d11 (yd_R_loops_74 _ _ _) (fun _ => ?_)
    | with_reducible exact yd_R_loops_74 _ _ _
    | with_reducible refine d11 (yd_R_add _ _ _) (fun _ => ?_)
    | with_reducible exact yd_R_add _ _ _
    | with_reducible refine d1_s ?_ (fun _ => ?_)
    | with_reducible refine d1_i (fun _ => ?_) (fun _ => ?_)
    | with_reducible refine d1_a (fun _ => ?_)
    | with_reducible refine d1_e (fun _ => ?_)
set_option maxRecDepth 8000 in
set_option maxHeartbeats 4000000 in
theorem yd_R_conditions_110 (l1 : Nat) (M : xM) : xd1 (fun Q => w_R_conditions_110 l1 M Q) := by
  unfold w_R_conditions_110
  repeat' first
    | with_reducible exact d1_q _
    | with_reducible exact d1_f
    | with_reducible refine d12 (yd_R_closes _ _ _) (fun _ _ => ?_)
    | with_reducible exact yd_R_closes _ _ _
    | with_reducible refine d11 (yd_R_flush _) (fun _ => ?_)
    | with_reducible exact yd_R_flush _
    | with_reducible refine d11 (yd_R_aim _ _) (fun _ => ?_)
    | with_reducible exact yd_R_aim _ _
    | with_reducible refine d1_s ?_ (fun _ => ?_)
    | with_reducible refine d1_i (fun _ => ?_) (fun _ => ?_)
    | with_reducible refine d1_a (fun _ => ?_)
    | with_reducible refine d1_e (fun _ => ?_)
set_option maxRecDepth 8000 in
set_option maxHeartbeats 4000000 in
theorem yd_R_conditions_83 (l2 : Nat) (M : xM) : xd1 (fun Q => w_R_conditions_83 l2 M Q) := by
  unfold w_R_conditions_83
  repeat' first
    | with_reducible exact d1_q _
    | with_reducible exact d1_f
    | with_reducible refine d1_s ?_ (fun _ => ?_)
    | with_reducible refine d1_i (fun _ => ?_) (fun _ => ?_)
    | with_reducible refine d1_a (fun _ => ?_)
    | with_reducible refine d1_e (fun _ => ?_)
set_option maxRecDepth 8000 in
set_option maxHeartbeats 4000000 in
theorem yd_R_conditions (x1 : Nat) (M : xM) : xd1 (fun Q => w_R_conditions x1 M Q) := by
  unfold w_R_conditions
  repeat' first
    | with_reducible exact d1_q _
    | with_reducible exact d1_f
    | with_reducible refine d11 (yd_R_add _ _ _) (fun _ => ?_)
    | with_reducible exact yd_R_add _ _ _
    | with_reducible refine d11 (yd_R_put _ _ _) (fun _ => ?_)
    | with_reducible exact yd_R_put _ _ _
    | with_reducible refine d12 (yd_R_closes _ _ _) (fun _ _ => ?_)
    | with_reducible exact yd_R_closes _ _ _
    | with_reducible refine d11 (yd_R_conditions_110 _ _) (fun _ => ?_)
    | with_reducible exact yd_R_conditions_110 _ _
    | with_reducible refine d11 (yd_R_aim _ _) (fun _ => ?_)
    | with_reducible exact yd_R_aim _ _
    | with_reducible refine d11 (yd_R_conditions_83 _ _) (fun _ => ?_)
    | with_reducible exact yd_R_conditions_83 _ _
    | with_reducible refine d1_s ?_ (fun _ => ?_)
    | with_reducible refine d1_i (fun _ => ?_) (fun _ => ?_)
    | with_reducible refine d1_a (fun _ => ?_)
    | with_reducible refine d1_e (fun _ => ?_)
set_option maxRecDepth 8000 in
set_option maxHeartbeats 4000000 in
theorem yd_R_compile_93 (M : xM) : xd1 (fun Q => w_R_compile_93 M Q) := by
  unfold w_R_compile_93
  repeat' first
    | with_reducible exact d1_q _
    | with_reducible exact d1_f
    | with_reducible refine d11 (yd_R_add _ _ _) (fun _ => ?_)
    | with_reducible exact yd_R_add _ _ _
    | with_reducible refine d1_s ?_ (fun _ => ?_)
    | with_reducible refine d1_i (fun _ => ?_) (fun _ => ?_)
    | with_reducible refine d1_a (fun _ => ?_)
    | with_reducible refine d1_e (fun _ => ?_)
set_option maxRecDepth 8000 in
set_option maxHeartbeats 4000000 in
theorem yd_R_compile_54 (l4 : Nat) (M : xM) : xd1 (fun Q => w_R_compile_54 l4 M Q) := by
  unfold w_R_compile_54
  repeat' first
    | with_reducible exact d1_q _
    | with_reducible exact d1_f
    | with_reducible refine d12 (yd_R_within_ZNN _ _ _ _ _) (fun _ _ => ?_)
    | with_reducible exact yd_R_within_ZNN _ _ _ _ _
    | with_reducible refine d11 (yd_R_compile_93 _) (fun _ => ?_)
    | with_reducible exact yd_R_compile_93 _
    | with_reducible refine d11 (yd_R_wrong _ _) (fun _ => ?_)
    | with_reducible exact yd_R_wrong _ _
    | with_reducible refine d11 (yd_R_add _ _ _) (fun _ => ?_)
    | with_reducible exact yd_R_add _ _ _
    | with_reducible refine d12 (yd_R_isNumber _) (fun _ _ => ?_)
    | with_reducible exact yd_R_isNumber _
    | with_reducible refine d12 (yd_R_number _) (fun _ _ => ?_)
    | with_reducible exact yd_R_number _
    | with_reducible refine d11 (yd_R_loops _ _) (fun _ => ?_)
    | with_reducible exact yd_R_loops _ _
    | with_reducible refine d11 (yd_R_conditions _ _) (fun _ => ?_)
    | with_reducible exact yd_R_conditions _ _
    | with_reducible refine d1_s ?_ (fun _ => ?_)
    | with_reducible refine d1_i (fun _ => ?_) (fun _ => ?_)
    | with_reducible refine d1_a (fun _ => ?_)
    | with_reducible refine d1_e (fun _ => ?_)
set_option maxRecDepth 8000 in
set_option maxHeartbeats 4000000 in
theorem yd_R_compile_32 (l3 : Nat) (l4 : Nat) (M : xM) : xd1 (fun Q => w_R_compile_32 l3 l4 M Q) := by
  unfold w_R_compile_32
  repeat' first
    | with_reducible exact d1_q _
    | with_reducible exact d1_f
    | with_reducible refine d11 (yd_R_compile_54 _ _) (fun _ => ?_)
    | with_reducible exact yd_R_compile_54 _ _
    | with_reducible refine d11 (yd_R_add _ _ _) (fun _ => ?_)
    | with_reducible exact yd_R_add _ _ _
    | with_reducible refine d1_s ?_ (fun _ => ?_)
    | with_reducible refine d1_i (fun _ => ?_) (fun _ => ?_)
    | with_reducible refine d1_a (fun _ => ?_)
    | with_reducible refine d1_e (fun _ => ?_)
set_option maxRecDepth 8000 in
set_option maxHeartbeats 4000000 in
theorem yd_R_compile (x1 : Int64) (M : xM) : xd1 (fun Q => w_R_compile x1 M Q) := by
  unfold w_R_compile
  repeat' first
    | with_reducible exact d1_q _
    | with_reducible exact d1_f
    | with_reducible refine d12 (yd_R_find _ _) (fun _ _ => ?_)
    | with_reducible exact yd_R_find _ _
    | with_reducible refine d12 (yd_R_builtIn _ _) (fun _ _ => ?_)
    | with_reducible exact yd_R_builtIn _ _
    | with_reducible refine d11 (yd_R_compile_32 _ _ _) (fun _ => ?_)
    | with_reducible exact yd_R_compile_32 _ _ _
    | with_reducible refine d12 (yd_R_other _ _) (fun _ _ => ?_)
    | with_reducible exact yd_R_other _ _
    | with_reducible refine d1_s ?_ (fun _ => ?_)
    | with_reducible refine d1_i (fun _ => ?_) (fun _ => ?_)
    | with_reducible refine d1_a (fun _ => ?_)
    | with_reducible refine d1_e (fun _ => ?_)
theorem yd_R_interpret_42 : ∀ (n : Nat) (l1 : Nat) (M : xM), xd2 (fun Q => w_R_interpret_42 n l1 M Q)
  | 0, _, _ => by unfold w_R_interpret_42; exact d2_f
  | n + 1, l1, M => by
    unfold w_R_interpret_42 wi_R_interpret_42
    repeat' first
      | with_reducible exact d2_q _ _
      | with_reducible exact d2_f
      | with_reducible refine d22 (yd_R_word _) (fun _ _ => ?_)
      | with_reducible exact yd_R_word _
      | unfold w_R_interpret_110
      | with_reducible refine d22 (yd_R_packed _) (fun _ _ => ?_)
      | with_reducible exact yd_R_packed _
      | with_reducible refine d21 (yd_R_acts _ _) (fun _ => ?_)
      | with_reducible exact yd_R_acts _ _
      | with_reducible refine d21 (yd_R_compile _ _) (fun _ => ?_)
      | with_reducible exact yd_R_compile _ _
      | with_reducible refine d22 (yd_R_fail _ _) (fun _ _ => ?_)
      | with_reducible exact yd_R_fail _ _
      | with_reducible refine d2_s ?_ (fun _ => ?_)
      | with_reducible refine d2_i (fun _ => ?_) (fun _ => ?_)
      | with_reducible refine d2_a (fun _ => ?_)
      | with_reducible refine d2_e (fun _ => ?_)
      | exact yd_R_interpret_42 n _ _
set_option maxRecDepth 8000 in
set_option maxHeartbeats 4000000 in
theorem yd_R_interpret (M : xM) : xd2 (fun Q => w_R_interpret M Q) := by
  unfold w_R_interpret
  repeat' first
    | with_reducible exact d2_q _ _
    | with_reducible exact d2_f
    | with_reducible refine d22 (yd_R_interpret_42 _ _ _) (fun _ _ => ?_)
    | with_reducible exact yd_R_interpret_42 _ _ _
    | with_reducible refine d2_s ?_ (fun _ => ?_)
    | with_reducible refine d2_i (fun _ => ?_) (fun _ => ?_)
    | with_reducible refine d2_a (fun _ => ?_)
    | with_reducible refine d2_e (fun _ => ?_)
set_option maxRecDepth 8000 in
set_option maxHeartbeats 4000000 in
theorem yd_R_compiling (M : xM) : xd2 (fun Q => w_R_compiling M Q) := by
  unfold w_R_compiling
  repeat' first
    | with_reducible exact d2_q _ _
    | with_reducible exact d2_f
    | with_reducible refine d2_s ?_ (fun _ => ?_)
    | with_reducible refine d2_i (fun _ => ?_) (fun _ => ?_)
    | with_reducible refine d2_a (fun _ => ?_)
    | with_reducible refine d2_e (fun _ => ?_)
set_option maxRecDepth 8000 in
set_option maxHeartbeats 4000000 in
theorem yd_R_depth (M : xM) : xd2 (fun Q => w_R_depth M Q) := by
  unfold w_R_depth
  repeat' first
    | with_reducible exact d2_q _ _
    | with_reducible exact d2_f
    | with_reducible refine d2_s ?_ (fun _ => ?_)
    | with_reducible refine d2_i (fun _ => ?_) (fun _ => ?_)
    | with_reducible refine d2_a (fun _ => ?_)
    | with_reducible refine d2_e (fun _ => ?_)
set_option maxRecDepth 8000 in
set_option maxHeartbeats 4000000 in
theorem yd_R_within_GNZ (x1 : Int32) (x2 : Nat) (x3 : Nat) (y3 : Nat) (M : xM) : xd2 (fun Q => w_R_within_GNZ x1 x2 x3 y3 M Q) := by
  unfold w_R_within_GNZ
  repeat' first
    | with_reducible exact d2_q _ _
    | with_reducible exact d2_f
    | with_reducible refine d2_s ?_ (fun _ => ?_)
    | with_reducible refine d2_i (fun _ => ?_) (fun _ => ?_)
    | with_reducible refine d2_a (fun _ => ?_)
    | with_reducible refine d2_e (fun _ => ?_)
set_option maxRecDepth 8000 in
set_option maxHeartbeats 4000000 in
theorem yd_R_within_NNZ (x1 : Nat) (x2 : Nat) (x3 : Nat) (y3 : Nat) (M : xM) : xd2 (fun Q => w_R_within_NNZ x1 x2 x3 y3 M Q) := by
  unfold w_R_within_NNZ
  repeat' first
    | with_reducible exact d2_q _ _
    | with_reducible exact d2_f
    | with_reducible refine d2_s ?_ (fun _ => ?_)
    | with_reducible refine d2_i (fun _ => ?_) (fun _ => ?_)
    | with_reducible refine d2_a (fun _ => ?_)
    | with_reducible refine d2_e (fun _ => ?_)
set_option maxRecDepth 8000 in
set_option maxHeartbeats 4000000 in
theorem yd_R_top (x1 : Int32) (M : xM) : xd2 (fun Q => w_R_top x1 M Q) := by
  unfold w_R_top
  repeat' first
    | with_reducible exact d2_q _ _
    | with_reducible exact d2_f
    | with_reducible refine d22 (yd_R_within_GNZ _ _ _ _ _) (fun _ _ => ?_)
    | with_reducible exact yd_R_within_GNZ _ _ _ _ _
    | with_reducible refine d22 (yd_R_fail _ _) (fun _ _ => ?_)
    | with_reducible exact yd_R_fail _ _
    | with_reducible refine d22 (yd_R_within_NNZ _ _ _ _ _) (fun _ _ => ?_)
    | with_reducible exact yd_R_within_NNZ _ _ _ _ _
    | with_reducible refine d2_s ?_ (fun _ => ?_)
    | with_reducible refine d2_i (fun _ => ?_) (fun _ => ?_)
    | with_reducible refine d2_a (fun _ => ?_)
    | with_reducible refine d2_e (fun _ => ?_)
set_option maxRecDepth 8000 in
set_option maxHeartbeats 4000000 in
theorem yd_R_cell (x1 : Int32) (M : xM) : xd2 (fun Q => w_R_cell x1 M Q) := by
  unfold w_R_cell
  repeat' first
    | with_reducible exact d2_q _ _
    | with_reducible exact d2_f
    | with_reducible refine d22 (yd_R_within_GNN _ _ _ _) (fun _ _ => ?_)
    | with_reducible exact yd_R_within_GNN _ _ _ _
    | with_reducible refine d22 (yd_R_fail _ _) (fun _ _ => ?_)
    | with_reducible exact yd_R_fail _ _
    | with_reducible refine d22 (yd_R_within_NNN _ _ _ _) (fun _ _ => ?_)
    | with_reducible exact yd_R_within_NNN _ _ _ _
    | with_reducible refine d2_s ?_ (fun _ => ?_)
    | with_reducible refine d2_i (fun _ => ?_) (fun _ => ?_)
    | with_reducible refine d2_a (fun _ => ?_)
    | with_reducible refine d2_e (fun _ => ?_)
set_option maxRecDepth 8000 in
set_option maxHeartbeats 4000000 in
theorem yd_R_said (M : xM) : xd2 (fun Q => w_R_said M Q) := by
  unfold w_R_said
  repeat' first
    | with_reducible exact d2_q _ _
    | with_reducible exact d2_f
    | with_reducible refine d2_s ?_ (fun _ => ?_)
    | with_reducible refine d2_i (fun _ => ?_) (fun _ => ?_)
    | with_reducible refine d2_a (fun _ => ?_)
    | with_reducible refine d2_e (fun _ => ?_)
set_option maxRecDepth 8000 in
set_option maxHeartbeats 4000000 in
theorem yd_R_saying (x1 : Int32) (M : xM) : xd2 (fun Q => w_R_saying x1 M Q) := by
  unfold w_R_saying
  repeat' first
    | with_reducible exact d2_q _ _
    | with_reducible exact d2_f
    | with_reducible refine d22 (yd_R_within_GNN _ _ _ _) (fun _ _ => ?_)
    | with_reducible exact yd_R_within_GNN _ _ _ _
    | with_reducible refine d22 (yd_R_fail _ _) (fun _ _ => ?_)
    | with_reducible exact yd_R_fail _ _
    | with_reducible refine d22 (yd_R_within_NNN _ _ _ _) (fun _ _ => ?_)
    | with_reducible exact yd_R_within_NNN _ _ _ _
    | with_reducible refine d2_s ?_ (fun _ => ?_)
    | with_reducible refine d2_i (fun _ => ?_) (fun _ => ?_)
    | with_reducible refine d2_a (fun _ => ?_)
    | with_reducible refine d2_e (fun _ => ?_)
theorem yd_R_definition_42 : ∀ (n : Nat) (l1 : Nat) (l2 : Nat) (l3 : Nat) (l4 : Nat) (M : xM), xd2 (fun Q => w_R_definition_42 n l1 l2 l3 l4 M Q)
  | 0, _, _, _, _, _ => by unfold w_R_definition_42; exact d2_f
  | n + 1, l1, l2, l3, l4, M => by
    unfold w_R_definition_42 wi_R_definition_42
    repeat' first
      | with_reducible exact d2_q _ _
      | with_reducible exact d2_f
      | with_reducible refine d2_s ?_ (fun _ => ?_)
      | with_reducible refine d2_i (fun _ => ?_) (fun _ => ?_)
      | with_reducible refine d2_a (fun _ => ?_)
      | with_reducible refine d2_e (fun _ => ?_)
      | exact yd_R_definition_42 n _ _ _ _ _
set_option maxRecDepth 8000 in
set_option maxHeartbeats 4000000 in
theorem yd_R_definition (x1 : Int32) (x2 : Int32) (M : xM) : xd2 (fun Q => w_R_definition x1 x2 M Q) := by
  unfold w_R_definition
  repeat' first
    | with_reducible exact d2_q _ _
    | with_reducible exact d2_f
    | with_reducible refine d22 (yd_R_within_GNZ _ _ _ _ _) (fun _ _ => ?_)
    | with_reducible exact yd_R_within_GNZ _ _ _ _ _
    | with_reducible refine d22 (yd_R_fail _ _) (fun _ _ => ?_)
    | with_reducible exact yd_R_fail _ _
    | with_reducible refine d22 (yd_R_within_GNN _ _ _ _) (fun _ _ => ?_)
    | with_reducible exact yd_R_within_GNN _ _ _ _
    | with_reducible refine d22 (yd_R_within_NNN _ _ _ _) (fun _ _ => ?_)
    | with_reducible exact yd_R_within_NNN _ _ _ _
    | with_reducible refine d22 (yd_R_within_NNZ _ _ _ _ _) (fun _ _ => ?_)
    | with_reducible exact yd_R_within_NNZ _ _ _ _ _
    | with_reducible refine d22 (yd_R_definition_42 _ _ _ _ _ _) (fun _ _ => ?_)
    | with_reducible exact yd_R_definition_42 _ _ _ _ _ _
    | with_reducible refine d2_s ?_ (fun _ => ?_)
    | with_reducible refine d2_i (fun _ => ?_) (fun _ => ?_)
    | with_reducible refine d2_a (fun _ => ?_)
    | with_reducible refine d2_e (fun _ => ?_)
set_option maxRecDepth 8000 in
set_option maxHeartbeats 4000000 in
theorem yd_R_count (x1 : Int32) (M : xM) : xd2 (fun Q => w_R_count x1 M Q) := by
  unfold w_R_count
  repeat' first
    | with_reducible exact d2_q _ _
    | with_reducible exact d2_f
    | with_reducible refine d22 (yd_R_within_GNN _ _ _ _) (fun _ _ => ?_)
    | with_reducible exact yd_R_within_GNN _ _ _ _
    | with_reducible refine d22 (yd_R_fail _ _) (fun _ _ => ?_)
    | with_reducible exact yd_R_fail _ _
    | with_reducible refine d22 (yd_R_within_NNN _ _ _ _) (fun _ _ => ?_)
    | with_reducible exact yd_R_within_NNN _ _ _ _
    | with_reducible refine d2_s ?_ (fun _ => ?_)
    | with_reducible refine d2_i (fun _ => ?_) (fun _ => ?_)
    | with_reducible refine d2_a (fun _ => ?_)
    | with_reducible refine d2_e (fun _ => ?_)
