/-! characters are written: alike -/
def rby (x : Int64) (k : Nat) : Nat := x.toBitVec.toNat / 2 ^ (8 * k) % 256
theorem rby_sh (x : BitVec 64) (n : Nat) (h : n ≤ 56) : (x.sshiftRight n &&& 255#64) = (x >>> n) &&& 255#64 := by
  apply BitVec.eq_of_getLsbD_eq
  intro i hi
  rw [BitVec.getLsbD_and, BitVec.getLsbD_and, BitVec.getLsbD_sshiftRight, BitVec.getLsbD_ushiftRight]
  by_cases h8 : i < 8
  · have h1 : n + i < 64 := by omega
    have h2 : ¬ 64 ≤ i := by omega
    simp [h1, h2]
  · have : (255#64).getLsbD i = false := by
      have : ∀ i, i < 64 → ¬ i < 8 → (255#64).getLsbD i = false := by decide
      exact this i hi h8
    rw [this, Bool.and_false, Bool.and_false]
theorem rby_c (x : Int64) (k : Nat) (hk : k < 8) : (((x.toUInt64 >>> ((nI (8 * k)).toInt64.toUInt64 &&& Int64.toUInt64 63)).toInt64).toInt32) &&& (nI 255) = nI (rby x k) := by
  have hb : ∀ n : Nat, n = 8 * k → ((x.toBitVec >>> n).signExtend 32) &&& 255#32 = BitVec.ofNat 32 (rby x k) := fun n hn => by
    rw [BitVec.signExtend_eq_setWidth_of_le _ (by decide)]
    apply BitVec.eq_of_toNat_eq
    rw [BitVec.toNat_and, BitVec.toNat_setWidth, BitVec.toNat_ushiftRight, BitVec.toNat_ofNat, BitVec.toNat_ofNat, Nat.shiftRight_eq_div_pow, hn]
    have : (255 : Nat) % 2 ^ 32 = 2 ^ 8 - 1 := by decide
    rw [this, Nat.and_two_pow_sub_one_eq_mod]
    unfold rby
    omega
  apply Int32.toBitVec_inj.mp
  have hc : k = 0 ∨ k = 1 ∨ k = 2 ∨ k = 3 ∨ k = 4 ∨ k = 5 ∨ k = 6 ∨ k = 7 := by omega
  rcases hc with rfl | rfl | rfl | rfl | rfl | rfl | rfl | rfl
  · exact hb 0 rfl
  · exact hb 8 rfl
  · exact hb 16 rfl
  · exact hb 24 rfl
  · exact hb 32 rfl
  · exact hb 40 rfl
  · exact hb 48 rfl
  · exact hb 56 rfl
theorem rby_m (x : Int64) (k : Nat) (hk : k < 8) : ((x >>> ((nI (8 * k)).toInt64 &&& 63)) &&& ((255 : Int64))).toInt32 = nI (rby x k) := by
  have hb : ∀ n : Nat, n = 8 * k → (x.toBitVec.sshiftRight n &&& 255#64).signExtend 32 = BitVec.ofNat 32 (rby x k) := fun n hn => by
    rw [BitVec.signExtend_eq_setWidth_of_le _ (by decide)]
    rw [rby_sh _ _ (by omega)]
    apply BitVec.eq_of_toNat_eq
    rw [BitVec.toNat_setWidth, BitVec.toNat_and, BitVec.toNat_ushiftRight, BitVec.toNat_ofNat, BitVec.toNat_ofNat, Nat.shiftRight_eq_div_pow, hn]
    have : (255 : Nat) % 2 ^ 64 = 2 ^ 8 - 1 := by decide
    rw [this, Nat.and_two_pow_sub_one_eq_mod]
    unfold rby
    omega
  apply Int32.toBitVec_inj.mp
  have hc : k = 0 ∨ k = 1 ∨ k = 2 ∨ k = 3 ∨ k = 4 ∨ k = 5 ∨ k = 6 ∨ k = 7 := by omega
  rcases hc with rfl | rfl | rfl | rfl | rfl | rfl | rfl | rfl
  · exact hb 0 rfl
  · exact hb 8 rfl
  · exact hb 16 rfl
  · exact hb 24 rfl
  · exact hb 32 rfl
  · exact hb 40 rfl
  · exact hb 48 rfl
  · exact hb 56 rfl
theorem rby_lt (x : Int64) (k : Nat) : rby x k < 256 := Nat.mod_lt _ (by decide)
theorem rby_ch (b : Nat) (h : b < 256) : ((nI b).toUInt32 % 65536).toInt32 = nI b := by
  have h1 : (nI b).toUInt32 = UInt32.ofNat b := rfl
  have h2 : UInt32.ofNat b % 65536 = UInt32.ofNat b := by
    apply UInt32.toNat_inj.mp
    simp
    omega
  rw [h1, h2]; rfl
def rgd (x : Int64) (a b : Nat) : Prop := ∀ j, a ≤ j → j < b → 32 ≤ rby x j ∧ rby x j ≤ 126
section SQ
variable {z0 e : Nat} {C : xC} {M : xM}
theorem lare {x : Int64} {l : Nat} {Q : Nat → xC → Prop} (hl : l ≤ 8) : ∀ (n i : Nat), i + n = l → (rgd x i l → Q 1 C) → (¬ rgd x i l → Q 0 C) → w_T_areCharacters_2 (n + 1) x l i C Q
  | 0, i, h, a, _ => ⟨by omega, by omega, fun _ => a (fun j h1 h2 => by omega), fun z => by omega⟩
  | n + 1, i, h, a, b => by
    refine ⟨by omega, by omega, fun z => by omega, fun _ => ?_⟩
    unfold w_T_byteOf
    rw [rby_c x i (by omega)]
    have hb := rby_lt x i
    refine ⟨fun z => (sg_n z rfl (by omega)).elim, fun k hk hkl => ?_⟩
    have := d_inj rfl hk (by omega) hkl
    subst this
    refine ⟨by omega, fun z => b (fun g => by have := g i (Nat.le_refl i) (by omega); omega), fun z => ⟨by omega, fun z2 => lare hl n (i + 1) (by omega) (fun g => a (fun j h1 h2 => ?_)) (fun g => b (fun g' => g (fun j h1 h2 => g' j (by omega) h2))), fun z2 => b (fun g => by have := g i (Nat.le_refl i) (by omega); omega)⟩⟩
    by_cases hj : j = i
    · subst hj; omega
    · exact g j (by omega) h2
theorem lw27 {x : Int64} {l : Nat} {P : Nat → xM → Prop} (hl : l ≤ 8) (hm : M.1 2 ≤ 160) : ∀ (n i f : Nat), i + n = l → f ≤ 1 → (f = 1 ∧ rgd x i l → M.1 2 + l ≤ 160 → ∃ fu, w_R_write_105 fu x l 0 M P) → (f = 1 ∧ rgd x i l → ¬ M.1 2 + l ≤ 160 → P 0 (dN M 0 2)) → (¬ (f = 1 ∧ rgd x i l) → P 0 (dN M 0 1)) → w_R_write_27 (n + 1) x l f i M P
  | 0, i, f, h, hf, a, a2, b => by
    have g : rgd x i l := fun j h1 h2 => by omega
    exact ⟨by omega, by omega, fun _ => ⟨by omega, fun z => b (fun q => by omega), fun z => ⟨by omega, fun y => a ⟨by omega, g⟩ y, fun y => a2 ⟨by omega, g⟩ y⟩⟩, fun z => by omega⟩
  | n + 1, i, f, h, hf, a, a2, b => by
    refine ⟨by omega, by omega, fun z => by omega, fun _ => ⟨by omega, fun z => lw27 hl hm n (i + 1) 0 (by omega) (by decide) (fun q => by omega) (fun q => by omega) (fun _ => b (fun q => by omega)), fun z => ?_⟩⟩
    have f1 : f = 1 := by omega
    subst f1
    rw [rby_m x i (by omega)]
    have hb := rby_lt x i
    have no : ¬ (32 ≤ rby x i ∧ rby x i ≤ 126) → w_R_write_27 (n + 1) x l 0 (i + 1) M P := fun q => lw27 hl hm n (i + 1) 0 (by omega) (by decide) (fun q => by omega) (fun q => by omega) (fun _ => b (fun q2 => q (q2.2 i (Nat.le_refl i) (by omega))))
    unfold w_R_within_INN
    refine ⟨by decide, fun z => (sg_n z rfl (by omega)).elim, fun k hk hkl => ?_⟩
    have := d_inj rfl hk (by omega) hkl
    subst this
    refine ⟨by omega, by decide, fun y => ⟨by decide, fun _ => no (by omega), fun z => absurd rfl z⟩, fun y => ⟨by omega, by decide, fun y2 => ⟨by decide, fun _ => no (by omega), fun z => absurd rfl z⟩, fun y2 => ⟨by decide, fun z => absurd z (by decide), fun _ => ?_⟩⟩⟩
    have ge : rgd x (i + 1) l → rgd x i l := fun g j h1 h2 => by
      by_cases hj : j = i
      · subst hj; omega
      · exact g j (by omega) h2
    have gi : rgd x i l → rgd x (i + 1) l := fun g j h1 h2 => g j (by omega) h2
    exact lw27 hl hm n (i + 1) 1 (by omega) (by decide) (fun q => a ⟨rfl, ge q.2⟩) (fun q => a2 ⟨rfl, ge q.2⟩) (fun q => b (fun q2 => q ⟨rfl, gi q2.2⟩))
/-- while characters are written -/
def rJ (z0 e i : Nat) (C : xC) (M : xM) : Prop := rF z0 e C M ∧ rS C M ∧ rCp C M ∧ C.1 1 = 0 ∧ C.1 2 = 0 ∧ C.1 3 = 0 ∧ C.1 0 = M.1 2 + i ∧ ∀ j, j < C.1 0 → 32 ≤ M.2.1 0 j ∧ M.2.1 0 j ≤ 126
theorem rJ.st {i b : Nat} (k : rJ z0 e i C M) (hb : 32 ≤ b ∧ b ≤ 126) : rJ z0 e (i + 1) (cN (cB C 0 (C.1 0) b) 0 (C.1 0 + 1)) (dB M 0 (M.1 2 + i) b) := by
  obtain ⟨⟨k1, k2, k3, k4, k5, k6, k7, k8⟩, k9, k10, k11, k12, k13, k14, k15⟩ := k
  refine ⟨⟨k1, k2, k3, k4, k5, k6, k7, ?_⟩, k9, k10, k11, k12, k13, ?_, fun j hj => ?_⟩
  · show xu (C.2.1 0) (C.1 0) b = xu (M.2.1 0) (M.1 2 + i) b
    rw [k8, k14]
  · show C.1 0 + 1 = M.1 2 + (i + 1)
    omega
  · have hj : j < C.1 0 + 1 := hj
    show 32 ≤ (if j = M.1 2 + i then b else M.2.1 0 j) ∧ (if j = M.1 2 + i then b else M.2.1 0 j) ≤ 126
    by_cases q : j = M.1 2 + i
    · rw [if_pos q]; exact hb
    · rw [if_neg q]; exact k15 j (by omega)
theorem lap {x : Int64} {l : Nat} {Q : xC → Prop} (hl : l ≤ 8) : ∀ (n i : Nat) (C : xC) (M : xM), rJ z0 e i C M → i + n = l → M.1 2 + l ≤ 160 → rgd x i l → (∀ C' M', rJ z0 e l C' M' → M'.1 2 = M.1 2 → M'.1 0 = M.1 0 → (∀ P : Nat → xM → Prop, P (M'.1 2 + l) (dN M' 2 (M'.1 2 + l)) → w_R_write_105 (n + 1) x l i M P) → Q C') → w_T_append_3 (n + 1) x l i C Q
  | 0, i, C, M, hJ, h, hm, hg, hQ => by
    have : i = l := by omega
    subst this
    exact ⟨by omega, by omega, fun _ => hQ C M hJ rfl rfl (fun P hp => ⟨by omega, by omega, fun _ => hp, fun z => by omega⟩), fun z => by omega⟩
  | n + 1, i, C, M, hJ, h, hm, hg, hQ => by
    have hb := rby_lt x i
    have h0 := hJ.2.2.2.2.2.2.1
    refine ⟨by omega, by omega, fun z => by omega, fun _ => ?_⟩
    unfold w_T_byteOf
    rw [rby_c x i (by omega)]
    refine ⟨rby x i, rby_ch _ hb, by omega, by omega, ?_⟩
    refine lap hl n (i + 1) _ _ (hJ.st (hg i (Nat.le_refl i) (by omega))) (by omega) hm (fun j h1 h2 => hg j (by omega) h2) (fun C' M' hJ' e2 e0 hw => hQ C' M' hJ' e2 e0 (fun P hp => ⟨by omega, by omega, fun z => by omega, fun _ => ⟨rby x i, rby_m x i (by omega), by omega, hw P hp⟩⟩))
theorem lWrite {x : Int64} {y : Int32} {Q : Nat → xC → Prop} (hB : rB z0 e C M) (he : e ≤ 1000) (hQ : ∀ r C' (v : Nat) M', rOk z0 e r C' ((nI v).toInt64) M' → (∀ P : Nat → xM → Prop, P v M' → w_R_write x y M P) → Q r C') : w_L_write x y C Q := by
  have hlen := hB.len he
  obtain ⟨t1, t2, t3, t4⟩ := hB.2.1
  have bad1 : (∀ P : Nat → xM → Prop, P 0 (dN (dN M 0 0) 0 1) → w_R_write x y M P) → Q 1 (cX C 8) := fun hm => hQ 1 (cX C 8) 0 _ (hB.no (by decide) (by decide)) hm
  have bad2 : (∀ P : Nat → xM → Prop, P 0 (dN (dN M 0 0) 0 2) → w_R_write x y M P) → Q 2 (cX C 9) := fun hm => hQ 2 (cX C 9) 0 _ (hB.no (by decide) (by decide)) hm
  have m1 : ∀ P : Nat → xM → Prop, (y < 0 ∨ ∃ k, y = nI k ∧ k < 2147483648 ∧ (k < 1 ∨ 8 < k)) → P 0 (dN (dN M 0 0) 0 1) → w_R_write x y M P := fun P hc hp => by
    unfold w_R_write w_R_within_GNN w_R_within_NNN w_R_fail
    rcases hc with hx | ⟨k, hx, hk, hm⟩
    · exact ⟨fun _ => ⟨hx, by decide, by decide, fun _ => hp, fun z => absurd rfl z⟩, fun k hk hl => (sg_n hx hk hl).elim⟩
    · refine ⟨fun z => (sg_n z hx hk).elim, fun k' hk' hl => ?_⟩
      have := d_inj hx hk' hk hl
      subst this
      exact ⟨by omega, by decide, fun z => ⟨by decide, fun _ => hp, fun z => absurd rfl z⟩, fun _ => ⟨by omega, by decide, fun _ => ⟨by decide, fun _ => hp, fun z => absurd rfl z⟩, fun z => by omega⟩⟩
  unfold w_L_write w_F_write
  refine ⟨fun hx => ⟨hlen, fun _ => bad1 (fun P hp => m1 P (Or.inl hx) hp), fun z => absurd rfl z⟩, fun l hx h1 => ⟨h1, fun q => ⟨hlen, fun _ => bad1 (fun P hp => m1 P (Or.inr ⟨l, hx, h1, Or.inl q⟩) hp), fun z => absurd rfl z⟩, fun q => ⟨h1, fun q2 => ⟨hlen, fun _ => bad1 (fun P hp => m1 P (Or.inr ⟨l, hx, h1, Or.inr q2⟩) hp), fun z => absurd rfl z⟩, fun q2 => ?_⟩⟩⟩
  have m2 : ∀ P : Nat → xM → Prop, w_R_write_27 (l + 1) x l 1 0 (dN M 0 0) P → w_R_write x y M P := fun P hp => by
    unfold w_R_write w_R_within_NNN
    refine ⟨fun z => (sg_n z hx h1).elim, fun k' hk' hl => ?_⟩
    have := d_inj hx hk' h1 hl
    subst this
    exact ⟨by omega, by decide, fun z => by omega, fun _ => ⟨by omega, by decide, fun z => by omega, fun _ => ⟨by decide, fun z => absurd z (by decide), fun _ => ⟨_, hp⟩⟩⟩⟩
  unfold w_T_areCharacters
  refine ⟨l + 1, lare (by omega) l 0 (Nat.zero_add l) (fun g => ⟨by decide, fun z => absurd z (by decide), fun _ => ⟨by omega, fun q3 => ?_, fun q3 => ⟨hlen, fun z => absurd z (by decide), fun _ => ⟨fun _ => bad2 (fun P hp => m2 P ?_), fun z => absurd rfl z⟩⟩⟩⟩) (fun g => ⟨by decide, fun _ => ⟨hlen, fun _ => bad1 (fun P hp => m2 P ?_), fun z => absurd rfl z⟩, fun z => absurd rfl z⟩)⟩
  · unfold w_T_append
    have hJ : rJ z0 e 0 C (dN M 0 0) := ⟨hB.1, hB.2.2.1, hB.2.2.2.1, hB.2.2.2.2.1, hB.2.2.2.2.2.1, hB.2.2.2.2.2.2, t1, fun j hj => t4 j (by omega)⟩
    refine ⟨l + 1, lap (by omega) l 0 C (dN M 0 0) hJ (Nat.zero_add l) (show M.1 2 + l ≤ 160 by omega) g (fun C' M' hJ' e2 e0 hw => ⟨by decide, ?_⟩)⟩
    have e2 : M'.1 2 = M.1 2 := e2
    have e0 : M'.1 0 = 0 := e0
    obtain ⟨j1, j2, j3, j4, j5, j6, j7, j8⟩ := hJ'
    have hB' : rB z0 e C' (dN M' 2 (M'.1 2 + l)) := ⟨j1, ⟨j7, (show M'.1 2 + l ≤ 160 by omega), j1.2.2.2.2.2.2.2, fun j hj => j8 j (by rw [j7]; exact hj)⟩, j2, j3, j4, j5, j6⟩
    refine hQ 0 _ (M'.1 2 + l) (dN M' 2 (M'.1 2 + l)) ⟨e0, by decide, fun _ => ?_, hB'.up⟩ (fun P hp => m2 P (lw27 (M := dN M 0 0) (by omega) t2 l 0 1 (Nat.zero_add l) (Nat.le_refl 1) (fun _ _ => ⟨l + 1, hw P hp⟩) (fun _ z => absurd (show M.1 2 + l ≤ 160 by omega) z) (fun z => absurd ⟨rfl, g⟩ z)))
    show (nI (C'.1 0)).toInt64 = _
    rw [j7]
  · exact lw27 (M := dN M 0 0) (by omega) t2 l 0 1 (Nat.zero_add l) (Nat.le_refl 1) (fun _ z => absurd (show M.1 2 + l ≤ 160 from z) (by omega)) (fun _ _ => hp) (fun z => absurd ⟨rfl, g⟩ z)
  · exact lw27 (M := dN M 0 0) (by omega) t2 l 0 1 (Nat.zero_add l) (Nat.le_refl 1) (fun z _ => absurd z.2 g) (fun z _ => absurd z.2 g) (fun _ => hp)
theorem lInterpret {Q : Nat → xC → Prop} (hB : rB z0 e C M) (he : e ≤ 1000) (hQ : ∀ r C' (v : Nat) M', rOk z0 e r C' ((nI v).toInt64) M' → (∀ P : Nat → xM → Prop, P v M' → w_R_interpret M P) → Q r C') : w_L_interpret C Q := by
  unfold w_L_interpret
  refine sint he hB (fun r C' hr => ⟨by decide, ?_⟩) (fun ci C' hr => ?_)
  · obtain ⟨r', M', ⟨h1, h2, h3⟩, h4⟩ := yd_R_interpret _ _ hr
    subst h1
    have h3' : rB z0 e (cO C' 0 ((nI r').toInt64)) M' := h3
    exact hQ 0 _ r' M' ⟨h2, by decide, fun _ => rfl, h3'.up⟩ h4
  · obtain ⟨r', M', ⟨h1, h2, h3⟩, h4⟩ := yd_R_interpret _ _ hr
    have fin : ∀ t, rxi ci = t → 1 ≤ t → t < 6 → Q t C' := fun t ht t1 t6 => hQ t C' r' M' ⟨h1.trans ht, t6, fun z => by omega, h3⟩ h4
    refine ⟨fun q => fin 1 (by rw [q]; rfl) (by decide) (by decide), fun q1 => ⟨fun q => fin 2 (by rw [q]; rfl) (by decide) (by decide), fun q2 => ⟨fun q => fin 3 (by rw [q]; rfl) (by decide) (by decide), fun q3 => ⟨fun q => fin 4 (by rw [q]; rfl) (by decide) (by decide), fun q4 => ⟨fun q => fin 5 (by rw [q]; rfl) (by decide) (by decide), fun q5 => ?_⟩⟩⟩⟩⟩
    unfold rxi at h2
    rw [if_neg q1, if_neg q2, if_neg q3, if_neg q4, if_neg q5] at h2
    omega
end SQ
