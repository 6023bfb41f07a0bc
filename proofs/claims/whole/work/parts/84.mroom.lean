/-! the model's formes that stand together, and presses -/
theorem pT_su {Y : qYt} {k f : Nat} (h0 : 0 ≤ Y.2 (k : Int) 0) (h6 : Y.2 (k : Int) 0 < 6) : qBm (pT Y (k + 1) f) 6 = qBm (pT Y k f) 6 ||| (if Y.2 (k : Int) 1 = (f : Int) then 2 ^ (Y.2 (k : Int) 0).toNat else 0) := by
  by_cases e : Y.2 (k : Int) 1 = (f : Int)
  · rw [if_pos e]
    refine (qBm_or (k := (Y.2 (k : Int) 0).toNat) (by omega) (fun t ht => ?_)).symm
    unfold pT
    rw [qEx_s]
    congr 1
    rw [Bool.eq_iff_iff, decide_eq_true_iff, decide_eq_true_iff]
    omega
  · rw [if_neg e, Nat.or_zero]
    refine qBm_congr (fun t ht => ?_)
    unfold pT
    rw [qEx_s, decide_eq_false (fun z => e z.1), Bool.or_false]
theorem pT_lt (Y : qYt) (k f : Nat) : qBm (pT Y k f) 6 < 64 := qBm_lt _ 6
theorem vPc_up : ∀ a, a < 64 → ∀ j, j < 6 → a.testBit j = false → qPc (a ||| 2 ^ j) 6 = qPc a 6 + 1 := by decide +kernel
theorem pT_n {Y : qYt} (hi : qYi Y) (f : Nat) : ∀ k : Nat, (k : Int) ≤ Y.1 → qPc (qBm (pT Y k f) 6) 6 = qN (fun i => decide (Y.2 i 1 = (f : Int))) k := by
  intro k
  induction k with
  | zero => intro _; show qPc (qBm (fun _ => false) 6) 6 = 0; decide
  | succ k ih =>
    intro hk
    have hk2 := hi.2.1 (k : Int) (by omega) (by omega)
    rw [pT_su hk2.1.1 hk2.1.2]
    simp only [qN, decide_eq_true_eq]
    rw [← ih (by omega)]
    by_cases e : Y.2 (k : Int) 1 = (f : Int)
    · rw [if_pos e, if_pos e]
      refine vPc_up _ (pT_lt Y k f) _ (by omega) ?_
      rw [qBm_bit, decide_eq_true (by omega), Bool.true_and, Bool.eq_false_iff]
      intro z
      obtain ⟨i, i0, i1, hz⟩ := (qEx_iff _ _).1 z
      have := of_decide_eq_true hz
      have := hi.2.2 i k i0 (by omega) (by omega) (by omega) (by omega) (by omega)
      omega
    · rw [if_neg e, if_neg e, Nat.or_zero, Int.add_zero]
theorem vT_n {Y : qYt} (hi : qYi Y) (f : Nat) : qPc (vT Y f) 24 = qN (fun i => decide (Y.2 i 1 = (f : Int))) Y.1.toNat := by
  have h12 := hi.1
  rw [(vPc_6 _ (vT_lt Y f)).2, ← pT_n hi f Y.1.toNat (by omega)]
  rfl
theorem vS_T {Y : qYt} (hi : qYi Y) {f : Nat} (hf : f < 6) : (vS Y vAll).testBit f = decide (¬ vT Y f = 0) := by
  unfold vS
  rw [qBm_bit, decide_eq_true hf, Bool.true_and, Bool.eq_iff_iff, decide_eq_true_iff]
  constructor
  · intro h z
    obtain ⟨i, i0, i1, hz⟩ := (qEx_iff _ _).1 h
    rw [Bool.and_eq_true] at hz
    have e1 := of_decide_eq_true hz.2
    have hi2 := hi.2.1 i i0 (by omega)
    have : (vT Y f).testBit (Y.2 i 0).toNat = true := by
      unfold vT
      rw [qBm_bit, decide_eq_true (by omega), Bool.true_and]
      exact (qEx_iff _ _).2 ⟨i, i0, i1, decide_eq_true ⟨e1, by omega⟩⟩
    rw [z, Nat.zero_testBit] at this
    exact absurd this (by decide)
  · intro h
    obtain ⟨t, t6, ht⟩ := vBitN (vT_lt Y f) h
    unfold vT at ht
    rw [qBm_bit, decide_eq_true t6, Bool.true_and] at ht
    obtain ⟨i, i0, i1, hz⟩ := (qEx_iff _ _).1 ht
    exact (qEx_iff _ _).2 ⟨i, i0, i1, decide_eq_true (of_decide_eq_true hz).1⟩
theorem qBm_s {c : Nat → Bool} {k : Nat} : qBm c k ||| (if c k = true then 2 ^ k else 0) = qBm c (k + 1) := by
  by_cases e : c k = true
  · rw [if_pos e]
    refine qBm_uniq (Nat.or_lt_two_pow (Nat.lt_of_lt_of_le (qBm_lt c k) (Nat.pow_le_pow_right (by decide) (by omega))) (Nat.pow_lt_pow_right (by decide) (by omega))) (fun j hj => ?_)
    rw [Nat.testBit_or, qBm_bit, Nat.testBit_two_pow]
    by_cases ej : k = j
    · rw [← ej, decide_eq_true rfl, Bool.or_true, e]
    · rw [decide_eq_false ej, Bool.or_false, decide_eq_true (by omega), Bool.true_and]
  · rw [if_neg e, Nat.or_zero]
    simp only [qBm]
    rw [if_neg e]
theorem qBm_no {c : Nat → Bool} {n : Nat} (h : ∀ k, k < n → c k = false) : qBm c n = 0 := (qBm_uniq (Nat.pow_pos (by decide)) (fun k hk => by rw [Nat.zero_testBit, h k hk])).symm
abbrev mCc (Y : qYt) (f : Nat) : Nat → Bool := fun g => decide (¬ vT Y f = 0 ∧ ¬ vT Y g = 0 ∧ vT Y g &&& vT Y f = 0)
/-- presses of the formes below f; none behind them -/
def mPs (M : zM) (Y : qYt) (f : Nat) (a : Int → Int) : Prop := ∀ g, g < 6 → (g < f → ((vS Y vAll).testBit g = true → M 192 g = a (g : Int)) ∧ ((vS Y vAll).testBit g = false → M 192 g = 0 ∧ a (g : Int) = -1)) ∧ (f ≤ g → M 192 g = -1)
section ZM14
variable {L : Nat} {M : zM} {D : qDt} {Y : qYt} {S : Int → Bool} {A : Nat → Nat} {x y z w c p s i j : Int}
theorem lp_M_typesOn (hy : mY M Y) (hi : qYi Y) {f : Nat} : ∀ (n9 : Nat) (k : Nat), Y.1 - k < n9 → ((k : Int) ≤ Y.1) → wp L 0 zm_M_typesOn 4 [rV 174, iV (f : Int), iV ((qBm (pT Y k f) 6 : Nat) : Int), iV k] [] M (fun r M' => r = some (iV ((vT Y f : Nat) : Int)) ∧ M' = M) := by
  intro n9
  induction n9 with
  | zero =>
    intro k  h9 g0
    have e7 := hy.1
    have h12 := hi.1
    exact absurd h9 (by omega)
  | succ n9 ih =>
    intro k  h9 g0
    have e7 := hy.1
    have h12 := hi.1
    refine wp_iload_n (pc := 4) d_M_typesOn_4 rfl ?_
    refine wp_aload_n (pc := 5) d_M_typesOn_5 rfl ?_
    refine wp_getI (pc := 6) d_M_typesOn_6 rfl (by decide) (zk_174 L) ?_
    refine wp_icmp_ge (tgt := 43) (pc := 9) d_M_typesOn_9 rfl (fun c9 => ?_) (fun c9 => ?_)
    · refine wp_iload_n (pc := 43) d_M_typesOn_43 rfl ?_
      refine wp_ireturn (pc := 44) d_M_typesOn_44 rfl ?_
      refine ⟨?_, rfl⟩
      rw [show k = Y.1.toNat by omega]
      rfl
    · obtain ⟨r1, r2, r3, r4⟩ := hy.2 (k : Int) (by omega) (by omega)
      have ky := hi.2.1 (k : Int) (by omega) (by omega)
      have hlt := pT_lt Y k f
      refine wp_iload_n (pc := 12) d_M_typesOn_12 rfl ?_
      refine zcut (pc' := 35) (fun (v35 : Int) => v35 = ((if Y.2 (k : Int) 1 = (f : Int) then 2 ^ (Y.2 (k : Int) 0).toNat else 0 : Nat) : Int)) (fun (v35 : Int) => [rV 174, iV (f : Int), iV ((qBm (pT Y k f) 6 : Nat) : Int), iV (k : Int)]) (fun (v35 : Int) => [iV v35, iV ((qBm (pT Y k f) 6 : Nat) : Int)]) (fun (v35 : Int) => M) ?_ (fun K35 => ?_)
      · intro v35 h35
        show wp L _ zm_M_typesOn 35 [rV 174, iV (f : Int), iV ((qBm (pT Y k f) 6 : Nat) : Int), iV (k : Int)] [iV v35, iV ((qBm (pT Y k f) 6 : Nat) : Int)] (M) _
        refine wp_ior (v := ((qBm (pT Y (k + 1) f) 6 : Nat) : Int)) (pc := 35) d_M_typesOn_35 (by rw [h35, pT_su ky.1.1 ky.1.2]; exact zn_or (by omega) (by have := z2p (show (Y.2 (k : Int) 0).toNat < 6 by omega); split <;> omega)) ?_
        refine wp_ist2 (pc := 36) d_M_typesOn_36 rfl ?_
        refine wp_iinc3 (pc := 37) d_M_typesOn_37 rfl (by omega) (by omega) ?_
        refine wp_goto (tgt := 4) (pc := 40) d_M_typesOn_40 rfl ?_
        exact ih (k + 1) (by omega) (by omega)
      · refine wp_aload_n (pc := 13) d_M_typesOn_13 rfl ?_
        refine wp_getR (pc := 14) d_M_typesOn_14 rfl (zk_174 L) zx_174_9 ?_
        refine wp_iload_n (pc := 17) d_M_typesOn_17 rfl ?_
        refine wp_iald (pc := 18) d_M_typesOn_18 (zk_179 L) (by omega) (by omega) ?_
        rw [r2]
        refine wp_iload_n (pc := 19) d_M_typesOn_19 rfl ?_
        refine wp_icmp_ne (tgt := 34) (pc := 20) d_M_typesOn_20 rfl (fun c20 => ?_) (fun c20 => ?_)
        · refine wp_iconst (pc := 34) d_M_typesOn_34 rfl ?_
          refine K35 _ ?_
          first
          | rw [if_neg c20]; rfl
          | rw [if_pos (Decidable.of_not_not c20)]
        · refine wp_iconst (pc := 23) d_M_typesOn_23 rfl ?_
          refine wp_aload_n (pc := 24) d_M_typesOn_24 rfl ?_
          refine wp_getR (pc := 25) d_M_typesOn_25 rfl (zk_174 L) zx_174_8 ?_
          refine wp_iload_n (pc := 28) d_M_typesOn_28 rfl ?_
          refine wp_iald (pc := 29) d_M_typesOn_29 (zk_178 L) (by omega) (by omega) ?_
          rw [r1]
          refine wp_ishl (v := ((2 ^ (Y.2 (k : Int) 0).toNat : Nat) : Int)) (pc := 30) d_M_typesOn_30 (zn_shlI (by omega) (by omega)) ?_
          refine wp_goto (tgt := 35) (pc := 31) d_M_typesOn_31 rfl ?_
          refine K35 _ ?_
          first
          | rw [if_neg c20]; rfl
          | rw [if_pos (Decidable.of_not_not c20)]
theorem c_M_typesOn (hy : mY M Y) (hi : qYi Y) {f : Nat} : Cf L 0 zm_M_typesOn [rV 174, iV (f : Int)] M (iV ((vT Y f : Nat) : Int)) M := by
  show wp L _ zm_M_typesOn 0 [rV 174, iV (f : Int), uV, uV] [] M _
  have e7 := hy.1
  have h12 := hi.1
  refine wp_iconst (pc := 0) d_M_typesOn_0 rfl ?_
  refine wp_ist2 (pc := 1) d_M_typesOn_1 rfl ?_
  refine wp_iconst (pc := 2) d_M_typesOn_2 rfl ?_
  refine wp_ist3 (pc := 3) d_M_typesOn_3 rfl ?_
  exact lp_M_typesOn hy hi 100 0 (by omega) (by omega)
theorem lp_M_typesSeen (hy : mY M Y) (hi : qYi Y) : ∀ (n9 : Nat) (k : Nat), Y.1 - k < n9 → ((k : Int) ≤ Y.1) → wp L 0 zm_M_typesSeen 4 [rV 174, iV ((qBm (fun t => qEx (fun i => decide (Y.2 i 0 = (t : Int))) k) 6 : Nat) : Int), iV k] [] M (fun r M' => r = some (iV ((vTs Y : Nat) : Int)) ∧ M' = M) := by
  intro n9
  induction n9 with
  | zero =>
    intro k  h9 g0
    have e7 := hy.1
    have h12 := hi.1
    exact absurd h9 (by omega)
  | succ n9 ih =>
    intro k  h9 g0
    have e7 := hy.1
    have h12 := hi.1
    refine wp_iload_n (pc := 4) d_M_typesSeen_4 rfl ?_
    refine wp_aload_n (pc := 5) d_M_typesSeen_5 rfl ?_
    refine wp_getI (pc := 6) d_M_typesSeen_6 rfl (by decide) (zk_174 L) ?_
    refine wp_icmp_ge (tgt := 29) (pc := 9) d_M_typesSeen_9 rfl (fun c9 => ?_) (fun c9 => ?_)
    · refine wp_iload_n (pc := 29) d_M_typesSeen_29 rfl ?_
      refine wp_ireturn (pc := 30) d_M_typesSeen_30 rfl ?_
      refine ⟨?_, rfl⟩
      rw [show k = Y.1.toNat by omega]
      rfl
    · obtain ⟨r1, r2, r3, r4⟩ := hy.2 (k : Int) (by omega) (by omega)
      have ky := hi.2.1 (k : Int) (by omega) (by omega)
      have hlt : qBm (fun t => qEx (fun i => decide (Y.2 i 0 = (t : Int))) k) 6 < 64 := qBm_lt _ 6
      have hpw := z2p (show (Y.2 (k : Int) 0).toNat < 6 by omega)
      have hsu : qBm (fun t => qEx (fun i => decide (Y.2 i 0 = (t : Int))) k) 6 ||| 2 ^ (Y.2 (k : Int) 0).toNat = qBm (fun t => qEx (fun i => decide (Y.2 i 0 = (t : Int))) (k + 1)) 6 := qBm_or (by omega) (fun t ht => by
        rw [qEx_s]
        congr 1
        rw [Bool.eq_iff_iff, decide_eq_true_iff, decide_eq_true_iff]
        omega)
      refine wp_iload_n (pc := 12) d_M_typesSeen_12 rfl ?_
      refine wp_iconst (pc := 13) d_M_typesSeen_13 rfl ?_
      refine wp_aload_n (pc := 14) d_M_typesSeen_14 rfl ?_
      refine wp_getR (pc := 15) d_M_typesSeen_15 rfl (zk_174 L) zx_174_8 ?_
      refine wp_iload_n (pc := 18) d_M_typesSeen_18 rfl ?_
      refine wp_iald (pc := 19) d_M_typesSeen_19 (zk_178 L) (by omega) (by omega) ?_
      rw [r1]
      refine wp_ishl (v := ((2 ^ (Y.2 (k : Int) 0).toNat : Nat) : Int)) (pc := 20) d_M_typesSeen_20 (zn_shlI (by omega) (by omega)) ?_
      refine wp_ior (v := ((qBm (fun t => qEx (fun i => decide (Y.2 i 0 = (t : Int))) (k + 1)) 6 : Nat) : Int)) (pc := 21) d_M_typesSeen_21 (by rw [← hsu]; exact zn_or (by omega) (by omega)) ?_
      refine wp_ist1 (pc := 22) d_M_typesSeen_22 rfl ?_
      refine wp_iinc2 (pc := 23) d_M_typesSeen_23 rfl (by omega) (by omega) ?_
      refine wp_goto (tgt := 4) (pc := 26) d_M_typesSeen_26 rfl ?_
      exact ih (k + 1) (by omega) (by omega)
theorem c_M_typesSeen (hy : mY M Y) (hi : qYi Y) : Cf L 0 zm_M_typesSeen [rV 174] M (iV ((vTs Y : Nat) : Int)) M := by
  show wp L _ zm_M_typesSeen 0 [rV 174, uV, uV] [] M _
  have e7 := hy.1
  have h12 := hi.1
  refine wp_iconst (pc := 0) d_M_typesSeen_0 rfl ?_
  refine wp_ist1 (pc := 1) d_M_typesSeen_1 rfl ?_
  refine wp_iconst (pc := 2) d_M_typesSeen_2 rfl ?_
  refine wp_ist2 (pc := 3) d_M_typesSeen_3 rfl ?_
  exact lp_M_typesSeen hy hi 100 0 (by omega) (by omega)
theorem lp_M_onForme (hy : mY M Y) (hi : qYi Y) {f : Nat} : ∀ (n9 : Nat) (k : Nat) (v : Int), Y.1 - k < n9 → ((k : Int) ≤ Y.1) → (v = qN (fun i => decide (Y.2 i 1 = (f : Int))) k) → wp L 0 zm_M_onForme 4 [rV 174, iV (f : Int), iV v, iV k] [] M (fun r M' => r = some (iV (qPc (vT Y f) 24)) ∧ M' = M) := by
  intro n9
  induction n9 with
  | zero =>
    intro k  v  h9 g0 g1
    have e7 := hy.1
    have h12 := hi.1
    exact absurd h9 (by omega)
  | succ n9 ih =>
    intro k  v  h9 g0 g1
    have e7 := hy.1
    have h12 := hi.1
    have hv := qN_b (fun i => decide (Y.2 i 1 = (f : Int))) k
    rw [← g1] at hv
    refine wp_iload_n (pc := 4) d_M_onForme_4 rfl ?_
    refine wp_aload_n (pc := 5) d_M_onForme_5 rfl ?_
    refine wp_getI (pc := 6) d_M_onForme_6 rfl (by decide) (zk_174 L) ?_
    refine wp_icmp_ge (tgt := 36) (pc := 9) d_M_onForme_9 rfl (fun c9 => ?_) (fun c9 => ?_)
    · refine wp_iload_n (pc := 36) d_M_onForme_36 rfl ?_
      refine wp_ireturn (pc := 37) d_M_onForme_37 rfl ?_
      refine ⟨?_, rfl⟩
      rw [g1, show k = Y.1.toNat by omega, vT_n hi]
    · obtain ⟨r1, r2, r3, r4⟩ := hy.2 (k : Int) (by omega) (by omega)
      refine wp_iload_n (pc := 12) d_M_onForme_12 rfl ?_
      refine zcut (pc' := 28) (fun (v28 : Int) => v28 = if Y.2 (k : Int) 1 = (f : Int) then 1 else 0) (fun (v28 : Int) => [rV 174, iV (f : Int), iV v, iV (k : Int)]) (fun (v28 : Int) => [iV v28, iV v]) (fun (v28 : Int) => M) ?_ (fun K28 => ?_)
      · intro v28 h28
        show wp L _ zm_M_onForme 28 [rV 174, iV (f : Int), iV v, iV (k : Int)] [iV v28, iV v] (M) _
        have hv2 : v28 = 0 ∨ v28 = 1 := by rw [h28]; split <;> omega
        refine wp_iadd (pc := 28) d_M_onForme_28 (by omega) (by omega) ?_
        refine wp_ist2 (pc := 29) d_M_onForme_29 rfl ?_
        refine wp_iinc3 (pc := 30) d_M_onForme_30 rfl (by omega) (by omega) ?_
        refine wp_goto (tgt := 4) (pc := 33) d_M_onForme_33 rfl ?_
        refine ih (k + 1) _ (by omega) (by omega) ?_
        simp only [qN, decide_eq_true_eq]
        rw [← g1, h28]
      · refine wp_aload_n (pc := 13) d_M_onForme_13 rfl ?_
        refine wp_getR (pc := 14) d_M_onForme_14 rfl (zk_174 L) zx_174_9 ?_
        refine wp_iload_n (pc := 17) d_M_onForme_17 rfl ?_
        refine wp_iald (pc := 18) d_M_onForme_18 (zk_179 L) (by omega) (by omega) ?_
        rw [r2]
        refine wp_iload_n (pc := 19) d_M_onForme_19 rfl ?_
        refine wp_icmp_ne (tgt := 27) (pc := 20) d_M_onForme_20 rfl (fun c20 => ?_) (fun c20 => ?_)
        · refine wp_iconst (pc := 27) d_M_onForme_27 rfl ?_
          first | exact K28 _ (if_neg c20).symm | exact K28 _ (if_pos (Decidable.of_not_not c20)).symm
        · refine wp_iconst (pc := 23) d_M_onForme_23 rfl ?_
          refine wp_goto (tgt := 28) (pc := 24) d_M_onForme_24 rfl ?_
          first | exact K28 _ (if_neg c20).symm | exact K28 _ (if_pos (Decidable.of_not_not c20)).symm
theorem c_M_onForme (hy : mY M Y) (hi : qYi Y) {f : Nat} : Cf L 0 zm_M_onForme [rV 174, iV (f : Int)] M (iV (qPc (vT Y f) 24)) M := by
  show wp L _ zm_M_onForme 0 [rV 174, iV (f : Int), uV, uV] [] M _
  have e7 := hy.1
  have h12 := hi.1
  refine wp_iconst (pc := 0) d_M_onForme_0 rfl ?_
  refine wp_ist2 (pc := 1) d_M_onForme_1 rfl ?_
  refine wp_iconst (pc := 2) d_M_onForme_2 rfl ?_
  refine wp_ist3 (pc := 3) d_M_onForme_3 rfl ?_
  exact lp_M_onForme hy hi 100 0 0 (by omega) (by omega) rfl
theorem lp_M_tog (hy : mY M Y) (hi : qYi Y) (h25 : M 174 25 = ((vS Y vAll : Nat) : Int)) {f : Nat} (hf : f < 6) : ∀ (n9 : Nat) (k : Nat) (u4 : zV), 6 - (k : Int) < n9 → (k ≤ 6) → wp L 1 zm_M_togetherWith 4 [rV 174, iV (f : Int), iV ((qBm (mCc Y f) k : Nat) : Int), iV k, u4] [] M (fun r M' => r = some (iV ((vC Y f : Nat) : Int)) ∧ M' = M) := by
  intro n9
  induction n9 with
  | zero =>
    intro k  u4  h9 g0
    exact absurd h9 (by omega)
  | succ n9 ih =>
    intro k  u4  h9 g0
    have hlt := vS_lt Y vAll
    have hfT := vS_T hi hf
    have hT1 := vT_lt Y f
    refine wp_iload_n (pc := 4) d_M_togetherWith_4 rfl ?_
    refine wp_bipush (pc := 5) d_M_togetherWith_5 rfl ?_
    refine wp_icmp_ge (tgt := 79) (pc := 7) d_M_togetherWith_7 rfl (fun c7 => ?_) (fun c7 => ?_)
    · refine wp_iload_n (pc := 79) d_M_togetherWith_79 rfl ?_
      refine wp_ireturn (pc := 80) d_M_togetherWith_80 rfl ?_
      refine ⟨?_, rfl⟩
      first
      | (rw [show k = 6 by omega]; rfl)
      | (have e : vT Y f = 0 := Decidable.of_not_not (of_decide_eq_false (hfT.symm.trans (qB_0 c18)))
         rw [show vC Y f = 0 from qBm_no (fun g _ => decide_eq_false (fun z => z.1 e)), qBm_no (fun g _ => decide_eq_false (fun z => z.1 e))])
    · refine wp_aload_n (pc := 10) d_M_togetherWith_10 rfl ?_
      refine wp_getI (pc := 11) d_M_togetherWith_11 rfl (by decide) (zk_174 L) ?_
      rw [h25]
      refine wp_iload_n (pc := 14) d_M_togetherWith_14 rfl ?_
      refine wp_callS2f (pc := 15) d_M_togetherWith_15 rfl rfl rfl rfl rfl (c_M_has (by omega) (by omega)) ?_
      refine wp_if_eq (tgt := 79) (pc := 18) d_M_togetherWith_18 rfl (fun c18 => ?_) (fun c18 => ?_)
      · refine wp_iload_n (pc := 79) d_M_togetherWith_79 rfl ?_
        refine wp_ireturn (pc := 80) d_M_togetherWith_80 rfl ?_
        refine ⟨?_, rfl⟩
        first
        | (rw [show k = 6 by omega]; rfl)
        | (have e : vT Y f = 0 := Decidable.of_not_not (of_decide_eq_false (hfT.symm.trans (qB_0 c18)))
           rw [show vC Y f = 0 from qBm_no (fun g _ => decide_eq_false (fun z => z.1 e)), qBm_no (fun g _ => decide_eq_false (fun z => z.1 e))])
      · have hkT := vS_T hi (show k < 6 by omega)
        have hT2 := vT_lt Y k
        have hbk : qBm (mCc Y f) k < 64 := Nat.lt_of_lt_of_le (qBm_lt _ k) (show 2 ^ k ≤ 2 ^ 6 from Nat.pow_le_pow_right (by decide) (by omega))
        have hf0 : ¬ vT Y f = 0 := of_decide_eq_true (hfT.symm.trans (qB_1 c18))
        refine zcut (pc' := 56) (fun (v56 : Int) => v56 = qB (mCc Y f k)) (fun (v56 : Int) => [rV 174, iV (f : Int), iV ((qBm (mCc Y f) k : Nat) : Int), iV (k : Int), u4]) (fun (v56 : Int) => [iV v56]) (fun (v56 : Int) => M) ?_ (fun K56 => ?_)
        · intro v56 h56
          show wp L _ zm_M_togetherWith 56 [rV 174, iV (f : Int), iV ((qBm (mCc Y f) k : Nat) : Int), iV (k : Int), u4] [iV v56] (M) _
          refine wp_ist4 (pc := 56) d_M_togetherWith_56 rfl ?_
          refine zcut (pc' := 71) (fun (v71 : Int) => v71 = ((if mCc Y f k = true then 2 ^ k else 0 : Nat) : Int)) (fun (v71 : Int) => [rV 174, iV (f : Int), iV ((qBm (mCc Y f) k : Nat) : Int), iV (k : Int), iV v56]) (fun (v71 : Int) => [iV v71, iV ((qBm (mCc Y f) k : Nat) : Int)]) (fun (v71 : Int) => M) ?_ (fun K71 => ?_)
          · intro v71 h71
            show wp L _ zm_M_togetherWith 71 [rV 174, iV (f : Int), iV ((qBm (mCc Y f) k : Nat) : Int), iV (k : Int), iV v56] [iV v71, iV ((qBm (mCc Y f) k : Nat) : Int)] (M) _
            refine wp_ior (v := ((qBm (mCc Y f) (k + 1) : Nat) : Int)) (pc := 71) d_M_togetherWith_71 (by rw [h71, ← qBm_s]; exact zn_or (by omega) (by have := z2p (show k < 6 by omega); split <;> omega)) ?_
            refine wp_ist2 (pc := 72) d_M_togetherWith_72 rfl ?_
            refine wp_iinc3 (pc := 73) d_M_togetherWith_73 rfl (by omega) (by omega) ?_
            refine wp_goto (tgt := 4) (pc := 76) d_M_togetherWith_76 rfl ?_
            exact ih (k + 1) _ (by omega) (by omega)
          · refine wp_iload_n (pc := 58) d_M_togetherWith_58 rfl ?_
            refine wp_iload (pc := 59) d_M_togetherWith_59 rfl ?_
            refine wp_if_eq (tgt := 70) (pc := 61) d_M_togetherWith_61 rfl (fun c61 => ?_) (fun c61 => ?_)
            · refine wp_iconst (pc := 70) d_M_togetherWith_70 rfl ?_
              refine K71 _ ?_
              first
              | rw [if_neg (qB_n (by rw [← h56]; exact c61))]; rfl
              | rw [if_pos (qB_1 (by rw [← h56]; exact c61))]
            · refine wp_iconst (pc := 64) d_M_togetherWith_64 rfl ?_
              refine wp_iload_n (pc := 65) d_M_togetherWith_65 rfl ?_
              refine wp_ishl (v := ((2 ^ k : Nat) : Int)) (pc := 66) d_M_togetherWith_66 (zn_shl1 k (by omega)) ?_
              refine wp_goto (tgt := 71) (pc := 67) d_M_togetherWith_67 rfl ?_
              refine K71 _ ?_
              first
              | rw [if_neg (qB_n (by rw [← h56]; exact c61))]; rfl
              | rw [if_pos (qB_1 (by rw [← h56]; exact c61))]
        · refine wp_iload_n (pc := 21) d_M_togetherWith_21 rfl ?_
          refine wp_iload_n (pc := 22) d_M_togetherWith_22 rfl ?_
          refine wp_icmp_eq (tgt := 55) (pc := 23) d_M_togetherWith_23 rfl (fun c23 => ?_) (fun c23 => ?_)
          · refine wp_iconst (pc := 55) d_M_togetherWith_55 rfl ?_
            refine K56 _ ?_
            first
            | (have e : k = f := by omega
               rw [show mCc Y f k = false from decide_eq_false (fun z => z.1 (by rw [e, Nat.and_self] at z; exact z.2.2))]; rfl)
            | (have e : vT Y k = 0 := Decidable.of_not_not (of_decide_eq_false (hkT.symm.trans (qB_0 c34)))
               rw [show mCc Y f k = false from decide_eq_false (fun z => z.2.1 e)]; rfl)
            | (have e : ¬ vT Y k = 0 := of_decide_eq_true (hkT.symm.trans (qB_1 c34))
               rw [show mCc Y f k = false from decide_eq_false (fun z => c48 (by rw [z.2.2]; rfl))]; rfl)
            | (have e : ¬ vT Y k = 0 := of_decide_eq_true (hkT.symm.trans (qB_1 c34))
               rw [show mCc Y f k = true from decide_eq_true ⟨hf0, e, by omega⟩]; rfl)
          · refine wp_aload_n (pc := 26) d_M_togetherWith_26 rfl ?_
            refine wp_getI (pc := 27) d_M_togetherWith_27 rfl (by decide) (zk_174 L) ?_
            rw [h25]
            refine wp_iload_n (pc := 30) d_M_togetherWith_30 rfl ?_
            refine wp_callS2f (pc := 31) d_M_togetherWith_31 rfl rfl rfl rfl rfl (c_M_has (by omega) (by omega)) ?_
            refine wp_if_eq (tgt := 55) (pc := 34) d_M_togetherWith_34 rfl (fun c34 => ?_) (fun c34 => ?_)
            · refine wp_iconst (pc := 55) d_M_togetherWith_55 rfl ?_
              refine K56 _ ?_
              first
              | (have e : k = f := by omega
                 rw [show mCc Y f k = false from decide_eq_false (fun z => z.1 (by rw [e, Nat.and_self] at z; exact z.2.2))]; rfl)
              | (have e : vT Y k = 0 := Decidable.of_not_not (of_decide_eq_false (hkT.symm.trans (qB_0 c34)))
                 rw [show mCc Y f k = false from decide_eq_false (fun z => z.2.1 e)]; rfl)
              | (have e : ¬ vT Y k = 0 := of_decide_eq_true (hkT.symm.trans (qB_1 c34))
                 rw [show mCc Y f k = false from decide_eq_false (fun z => c48 (by rw [z.2.2]; rfl))]; rfl)
              | (have e : ¬ vT Y k = 0 := of_decide_eq_true (hkT.symm.trans (qB_1 c34))
                 rw [show mCc Y f k = true from decide_eq_true ⟨hf0, e, by omega⟩]; rfl)
            · refine wp_aload_n (pc := 37) d_M_togetherWith_37 rfl ?_
              refine wp_iload_n (pc := 38) d_M_togetherWith_38 rfl ?_
              refine wp_callV1f (pc := 39) d_M_togetherWith_39 rfl rfl (zk_174 L) rfl rfl (c_M_typesOn hy hi) ?_
              refine wp_aload_n (pc := 42) d_M_togetherWith_42 rfl ?_
              refine wp_iload_n (pc := 43) d_M_togetherWith_43 rfl ?_
              refine wp_callV1f (pc := 44) d_M_togetherWith_44 rfl rfl (zk_174 L) rfl rfl (c_M_typesOn hy hi) ?_
              refine wp_iand (v := ((vT Y k &&& vT Y f : Nat) : Int)) (pc := 47) d_M_togetherWith_47 (zn_and (by omega) (by omega)) ?_
              refine wp_if_ne (tgt := 55) (pc := 48) d_M_togetherWith_48 rfl (fun c48 => ?_) (fun c48 => ?_)
              · refine wp_iconst (pc := 55) d_M_togetherWith_55 rfl ?_
                refine K56 _ ?_
                first
                | (have e : k = f := by omega
                   rw [show mCc Y f k = false from decide_eq_false (fun z => z.1 (by rw [e, Nat.and_self] at z; exact z.2.2))]; rfl)
                | (have e : vT Y k = 0 := Decidable.of_not_not (of_decide_eq_false (hkT.symm.trans (qB_0 c34)))
                   rw [show mCc Y f k = false from decide_eq_false (fun z => z.2.1 e)]; rfl)
                | (have e : ¬ vT Y k = 0 := of_decide_eq_true (hkT.symm.trans (qB_1 c34))
                   rw [show mCc Y f k = false from decide_eq_false (fun z => c48 (by rw [z.2.2]; rfl))]; rfl)
                | (have e : ¬ vT Y k = 0 := of_decide_eq_true (hkT.symm.trans (qB_1 c34))
                   rw [show mCc Y f k = true from decide_eq_true ⟨hf0, e, by omega⟩]; rfl)
              · refine wp_iconst (pc := 51) d_M_togetherWith_51 rfl ?_
                refine wp_goto (tgt := 56) (pc := 52) d_M_togetherWith_52 rfl ?_
                refine K56 _ ?_
                first
                | (have e : k = f := by omega
                   rw [show mCc Y f k = false from decide_eq_false (fun z => z.1 (by rw [e, Nat.and_self] at z; exact z.2.2))]; rfl)
                | (have e : vT Y k = 0 := Decidable.of_not_not (of_decide_eq_false (hkT.symm.trans (qB_0 c34)))
                   rw [show mCc Y f k = false from decide_eq_false (fun z => z.2.1 e)]; rfl)
                | (have e : ¬ vT Y k = 0 := of_decide_eq_true (hkT.symm.trans (qB_1 c34))
                   rw [show mCc Y f k = false from decide_eq_false (fun z => c48 (by rw [z.2.2]; rfl))]; rfl)
                | (have e : ¬ vT Y k = 0 := of_decide_eq_true (hkT.symm.trans (qB_1 c34))
                   rw [show mCc Y f k = true from decide_eq_true ⟨hf0, e, by omega⟩]; rfl)
theorem c_M_tog (hy : mY M Y) (hi : qYi Y) (h25 : M 174 25 = ((vS Y vAll : Nat) : Int)) {f : Nat} (hf : f < 6) : Cf L 1 zm_M_togetherWith [rV 174, iV (f : Int)] M (iV ((vC Y f : Nat) : Int)) M := by
  show wp L _ zm_M_togetherWith 0 [rV 174, iV (f : Int), uV, uV, uV] [] M _
  refine wp_iconst (pc := 0) d_M_togetherWith_0 rfl ?_
  refine wp_ist2 (pc := 1) d_M_togetherWith_1 rfl ?_
  refine wp_iconst (pc := 2) d_M_togetherWith_2 rfl ?_
  refine wp_ist3 (pc := 3) d_M_togetherWith_3 rfl ?_
  exact lp_M_tog hy hi h25 hf 100 0 _ (by omega) (by omega)
theorem lp_M_mbo (h25 : M 174 25 = ((vS Y vAll : Nat) : Int)) (h93 : ∀ g, g < 6 → M 193 g = ((vC Y g : Nat) : Int)) {f : Nat} (hf : f < 6) {a : Int → Int} (hp : ∀ g, g < f → ((vS Y vAll).testBit g = true → M 192 g = a (g : Int)) ∧ ((vS Y vAll).testBit g = false → a (g : Int) = -1)) (p0 : 0 ≤ p) : ∀ (n9 : Nat) (k : Nat) (v : Int), (f : Int) - k < n9 → (k ≤ f) → (v = qB (!qEx (fun o => decide (a o = p) && !(vC Y f).testBit o.toNat) k)) → wp L 1 zm_M_mayBeOn 5 [rV 174, iV (f : Int), iV p, iV v, iV k] [] M (fun r M' => r = some (iV (qB (vFit (vC Y) a f p))) ∧ M' = M) := by
  intro n9
  induction n9 with
  | zero =>
    intro k  v  h9 g0 g1
    exact absurd h9 (by omega)
  | succ n9 ih =>
    intro k  v  h9 g0 g1
    refine wp_iload (pc := 5) d_M_mayBeOn_5 rfl ?_
    refine wp_iload_n (pc := 7) d_M_mayBeOn_7 rfl ?_
    refine wp_icmp_ge (tgt := 64) (pc := 8) d_M_mayBeOn_8 rfl (fun c8 => ?_) (fun c8 => ?_)
    · refine wp_iload_n (pc := 64) d_M_mayBeOn_64 rfl ?_
      refine wp_zreturn (pc := 65) d_M_mayBeOn_65 rfl (by rw [g1]; exact qB_in _) ?_
      refine ⟨?_, rfl⟩
      rw [g1, show k = f by omega]
      rfl
    · have ek : ((k : Int)).toNat = k := by omega
      have ef : ((f : Int)).toNat = f := by omega
      have hlt := vS_lt Y vAll
      have hlc := vC_lt Y f
      obtain ⟨p1, p2⟩ := hp k (by omega)
      have hT : ¬ v = 0 → (!qEx (fun o => decide (a o = p) && !(vC Y f).testBit o.toNat) k) = true := fun z => qB_1 (by rw [← g1]; exact z)
      have hF : v = 0 → (!qEx (fun o => decide (a o = p) && !(vC Y f).testBit o.toNat) k) = false := fun z => qB_0 (by rw [← g1]; exact z)
      refine zcut (pc' := 57) (fun (v57 : Int) => v57 = qB (!qEx (fun o => decide (a o = p) && !(vC Y f).testBit o.toNat) (k + 1))) (fun (v57 : Int) => [rV 174, iV (f : Int), iV p, iV v, iV (k : Int)]) (fun (v57 : Int) => [iV v57]) (fun (v57 : Int) => M) ?_ (fun K57 => ?_)
      · intro v57 h57
        show wp L _ zm_M_mayBeOn 57 [rV 174, iV (f : Int), iV p, iV v, iV (k : Int)] [iV v57] (M) _
        refine wp_ist3 (pc := 57) d_M_mayBeOn_57 rfl ?_
        refine wp_iinc4 (pc := 58) d_M_mayBeOn_58 rfl (by omega) (by omega) ?_
        refine wp_goto (tgt := 5) (pc := 61) d_M_mayBeOn_61 rfl ?_
        exact ih (k + 1) _ (by omega) (by omega) h57
      · refine wp_iload_n (pc := 11) d_M_mayBeOn_11 rfl ?_
        refine wp_if_eq (tgt := 56) (pc := 12) d_M_mayBeOn_12 rfl (fun c12 => ?_) (fun c12 => ?_)
        · refine wp_iconst (pc := 56) d_M_mayBeOn_56 rfl ?_
          refine K57 _ ?_
          rw [qEx_s, Bool.not_or, ek]
          first
          | (rw [hF c12]; rfl)
          | (have e := p2 (qB_0 c24)
             rw [hT c12, decide_eq_false (by omega)]; rfl)
          | (rw [hT c12, decide_eq_false c35]; rfl)
          | (rw [hT c12, decide_eq_true (Decidable.of_not_not c35), qB_0 c49]; rfl)
          | (rw [hT c12, decide_eq_true (Decidable.of_not_not c35), qB_1 c49]; rfl)
        · refine wp_aload_n (pc := 15) d_M_mayBeOn_15 rfl ?_
          refine wp_getI (pc := 16) d_M_mayBeOn_16 rfl (by decide) (zk_174 L) ?_
          rw [h25]
          refine wp_iload (pc := 19) d_M_mayBeOn_19 rfl ?_
          refine wp_callS2f (pc := 21) d_M_mayBeOn_21 rfl rfl rfl rfl rfl (c_M_has (by omega) (by omega)) ?_
          refine wp_if_eq (tgt := 52) (pc := 24) d_M_mayBeOn_24 rfl (fun c24 => ?_) (fun c24 => ?_)
          · refine wp_iconst (pc := 52) d_M_mayBeOn_52 rfl ?_
            refine wp_goto (tgt := 57) (pc := 53) d_M_mayBeOn_53 rfl ?_
            refine K57 _ ?_
            rw [qEx_s, Bool.not_or, ek]
            first
            | (rw [hF c12]; rfl)
            | (have e := p2 (qB_0 c24)
               rw [hT c12, decide_eq_false (by omega)]; rfl)
            | (rw [hT c12, decide_eq_false c35]; rfl)
            | (rw [hT c12, decide_eq_true (Decidable.of_not_not c35), qB_0 c49]; rfl)
            | (rw [hT c12, decide_eq_true (Decidable.of_not_not c35), qB_1 c49]; rfl)
          · refine wp_aload_n (pc := 27) d_M_mayBeOn_27 rfl ?_
            refine wp_getR (pc := 28) d_M_mayBeOn_28 rfl (zk_174 L) zx_174_29 ?_
            refine wp_iload (pc := 31) d_M_mayBeOn_31 rfl ?_
            refine wp_iald (pc := 33) d_M_mayBeOn_33 (zk_192 L) (by omega) (by omega) ?_
            rw [ek, p1 (qB_1 c24)]
            refine wp_iload_n (pc := 34) d_M_mayBeOn_34 rfl ?_
            refine wp_icmp_ne (tgt := 52) (pc := 35) d_M_mayBeOn_35 rfl (fun c35 => ?_) (fun c35 => ?_)
            · refine wp_iconst (pc := 52) d_M_mayBeOn_52 rfl ?_
              refine wp_goto (tgt := 57) (pc := 53) d_M_mayBeOn_53 rfl ?_
              refine K57 _ ?_
              rw [qEx_s, Bool.not_or, ek]
              first
              | (rw [hF c12]; rfl)
              | (have e := p2 (qB_0 c24)
                 rw [hT c12, decide_eq_false (by omega)]; rfl)
              | (rw [hT c12, decide_eq_false c35]; rfl)
              | (rw [hT c12, decide_eq_true (Decidable.of_not_not c35), qB_0 c49]; rfl)
              | (rw [hT c12, decide_eq_true (Decidable.of_not_not c35), qB_1 c49]; rfl)
            · refine wp_aload_n (pc := 38) d_M_mayBeOn_38 rfl ?_
              refine wp_getR (pc := 39) d_M_mayBeOn_39 rfl (zk_174 L) zx_174_30 ?_
              refine wp_iload_n (pc := 42) d_M_mayBeOn_42 rfl ?_
              refine wp_iald (pc := 43) d_M_mayBeOn_43 (zk_193 L) (by omega) (by omega) ?_
              rw [ef, h93 f hf]
              refine wp_iload (pc := 44) d_M_mayBeOn_44 rfl ?_
              refine wp_callS2f (pc := 46) d_M_mayBeOn_46 rfl rfl rfl rfl rfl (c_M_has (by omega) (by omega)) ?_
              refine wp_if_eq (tgt := 56) (pc := 49) d_M_mayBeOn_49 rfl (fun c49 => ?_) (fun c49 => ?_)
              · refine wp_iconst (pc := 56) d_M_mayBeOn_56 rfl ?_
                refine K57 _ ?_
                rw [qEx_s, Bool.not_or, ek]
                first
                | (rw [hF c12]; rfl)
                | (have e := p2 (qB_0 c24)
                   rw [hT c12, decide_eq_false (by omega)]; rfl)
                | (rw [hT c12, decide_eq_false c35]; rfl)
                | (rw [hT c12, decide_eq_true (Decidable.of_not_not c35), qB_0 c49]; rfl)
                | (rw [hT c12, decide_eq_true (Decidable.of_not_not c35), qB_1 c49]; rfl)
              · refine wp_iconst (pc := 52) d_M_mayBeOn_52 rfl ?_
                refine wp_goto (tgt := 57) (pc := 53) d_M_mayBeOn_53 rfl ?_
                refine K57 _ ?_
                rw [qEx_s, Bool.not_or, ek]
                first
                | (rw [hF c12]; rfl)
                | (have e := p2 (qB_0 c24)
                   rw [hT c12, decide_eq_false (by omega)]; rfl)
                | (rw [hT c12, decide_eq_false c35]; rfl)
                | (rw [hT c12, decide_eq_true (Decidable.of_not_not c35), qB_0 c49]; rfl)
                | (rw [hT c12, decide_eq_true (Decidable.of_not_not c35), qB_1 c49]; rfl)
theorem c_M_mbo (h25 : M 174 25 = ((vS Y vAll : Nat) : Int)) (h93 : ∀ g, g < 6 → M 193 g = ((vC Y g : Nat) : Int)) {f : Nat} (hf : f < 6) {a : Int → Int} (hp : ∀ g, g < f → ((vS Y vAll).testBit g = true → M 192 g = a (g : Int)) ∧ ((vS Y vAll).testBit g = false → a (g : Int) = -1)) (p0 : 0 ≤ p) : Cf L 1 zm_M_mayBeOn [rV 174, iV (f : Int), iV p] M (iV (qB (vFit (vC Y) a f p))) M := by
  show wp L _ zm_M_mayBeOn 0 [rV 174, iV (f : Int), iV p, uV, uV] [] M _
  refine wp_iconst (pc := 0) d_M_mayBeOn_0 rfl ?_
  refine wp_ist3 (pc := 1) d_M_mayBeOn_1 rfl ?_
  refine wp_iconst (pc := 2) d_M_mayBeOn_2 rfl ?_
  refine wp_ist4 (pc := 3) d_M_mayBeOn_3 rfl ?_
  exact lp_M_mbo h25 h93 hf hp p0 100 0 1 (by omega) (by omega) rfl
theorem c_M_goesOn {f : Nat} (hf : f < 6) : Cf L 0 zm_M_goesOn [rV 174, iV (f : Int)] M (iV ((f : Int) + 1)) (zU M 192 ((f : Int)).toNat 0) := by
  show wp L _ zm_M_goesOn 0 [rV 174, iV (f : Int)] [] M _
  refine wp_aload_n (pc := 0) d_M_goesOn_0 rfl ?_
  refine wp_getR (pc := 1) d_M_goesOn_1 rfl (zk_174 L) zx_174_29 ?_
  refine wp_iload_n (pc := 4) d_M_goesOn_4 rfl ?_
  refine wp_iconst (pc := 5) d_M_goesOn_5 rfl ?_
  refine wp_iast (pc := 6) d_M_goesOn_6 (zk_192 L) (by decide) (by omega) (by omega) ?_
  refine wp_iload_n (pc := 7) d_M_goesOn_7 rfl ?_
  refine wp_iconst (pc := 8) d_M_goesOn_8 rfl ?_
  refine wp_iadd (pc := 9) d_M_goesOn_9 (by omega) (by omega) ?_
  refine wp_ireturn (pc := 10) d_M_goesOn_10 rfl ?_
  exact ⟨rfl, rfl⟩
theorem c_M_goesBack {f : Nat} (hf : f < 6) : Cf L 0 zm_M_goesBack [rV 174, iV (f : Int)] M (iV ((f : Int) - 1)) (zU M 192 ((f : Int)).toNat (-1)) := by
  show wp L _ zm_M_goesBack 0 [rV 174, iV (f : Int)] [] M _
  refine wp_aload_n (pc := 0) d_M_goesBack_0 rfl ?_
  refine wp_getR (pc := 1) d_M_goesBack_1 rfl (zk_174 L) zx_174_29 ?_
  refine wp_iload_n (pc := 4) d_M_goesBack_4 rfl ?_
  refine wp_iconst (pc := 5) d_M_goesBack_5 rfl ?_
  refine wp_iast (pc := 6) d_M_goesBack_6 (zk_192 L) (by decide) (by omega) (by omega) ?_
  refine wp_iload_n (pc := 7) d_M_goesBack_7 rfl ?_
  refine wp_iconst (pc := 8) d_M_goesBack_8 rfl ?_
  refine wp_isub (pc := 9) d_M_goesBack_9 (by omega) (by omega) ?_
  refine wp_ireturn (pc := 10) d_M_goesBack_10 rfl ?_
  exact ⟨rfl, rfl⟩
end ZM14
