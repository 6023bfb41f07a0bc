/-! Chronology, on: build, and what it tells -/
/-- a chronology that is built -/
def qBc (M : zM) (Y : qYt) : Prop := M 161 5 = ((vS Y vAll : Nat) : Int) ∧ M 161 6 = vOr Y ∧ ∀ f : Nat, f < 6 → M 162 f = ((vT Y f : Nat) : Int) ∧ M 163 f = ((vC Y f : Nat) : Int) ∧ M 164 f = ((vA Y vAll f : Nat) : Int) ∧ M 166 f = vFi Y (f : Int)
theorem qBc.keep {S : Nat → Prop} {M M' : zM} {Y : qYt} (h : qBc M Y) (hs : zSm S M M') (h1 : ∀ a, 161 ≤ a → a < 167 → ¬ S a) : qBc M' Y := by
  unfold qBc
  rw [hs 161 (h1 161 (by decide) (by decide)), hs 161 (h1 161 (by decide) (by decide))]
  refine ⟨h.1, h.2.1, fun f hf => ?_⟩
  rw [hs 162 (h1 162 (by decide) (by decide)), hs 163 (h1 163 (by decide) (by decide)), hs 164 (h1 164 (by decide) (by decide)), hs 166 (h1 166 (by decide) (by decide))]
  exact h.2.2 f hf
theorem vOr_b (Y : qYt) : 0 ≤ vOr Y ∧ vOr Y ≤ 46656 := vW_b _ 6 _
theorem vOl_b (Y : qYt) : 0 ≤ vOl Y ∧ vOl Y ≤ 6 := by
  unfold vOl
  have := qPc_b (vS Y vAll) 6
  have e := vPc_24 (vS Y vAll) (vS_lt Y vAll)
  split <;> omega
theorem vFi_b (Y : qYt) (p : Int) : -1 ≤ vFi Y p ∧ vFi Y p ≤ 5 := vNx_b _ _
section ZCh3
variable {L : Nat} {M : zM} {Y : qYt} {x y z w c p s i j : Int}
theorem c_Ch_bf  : Cf L 0 zm_Chrono_builtFor [rV 161] M (iV (M 161 7)) M := by
  show wp L _ zm_Chrono_builtFor 0 [rV 161] [] M _
  refine wp_aload_n (pc := 0) d_Chrono_builtFor_0 rfl ?_
  refine wp_getI (pc := 1) d_Chrono_builtFor_1 rfl (by decide) (zk_161 L) ?_
  refine wp_ireturn (pc := 4) d_Chrono_builtFor_4 rfl ?_
  exact ⟨rfl, rfl⟩
theorem c_Ch_ss (h : qBc M Y) : Cf L 0 zm_Chrono_seenSet [rV 161] M (iV ((vS Y vAll : Nat) : Int)) M := by
  show wp L _ zm_Chrono_seenSet 0 [rV 161] [] M _
  refine wp_aload_n (pc := 0) d_Chrono_seenSet_0 rfl ?_
  refine wp_getI (pc := 1) d_Chrono_seenSet_1 rfl (by decide) (zk_161 L) ?_
  refine wp_ireturn (pc := 4) d_Chrono_seenSet_4 rfl ?_
  exact ⟨by rw [h.1], rfl⟩
theorem c_Ch_or (h : qBc M Y) : Cf L 0 zm_Chrono_orders [rV 161] M (iV (vOr Y)) M := by
  show wp L _ zm_Chrono_orders 0 [rV 161] [] M _
  refine wp_aload_n (pc := 0) d_Chrono_orders_0 rfl ?_
  refine wp_getI (pc := 1) d_Chrono_orders_1 rfl (by decide) (zk_161 L) ?_
  refine wp_ireturn (pc := 4) d_Chrono_orders_4 rfl ?_
  exact ⟨by rw [h.2.1], rfl⟩
theorem c_Ch_ty (h : qBc M Y) (x0 : 0 ≤ x) (x1 : x < 6) : Cf L 0 zm_Chrono_typesOn [rV 161, iV x] M (iV ((vT Y x.toNat : Nat) : Int)) M := by
  show wp L _ zm_Chrono_typesOn 0 [rV 161, iV x] [] M _
  refine wp_iload_n (pc := 0) d_Chrono_typesOn_0 rfl ?_
  refine wp_if_lt (tgt := 19) (pc := 1) d_Chrono_typesOn_1 rfl (fun c1 => ?_) (fun c1 => ?_)
  · exact absurd c1 (by omega)
  · refine wp_iload_n (pc := 4) d_Chrono_typesOn_4 rfl ?_
    refine wp_bipush (pc := 5) d_Chrono_typesOn_5 rfl ?_
    refine wp_icmp_ge (tgt := 19) (pc := 7) d_Chrono_typesOn_7 rfl (fun c7 => ?_) (fun c7 => ?_)
    · exact absurd c7 (by omega)
    · refine wp_aload_n (pc := 10) d_Chrono_typesOn_10 rfl ?_
      refine wp_getR (pc := 11) d_Chrono_typesOn_11 rfl (zk_161 L) zx_161_0 ?_
      refine wp_iload_n (pc := 14) d_Chrono_typesOn_14 rfl ?_
      refine wp_iald (pc := 15) d_Chrono_typesOn_15 (zk_162 L) (by omega) (by omega) ?_
      refine wp_goto (tgt := 20) (pc := 16) d_Chrono_typesOn_16 rfl ?_
      refine wp_ireturn (pc := 20) d_Chrono_typesOn_20 rfl ?_
      exact ⟨by rw [(h.2.2 x.toNat (by omega)).1], rfl⟩
theorem c_Ch_ah (h : qBc M Y) (x0 : 0 ≤ x) (x1 : x < 6) : Cf L 0 zm_Chrono_aheadOf [rV 161, iV x] M (iV ((vA Y vAll x.toNat : Nat) : Int)) M := by
  show wp L _ zm_Chrono_aheadOf 0 [rV 161, iV x] [] M _
  refine wp_iload_n (pc := 0) d_Chrono_aheadOf_0 rfl ?_
  refine wp_if_lt (tgt := 19) (pc := 1) d_Chrono_aheadOf_1 rfl (fun c1 => ?_) (fun c1 => ?_)
  · exact absurd c1 (by omega)
  · refine wp_iload_n (pc := 4) d_Chrono_aheadOf_4 rfl ?_
    refine wp_bipush (pc := 5) d_Chrono_aheadOf_5 rfl ?_
    refine wp_icmp_ge (tgt := 19) (pc := 7) d_Chrono_aheadOf_7 rfl (fun c7 => ?_) (fun c7 => ?_)
    · exact absurd c7 (by omega)
    · refine wp_aload_n (pc := 10) d_Chrono_aheadOf_10 rfl ?_
      refine wp_getR (pc := 11) d_Chrono_aheadOf_11 rfl (zk_161 L) zx_161_2 ?_
      refine wp_iload_n (pc := 14) d_Chrono_aheadOf_14 rfl ?_
      refine wp_iald (pc := 15) d_Chrono_aheadOf_15 (zk_164 L) (by omega) (by omega) ?_
      refine wp_goto (tgt := 20) (pc := 16) d_Chrono_aheadOf_16 rfl ?_
      refine wp_ireturn (pc := 20) d_Chrono_aheadOf_20 rfl ?_
      exact ⟨by rw [(h.2.2 x.toNat (by omega)).2.2.1], rfl⟩
theorem c_Ch_cp (h : qBc M Y) (x0 : 0 ≤ x) (x1 : x < 6) : Cf L 0 zm_Chrono_companionsOf [rV 161, iV x] M (iV ((vC Y x.toNat : Nat) : Int)) M := by
  show wp L _ zm_Chrono_companionsOf 0 [rV 161, iV x] [] M _
  refine wp_iload_n (pc := 0) d_Chrono_companionsOf_0 rfl ?_
  refine wp_if_lt (tgt := 19) (pc := 1) d_Chrono_companionsOf_1 rfl (fun c1 => ?_) (fun c1 => ?_)
  · exact absurd c1 (by omega)
  · refine wp_iload_n (pc := 4) d_Chrono_companionsOf_4 rfl ?_
    refine wp_bipush (pc := 5) d_Chrono_companionsOf_5 rfl ?_
    refine wp_icmp_ge (tgt := 19) (pc := 7) d_Chrono_companionsOf_7 rfl (fun c7 => ?_) (fun c7 => ?_)
    · exact absurd c7 (by omega)
    · refine wp_aload_n (pc := 10) d_Chrono_companionsOf_10 rfl ?_
      refine wp_getR (pc := 11) d_Chrono_companionsOf_11 rfl (zk_161 L) zx_161_1 ?_
      refine wp_iload_n (pc := 14) d_Chrono_companionsOf_14 rfl ?_
      refine wp_iald (pc := 15) d_Chrono_companionsOf_15 (zk_163 L) (by omega) (by omega) ?_
      refine wp_goto (tgt := 20) (pc := 16) d_Chrono_companionsOf_16 rfl ?_
      refine wp_ireturn (pc := 20) d_Chrono_companionsOf_20 rfl ?_
      exact ⟨by rw [(h.2.2 x.toNat (by omega)).2.1], rfl⟩
theorem c_Ch_ol (h : qBc M Y) : Cf L 1 zm_Chrono_orderLength [rV 161] M (iV (vOl Y)) M := by
  show wp L _ zm_Chrono_orderLength 0 [rV 161] [] M _
  have hS := vS_lt Y vAll
  have e6 := h.2.1
  refine wp_aload_n (pc := 0) d_Chrono_orderLength_0 rfl ?_
  refine wp_getI (pc := 1) d_Chrono_orderLength_1 rfl (by decide) (zk_161 L) ?_
  refine wp_if_le (tgt := 17) (pc := 4) d_Chrono_orderLength_4 rfl (fun c4 => ?_) (fun c4 => ?_)
  · refine wp_iconst (pc := 17) d_Chrono_orderLength_17 rfl ?_
    refine wp_ireturn (pc := 18) d_Chrono_orderLength_18 rfl ?_
    refine ⟨?_, rfl⟩
    unfold vOl
    rw [e6] at c4
    first | rw [if_pos (by omega)] | rw [if_neg (by omega)]
  · refine wp_aload_n (pc := 7) d_Chrono_orderLength_7 rfl ?_
    refine wp_getI (pc := 8) d_Chrono_orderLength_8 rfl (by decide) (zk_161 L) ?_
    rw [h.1]
    refine wp_callS1f (pc := 11) d_Chrono_orderLength_11 rfl rfl rfl rfl rfl (c_bitCount (x := vS Y vAll) (by omega)) ?_
    refine wp_goto (tgt := 18) (pc := 14) d_Chrono_orderLength_14 rfl ?_
    refine wp_ireturn (pc := 18) d_Chrono_orderLength_18 rfl ?_
    refine ⟨?_, rfl⟩
    unfold vOl
    rw [e6] at c4
    first | rw [if_pos (by omega)] | rw [if_neg (by omega)]
theorem c_Ch_hp (h : qBc M Y) : Cf L 2 zm_Chrono_hasPlace [rV 161, iV x] M (iV (if 0 ≤ x ∧ x < vOl Y then 1 else 0)) M := by
  show wp L _ zm_Chrono_hasPlace 0 [rV 161, iV x] [] M _
  refine wp_iload_n (pc := 0) d_Chrono_hasPlace_0 rfl ?_
  refine wp_if_lt (tgt := 16) (pc := 1) d_Chrono_hasPlace_1 rfl (fun c1 => ?_) (fun c1 => ?_)
  · refine wp_iconst (pc := 16) d_Chrono_hasPlace_16 rfl ?_
    refine wp_zreturn (pc := 17) d_Chrono_hasPlace_17 rfl (by omega) ?_
    first | exact ⟨by rw [if_pos (by omega)], rfl⟩ | exact ⟨by rw [if_neg (by omega)], rfl⟩
  · refine wp_iload_n (pc := 4) d_Chrono_hasPlace_4 rfl ?_
    refine wp_aload_n (pc := 5) d_Chrono_hasPlace_5 rfl ?_
    refine wp_callV0f (pc := 6) d_Chrono_hasPlace_6 rfl rfl (zk_161 L) rfl rfl (c_Ch_ol h) ?_
    refine wp_icmp_ge (tgt := 16) (pc := 9) d_Chrono_hasPlace_9 rfl (fun c9 => ?_) (fun c9 => ?_)
    · refine wp_iconst (pc := 16) d_Chrono_hasPlace_16 rfl ?_
      refine wp_zreturn (pc := 17) d_Chrono_hasPlace_17 rfl (by omega) ?_
      first | exact ⟨by rw [if_pos (by omega)], rfl⟩ | exact ⟨by rw [if_neg (by omega)], rfl⟩
    · refine wp_iconst (pc := 12) d_Chrono_hasPlace_12 rfl ?_
      refine wp_goto (tgt := 17) (pc := 13) d_Chrono_hasPlace_13 rfl ?_
      refine wp_zreturn (pc := 17) d_Chrono_hasPlace_17 rfl (by omega) ?_
      first | exact ⟨by rw [if_pos (by omega)], rfl⟩ | exact ⟨by rw [if_neg (by omega)], rfl⟩
theorem c_Ch_fa (h : qBc M Y) : Cf L 3 zm_Chrono_formeAt [rV 161, iV x] M (iV (vFa Y x)) M := by
  show wp L _ zm_Chrono_formeAt 0 [rV 161, iV x] [] M _
  have hol := vOl_b Y
  refine wp_aload_n (pc := 0) d_Chrono_formeAt_0 rfl ?_
  refine wp_iload_n (pc := 1) d_Chrono_formeAt_1 rfl ?_
  refine wp_callV1f (pc := 2) d_Chrono_formeAt_2 rfl rfl (zk_161 L) rfl rfl (c_Ch_hp h) ?_
  refine wp_if_eq (tgt := 23) (pc := 5) d_Chrono_formeAt_5 rfl (fun c5 => ?_) (fun c5 => ?_)
  · have c5 := zb_eq0 c5
    refine wp_iconst (pc := 23) d_Chrono_formeAt_23 rfl ?_
    refine wp_ireturn (pc := 24) d_Chrono_formeAt_24 rfl ?_
    refine ⟨?_, rfl⟩
    unfold vFa
    first
    | (rw [if_neg c5])
    | (rw [if_pos c5, (h.2.2 x.toNat (by omega)).2.2.2, show ((x.toNat : Nat) : Int) = x by omega])
  · have c5 := zb_ne0 c5
    refine wp_iload_n (pc := 8) d_Chrono_formeAt_8 rfl ?_
    refine wp_bipush (pc := 9) d_Chrono_formeAt_9 rfl ?_
    refine wp_icmp_ge (tgt := 23) (pc := 11) d_Chrono_formeAt_11 rfl (fun c11 => ?_) (fun c11 => ?_)
    · exact absurd c11 (by omega)
    · refine wp_aload_n (pc := 14) d_Chrono_formeAt_14 rfl ?_
      refine wp_getR (pc := 15) d_Chrono_formeAt_15 rfl (zk_161 L) zx_161_4 ?_
      refine wp_iload_n (pc := 18) d_Chrono_formeAt_18 rfl ?_
      refine wp_iald (pc := 19) d_Chrono_formeAt_19 (zk_166 L) (by omega) (by omega) ?_
      refine wp_goto (tgt := 24) (pc := 20) d_Chrono_formeAt_20 rfl ?_
      refine wp_ireturn (pc := 24) d_Chrono_formeAt_24 rfl ?_
      refine ⟨?_, rfl⟩
      unfold vFa
      first
      | (rw [if_neg c5])
      | (rw [if_pos c5, (h.2.2 x.toNat (by omega)).2.2.2, show ((x.toNat : Nat) : Int) = x by omega])
theorem lp_Ch_po (h : qBc M Y) : ∀ (n9 : Nat) (j : Int), 6 - j < n9 → (0 ≤ j) → (j ≤ 6) → wp L 1 zm_Chrono_placeOf 7 [rV 161, iV x, iV (vOl Y), iV j] [] M (fun r M' => r = some (iV (vPo Y x (6 - j).toNat j)) ∧ M' = M) := by
  intro n9
  induction n9 with
  | zero =>
    intro j  h9 g1 g2
    exact absurd h9 (by omega)
  | succ n9 ih =>
    intro j  h9 g1 g2
    have hol := vOl_b Y
    refine wp_iload_n (pc := 7) d_Chrono_placeOf_7 rfl ?_
    refine wp_iload_n (pc := 8) d_Chrono_placeOf_8 rfl ?_
    refine wp_icmp_ge (tgt := 36) (pc := 9) d_Chrono_placeOf_9 rfl (fun c9 => ?_) (fun c9 => ?_)
    · refine wp_iconst (pc := 36) d_Chrono_placeOf_36 rfl ?_
      refine wp_ireturn (pc := 37) d_Chrono_placeOf_37 rfl ?_
      refine ⟨?_, rfl⟩
      by_cases e : j = 6
      · rw [e]; rfl
      · rw [show (6 - j).toNat = (6 - (j + 1)).toNat + 1 by omega]
        simp only [vPo]
        rw [if_neg (by omega)]
    · refine wp_iload_n (pc := 12) d_Chrono_placeOf_12 rfl ?_
      refine wp_bipush (pc := 13) d_Chrono_placeOf_13 rfl ?_
      refine wp_icmp_ge (tgt := 36) (pc := 15) d_Chrono_placeOf_15 rfl (fun c15 => ?_) (fun c15 => ?_)
      · refine wp_iconst (pc := 36) d_Chrono_placeOf_36 rfl ?_
        refine wp_ireturn (pc := 37) d_Chrono_placeOf_37 rfl ?_
        refine ⟨?_, rfl⟩
        by_cases e : j = 6
        · rw [e]; rfl
        · rw [show (6 - j).toNat = (6 - (j + 1)).toNat + 1 by omega]
          simp only [vPo]
          rw [if_neg (by omega)]
      · have hf := (h.2.2 j.toNat (by omega)).2.2.2
        rw [show ((j.toNat : Nat) : Int) = j by omega] at hf
        have e6 : (6 - j).toNat = (6 - (j + 1)).toNat + 1 := by omega
        refine wp_aload_n (pc := 18) d_Chrono_placeOf_18 rfl ?_
        refine wp_getR (pc := 19) d_Chrono_placeOf_19 rfl (zk_161 L) zx_161_4 ?_
        refine wp_iload_n (pc := 22) d_Chrono_placeOf_22 rfl ?_
        refine wp_iald (pc := 23) d_Chrono_placeOf_23 (zk_166 L) (by omega) (by omega) ?_
        refine wp_iload_n (pc := 24) d_Chrono_placeOf_24 rfl ?_
        refine wp_icmp_ne (tgt := 30) (pc := 25) d_Chrono_placeOf_25 rfl (fun c25 => ?_) (fun c25 => ?_)
        · refine wp_iinc3 (pc := 30) d_Chrono_placeOf_30 rfl (by omega) (by omega) ?_
          refine wp_goto (tgt := 7) (pc := 33) d_Chrono_placeOf_33 rfl ?_
          refine wp_mono (ih (j + 1) (by omega) (by omega) (by omega)) (fun r M' hr => ⟨hr.1.trans ?_, hr.2⟩)
          rw [e6]
          simp only [vPo]
          rw [if_pos (by omega), if_neg (by rw [← hf]; exact c25)]
        · refine wp_iload_n (pc := 28) d_Chrono_placeOf_28 rfl ?_
          refine wp_ireturn (pc := 29) d_Chrono_placeOf_29 rfl ?_
          refine ⟨?_, rfl⟩
          rw [e6]
          simp only [vPo]
          rw [if_pos (by omega), if_pos (by rw [← hf]; exact Decidable.of_not_not c25)]
theorem c_Ch_po (h : qBc M Y) : Cf L 2 zm_Chrono_placeOf [rV 161, iV x] M (iV (vPo Y x 6 0)) M := by
  show wp L _ zm_Chrono_placeOf 0 [rV 161, iV x, uV, uV] [] M _
  refine wp_aload_n (pc := 0) d_Chrono_placeOf_0 rfl ?_
  refine wp_callV0f (pc := 1) d_Chrono_placeOf_1 rfl rfl (zk_161 L) rfl rfl (c_Ch_ol h) ?_
  refine wp_ist2 (pc := 4) d_Chrono_placeOf_4 rfl ?_
  refine wp_iconst (pc := 5) d_Chrono_placeOf_5 rfl ?_
  refine wp_ist3 (pc := 6) d_Chrono_placeOf_6 rfl ?_
  exact wp_deep (lp_Ch_po h 100 0 (by omega) (by omega) (by omega)) (by decide)
theorem vTs_eq {Y : qYt} (hi : qYi Y) : qBm (fun t => qEx (fun f => (vT Y f.toNat).testBit t) 6) 6 = vTs Y := by
  unfold vTs
  refine qBm_congr (fun t ht => ?_)
  rw [Bool.eq_iff_iff, qEx_iff, qEx_iff]
  constructor
  · rintro ⟨f, f0, f1, h⟩
    unfold vT at h
    rw [qBm_bit, decide_eq_true ht, Bool.true_and] at h
    unfold vTn at h
    rw [qEx_iff] at h
    obtain ⟨i, i0, i1, h⟩ := h
    exact ⟨i, i0, i1, decide_eq_true (of_decide_eq_true h).2⟩
  · rintro ⟨i, i0, i1, h⟩
    have hf := (hi.2.1 i i0 (by omega)).2.1
    refine ⟨Y.2 i 1, hf.1, hf.2, ?_⟩
    unfold vT
    rw [qBm_bit, decide_eq_true ht, Bool.true_and]
    unfold vTn
    rw [qEx_iff]
    exact ⟨i, i0, i1, decide_eq_true ⟨by omega, of_decide_eq_true h⟩⟩
theorem lp_Ch_ts (h : qBc M Y) (hi : qYi Y) : ∀ (n9 : Nat) (k : Nat) (v : Int) (j : Int), 6 - j < n9 → (j = k) → (j ≤ 6) → (v = ((qBm (fun t => qEx (fun f => (vT Y f.toNat).testBit t) k) 6 : Nat) : Int)) → wp L 0 zm_Chrono_typeSet 4 [rV 161, iV v, iV j] [] M (fun r M' => r = some (iV ((vTs Y : Nat) : Int)) ∧ M' = M) := by
  intro n9
  induction n9 with
  | zero =>
    intro k  v  j  h9 g1 g2 g3
    exact absurd h9 (by omega)
  | succ n9 ih =>
    intro k  v  j  h9 g1 g2 g3
    refine wp_iload_n (pc := 4) d_Chrono_typeSet_4 rfl ?_
    refine wp_bipush (pc := 5) d_Chrono_typeSet_5 rfl ?_
    refine wp_icmp_ge (tgt := 25) (pc := 7) d_Chrono_typeSet_7 rfl (fun c7 => ?_) (fun c7 => ?_)
    · refine wp_iload_n (pc := 25) d_Chrono_typeSet_25 rfl ?_
      refine wp_ireturn (pc := 26) d_Chrono_typeSet_26 rfl ?_
      exact ⟨by rw [g3, show k = 6 by omega, vTs_eq hi], rfl⟩
    · refine wp_iload_n (pc := 10) d_Chrono_typeSet_10 rfl ?_
      refine wp_aload_n (pc := 11) d_Chrono_typeSet_11 rfl ?_
      refine wp_getR (pc := 12) d_Chrono_typeSet_12 rfl (zk_161 L) zx_161_0 ?_
      refine wp_iload_n (pc := 15) d_Chrono_typeSet_15 rfl ?_
      refine wp_iald (pc := 16) d_Chrono_typeSet_16 (zk_162 L) (by omega) (by omega) ?_
      refine wp_ior (v := _) (pc := 17) d_Chrono_typeSet_17 rfl ?_
      refine wp_ist1 (pc := 18) d_Chrono_typeSet_18 rfl ?_
      refine wp_iinc2 (pc := 19) d_Chrono_typeSet_19 rfl (by omega) (by omega) ?_
      refine wp_goto (tgt := 4) (pc := 22) d_Chrono_typeSet_22 rfl ?_
      refine ih (k + 1) _ (j + 1) (by omega) (by omega) (by omega) ?_
      rw [show j.toNat = k by omega, (h.2.2 k (by omega)).1]
      exact z_orN g3 (vT_lt Y k) (fun t ht => rfl)
theorem c_Ch_ts (h : qBc M Y) (hi : qYi Y) : Cf L 0 zm_Chrono_typeSet [rV 161] M (iV ((vTs Y : Nat) : Int)) M := by
  show wp L _ zm_Chrono_typeSet 0 [rV 161, uV, uV] [] M _
  refine wp_iconst (pc := 0) d_Chrono_typeSet_0 rfl ?_
  refine wp_ist1 (pc := 1) d_Chrono_typeSet_1 rfl ?_
  refine wp_iconst (pc := 2) d_Chrono_typeSet_2 rfl ?_
  refine wp_ist2 (pc := 3) d_Chrono_typeSet_3 rfl ?_
  exact lp_Ch_ts h hi 100 0 0 0 (by omega) rfl (by omega) rfl
theorem lp_Ch_b3 {M0 : zM} {v7 : Int} (hY : qYC M0 = Y) (hi : qYi Y) : ∀ (n9 : Nat) (k : Nat) (j : Int) (M : zM), 6 - j < n9 → (j = k) → (j ≤ 6) → (zSm (fun a => 161 ≤ a ∧ a < 167) M0 M) → (M 161 7 = v7) → (qEt M Y Y.1.toNat) → (∀ f : Nat, f < k → M 163 f = ((vC Y f : Nat) : Int)) → wp L 3 zm_Chrono_build 77 [rV 161, rV 147, iV j] [] M (fun r M' => r = none ∧ (zSm (fun a => 161 ≤ a ∧ a < 167) M0 M' ∧ M' 161 7 = v7 ∧ qBc M' Y)) := by
  intro n9
  induction n9 with
  | zero =>
    intro k  j  M  h9 g1 g2 g3 g4 g5 g6
    exact absurd h9 (by omega)
  | succ n9 ih =>
    intro k  j  M  h9 g1 g2 g3 g4 g5 g6
    have hn := hi.1
    have eY : qYC M = Y := (qYC_eq (by rw [show M0 147 1 = (qYC M0).1 from rfl, hY]; exact hi.1.2) (g3 147 (by omega) 1) (fun a a1 a2 => g3 a (by omega))).trans hY
    have en : M 147 1 = Y.1 := by rw [← eY]; rfl
    have hT : ∀ f : Nat, f < 6 → M 162 f = ((vT Y f : Nat) : Int) := fun f hf => (g5.2 f hf).1
    have hA : ∀ f : Nat, f < 6 → M 164 f = ((vA Y vAll f : Nat) : Int) := fun f hf => (g5.2 f hf).2
    refine wp_iload_n (pc := 77) d_Chrono_build_77 rfl ?_
    refine wp_bipush (pc := 78) d_Chrono_build_78 rfl ?_
    refine wp_icmp_ge (tgt := 105) (pc := 80) d_Chrono_build_80 rfl (fun c80 => ?_) (fun c80 => ?_)
    · refine wp_aload_n (pc := 105) d_Chrono_build_105 rfl ?_
      refine wp_callV0v (pc := 106) d_Chrono_build_106 rfl rfl (zk_161 L) rfl rfl (Cv_of (c_Ch_co (A := vA Y vAll) (S := vS Y vAll) hA (vA_lt Y vAll) (vS_lt Y vAll) g5.1)) (fun M106 h106 => ?_)
      obtain ⟨w1, w2, w3⟩ := h106
      refine wp_aload_n (pc := 109) d_Chrono_build_109 rfl ?_
      refine wp_callV0v (pc := 110) d_Chrono_build_110 rfl rfl (zk_161 L) rfl rfl (Cv_of (c_Ch_fi (A := vA Y vAll) (S := vS Y vAll) (fun f hf => (w1 164 (by omega) f).trans (hA f hf)) (vA_lt Y vAll) (vS_lt Y vAll) ((w2 5 (by decide)).trans g5.1))) (fun M110 h110 => ?_)
      obtain ⟨y1, y2⟩ := h110
      refine wp_return_ (pc := 113) d_Chrono_build_113 rfl ?_
      refine ⟨rfl, ((g3.tr (w1.up (fun a ha => by omega))).tr (y1.up (fun a ha => by omega))), ?_, ?_, ?_, fun f hf => ⟨?_, ?_, ?_, ?_⟩⟩
      · rw [y1 161 (by omega), w2 7 (by decide)]; exact g4
      · rw [y1 161 (by omega), w2 5 (by decide)]; exact g5.1
      · rw [y1 161 (by omega)]; exact w3
      · rw [y1 162 (by omega), w1 162 (by omega)]; exact hT f hf
      · rw [y1 163 (by omega), w1 163 (by omega)]; exact g6 f (by omega)
      · rw [y1 164 (by omega), w1 164 (by omega)]; exact hA f hf
      · exact y2 f hf
    · refine wp_aload_n (pc := 83) d_Chrono_build_83 rfl ?_
      refine wp_getR (pc := 84) d_Chrono_build_84 rfl (zk_161 L) zx_161_1 ?_
      refine wp_iload_n (pc := 87) d_Chrono_build_87 rfl ?_
      refine wp_aload_n (pc := 88) d_Chrono_build_88 rfl ?_
      refine wp_aload_n (pc := 89) d_Chrono_build_89 rfl ?_
      refine wp_getR (pc := 90) d_Chrono_build_90 rfl (zk_161 L) zx_161_0 ?_
      refine wp_iload_n (pc := 93) d_Chrono_build_93 rfl ?_
      refine wp_iald (pc := 94) d_Chrono_build_94 (zk_162 L) (by omega) (by omega) ?_
      rw [show j.toNat = k by omega, hT k (by omega)]
      refine wp_callV1f (pc := 95) d_Chrono_build_95 rfl rfl (zk_161 L) rfl rfl (c_Ch_comp (t := vT Y) (u := vT Y k) hT (vT_lt Y) (vT_lt Y k)) ?_
      refine wp_iast (pc := 98) d_Chrono_build_98 (zk_163 L) (by decide) (by omega) (by omega) ?_
      refine wp_iinc2 (pc := 99) d_Chrono_build_99 rfl (by omega) (by omega) ?_
      refine wp_goto (tgt := 77) (pc := 102) d_Chrono_build_102 rfl ?_
      refine ih (k + 1) (j + 1) _ (by omega) (by omega) (by omega) (g3.u (by omega)) (by rw [zU_na (by decide)]; exact g4) ⟨by rw [zU_na (by decide)]; exact g5.1, fun f hf => by rw [zU_na (by decide), zU_na (by decide)]; exact g5.2 f hf⟩ (fun f hf => ?_)
      by_cases e : f = k
      · rw [e, show j.toNat = k by omega, zU_eq]; rfl
      · rw [zU_nk (by omega)]; exact g6 f (by omega)
theorem lp_Ch_b2 {M0 : zM} {v7 : Int} (hY : qYC M0 = Y) (hi : qYi Y) : ∀ (n9 : Nat) (k : Nat) (j : Int) (M : zM), Y.1 - j < n9 → (j = k) → (j ≤ Y.1) → (zSm (fun a => 161 ≤ a ∧ a < 167) M0 M) → (M 161 7 = v7) → (qEt M Y k) → wp L 3 zm_Chrono_build 55 [rV 161, rV 147, iV j] [] M (fun r M' => r = none ∧ (zSm (fun a => 161 ≤ a ∧ a < 167) M0 M' ∧ M' 161 7 = v7 ∧ qBc M' Y)) := by
  intro n9
  induction n9 with
  | zero =>
    intro k  j  M  h9 g1 g2 g3 g4 g5
    exact absurd h9 (by omega)
  | succ n9 ih =>
    intro k  j  M  h9 g1 g2 g3 g4 g5
    have hn := hi.1
    have eY : qYC M = Y := (qYC_eq (by rw [show M0 147 1 = (qYC M0).1 from rfl, hY]; exact hi.1.2) (g3 147 (by omega) 1) (fun a a1 a2 => g3 a (by omega))).trans hY
    have en : M 147 1 = Y.1 := by rw [← eY]; rfl
    refine wp_iload_n (pc := 55) d_Chrono_build_55 rfl ?_
    refine wp_aload_n (pc := 56) d_Chrono_build_56 rfl ?_
    refine wp_callV0f (pc := 57) d_Chrono_build_57 rfl rfl (zk_147 L) rfl rfl c_Sg_size ?_
    refine wp_icmp_ge (tgt := 75) (pc := 60) d_Chrono_build_60 rfl (fun c60 => ?_) (fun c60 => ?_)
    · refine wp_iconst (pc := 75) d_Chrono_build_75 rfl ?_
      refine wp_ist2 (pc := 76) d_Chrono_build_76 rfl ?_
      exact lp_Ch_b3 (M0 := M0) hY hi 100 0 0 M (by omega) rfl (by omega) g3 g4 (by rw [show Y.1.toNat = k by omega]; exact g5) (fun f hf => absurd hf (by omega))
    · refine wp_aload_n (pc := 63) d_Chrono_build_63 rfl ?_
      refine wp_aload_n (pc := 64) d_Chrono_build_64 rfl ?_
      refine wp_iload_n (pc := 65) d_Chrono_build_65 rfl ?_
      rw [g1]
      refine wp_callV2v (pc := 66) d_Chrono_build_66 rfl rfl (zk_161 L) rfl rfl (Cv_of (c_Ch_enter (n := k) eY hi (by omega) g5)) (fun M66 h66 => ?_)
      obtain ⟨w1, w2, w3⟩ := h66
      refine wp_iinc2 (pc := 69) d_Chrono_build_69 rfl (by omega) (by omega) ?_
      refine wp_goto (tgt := 55) (pc := 72) d_Chrono_build_72 rfl ?_
      exact ih (k + 1) ((k : Int) + 1) M66 (by omega) (by omega) (by omega) (g3.tr (w1.up (fun a ha => by omega))) ((w2 7 (by decide)).trans g4) w3
theorem lp_Ch_b1 {M0 : zM} {v7 : Int} (hY : qYC M0 = Y) (hi : qYi Y) : ∀ (n9 : Nat) (k : Nat) (j : Int) (M : zM), 6 - j < n9 → (j = k) → (j ≤ 6) → (zSm (fun a => 161 ≤ a ∧ a < 167) M0 M) → (M 161 7 = v7) → (∀ f : Nat, f < k → M 162 f = 0 ∧ M 164 f = 0) → wp L 3 zm_Chrono_build 22 [rV 161, rV 147, iV j] [] M (fun r M' => r = none ∧ (zSm (fun a => 161 ≤ a ∧ a < 167) M0 M' ∧ M' 161 7 = v7 ∧ qBc M' Y)) := by
  intro n9
  induction n9 with
  | zero =>
    intro k  j  M  h9 g1 g2 g3 g4 g5
    exact absurd h9 (by omega)
  | succ n9 ih =>
    intro k  j  M  h9 g1 g2 g3 g4 g5
    have hn := hi.1
    refine wp_iload_n (pc := 22) d_Chrono_build_22 rfl ?_
    refine wp_bipush (pc := 23) d_Chrono_build_23 rfl ?_
    refine wp_icmp_ge (tgt := 48) (pc := 25) d_Chrono_build_25 rfl (fun c25 => ?_) (fun c25 => ?_)
    · refine wp_aload_n (pc := 48) d_Chrono_build_48 rfl ?_
      refine wp_iconst (pc := 49) d_Chrono_build_49 rfl ?_
      refine wp_putI (pc := 50) d_Chrono_build_50 rfl (zk_161 L) (by decide) ?_
      refine wp_iconst (pc := 53) d_Chrono_build_53 rfl ?_
      refine wp_ist2 (pc := 54) d_Chrono_build_54 rfl ?_
      refine lp_Ch_b2 (M0 := M0) hY hi 100 0 0 _ (by omega) rfl (by omega) (g3.u (by omega)) (by rw [zU_nk (by decide)]; exact g4) ⟨by rw [zU_eq]; rfl, fun f hf => ?_⟩
      rw [zU_na (by decide), zU_na (by decide), (g5 f (by omega)).1, (g5 f (by omega)).2]
      exact ⟨rfl, rfl⟩
    · refine wp_aload_n (pc := 28) d_Chrono_build_28 rfl ?_
      refine wp_getR (pc := 29) d_Chrono_build_29 rfl (zk_161 L) zx_161_0 ?_
      refine wp_iload_n (pc := 32) d_Chrono_build_32 rfl ?_
      refine wp_iconst (pc := 33) d_Chrono_build_33 rfl ?_
      refine wp_iast (pc := 34) d_Chrono_build_34 (zk_162 L) (by decide) (by omega) (by omega) ?_
      refine wp_aload_n (pc := 35) d_Chrono_build_35 rfl ?_
      refine wp_getR (pc := 36) d_Chrono_build_36 rfl (zk_161 L) zx_161_2 ?_
      refine wp_iload_n (pc := 39) d_Chrono_build_39 rfl ?_
      refine wp_iconst (pc := 40) d_Chrono_build_40 rfl ?_
      refine wp_iast (pc := 41) d_Chrono_build_41 (zk_164 L) (by decide) (by omega) (by omega) ?_
      refine wp_iinc2 (pc := 42) d_Chrono_build_42 rfl (by omega) (by omega) ?_
      refine wp_goto (tgt := 22) (pc := 45) d_Chrono_build_45 rfl ?_
      refine ih (k + 1) (j + 1) _ (by omega) (by omega) (by omega) ((g3.u (by omega)).u (by omega)) (by rw [zU_na (by decide), zU_na (by decide)]; exact g4) (fun f hf => ?_)
      by_cases e : f = k
      · rw [e, show j.toNat = k by omega, zU_eq, zU_na (by decide), zU_eq]; exact ⟨rfl, rfl⟩
      · rw [zU_na (by decide), zU_nk (by omega), zU_nk (by omega), zU_na (by decide)]; exact g5 f (by omega)
theorem c_Ch_build (hY : qYC M = Y) (hi : qYi Y) (hc : M 161 7 = M 147 2 → qBc M Y) : Cv L 3 zm_Chrono_build [rV 161, rV 147] M (fun M' => zSm (fun a => 161 ≤ a ∧ a < 167) M M' ∧ M' 161 7 = M 147 2 ∧ qBc M' Y) := by
  show wp L _ zm_Chrono_build 0 [rV 161, rV 147, uV] [] M _
  refine wp_aload_n (pc := 0) d_Chrono_build_0 rfl ?_
  refine wp_getI (pc := 1) d_Chrono_build_1 rfl (by decide) (zk_161 L) ?_
  refine wp_aload_n (pc := 4) d_Chrono_build_4 rfl ?_
  refine wp_callV0f (pc := 5) d_Chrono_build_5 rfl rfl (zk_147 L) rfl rfl c_Sg_changes ?_
  refine wp_icmp_ne (tgt := 12) (pc := 8) d_Chrono_build_8 rfl (fun c8 => ?_) (fun c8 => ?_)
  · refine wp_aload_n (pc := 12) d_Chrono_build_12 rfl ?_
    refine wp_aload_n (pc := 13) d_Chrono_build_13 rfl ?_
    refine wp_callV0f (pc := 14) d_Chrono_build_14 rfl rfl (zk_147 L) rfl rfl c_Sg_changes ?_
    refine wp_putI (pc := 17) d_Chrono_build_17 rfl (zk_161 L) (by decide) ?_
    refine wp_iconst (pc := 20) d_Chrono_build_20 rfl ?_
    refine wp_ist2 (pc := 21) d_Chrono_build_21 rfl ?_
    exact lp_Ch_b1 (M0 := M) (v7 := M 147 2) hY hi 100 0 0 _ (by omega) rfl (by omega) (zSm.rf.u (by omega)) zU_eq (fun f hf => absurd hf (by omega))
  · refine wp_return_ (pc := 11) d_Chrono_build_11 rfl ?_
    exact ⟨rfl, zSm.rf, Decidable.of_not_not c8, hc (Decidable.of_not_not c8)⟩
end ZCh3
