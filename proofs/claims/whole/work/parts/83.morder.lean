/-! the model's fault and order -/
theorem vPc_n {t n : Nat} (h : t < 2 ^ n) (hn : n ≤ 24) : qPc t 24 = qPc t n ∧ qPc t 24 ≤ n ∧ (qPc t 24 = n → t = 2 ^ n - 1) := by
  have e : qPc t 24 = qPc t n := qN_cut hn (fun k k0 k1 => Nat.testBit_lt_two_pow (Nat.lt_of_lt_of_le h (Nat.pow_le_pow_right (by decide) (by omega))))
  refine ⟨e, by rw [e]; exact (qPc_b t n).2, fun z => ?_⟩
  rw [e] at z
  refine Nat.eq_of_testBit_eq (fun i => ?_)
  rw [Nat.testBit_two_pow_sub_one]
  by_cases hi : i < n
  · rw [decide_eq_true hi]
    have := qN_full z (i : Int) (by omega) (by omega)
    rwa [show ((i : Int)).toNat = i by omega] at this
  · rw [decide_eq_false hi]
    exact Nat.testBit_lt_two_pow (Nat.lt_of_lt_of_le h (Nat.pow_le_pow_right (by decide) (by omega)))
theorem vPc_12 {t n : Nat} (h : t < 2 ^ n) (hn : n ≤ 12) : qPc t 12 = qPc t 24 := by
  have h1 : t < 2 ^ 12 := Nat.lt_of_lt_of_le h (Nat.pow_le_pow_right (by decide) hn)
  exact (vPc_n h1 (by decide)).1.symm
/-- how the search of the class and that of the model stand -/
def mRel (Y : qYt) (t b : Nat) : Prop := (vSe (vOk Y) Y.1 t = (Y.1 + 1, 0) ∧ b = 2 ^ Y.1.toNat - 1) ∨ ((vSe (vOk Y) Y.1 t).1 = qPc b 24 ∧ (vSe (vOk Y) Y.1 t).2 = b)
theorem mRel_su {Y : qYt} (hi : qYi Y) {t b : Nat} (ht : t < 2 ^ Y.1.toNat) (hb : b < 2 ^ Y.1.toNat) (h : mRel Y t b) : (¬ (qPc t 12 < qPc b 12 ∧ vOk Y t = true) → mRel Y (t + 1) b) ∧ ((qPc t 12 < qPc b 12 ∧ vOk Y t = true) → mRel Y (t + 1) t) := by
  have h12 := hi.1
  rw [vPc_12 ht (by omega), vPc_12 hb (by omega)]
  have hs : vSe (vOk Y) Y.1 (t + 1) = if qPc t 24 < (vSe (vOk Y) Y.1 t).1 ∧ vOk Y t = true then (qPc t 24, t) else vSe (vOk Y) Y.1 t := rfl
  obtain ⟨_, t2, t3⟩ := vPc_n ht (by omega)
  unfold mRel
  rcases h with ⟨h1, h2⟩ | ⟨h1, h2⟩
  · have hf := vPc_full Y.1.toNat (by omega)
    rw [← h2] at hf
    have e1 : (vSe (vOk Y) Y.1 t).1 = Y.1 + 1 := by rw [h1]
    constructor
    · intro hn
      by_cases e : vOk Y t = true
      · rw [hs, if_pos ⟨by omega, e⟩]
        have et : t = b := by
          rw [h2]
          refine t3 ?_
          by_cases z : qPc t 24 < qPc b 24
          · exact absurd ⟨z, e⟩ hn
          · omega
        exact Or.inr ⟨by rw [et], et⟩
      · rw [hs, if_neg (fun z => e z.2)]
        exact Or.inl ⟨h1, h2⟩
    · intro hy
      rw [hs, if_pos ⟨by omega, hy.2⟩]
      exact Or.inr ⟨rfl, rfl⟩
  · constructor
    · intro hn
      rw [hs, if_neg (fun z => hn ⟨by rw [← h1]; exact z.1, z.2⟩)]
      exact Or.inr ⟨h1, h2⟩
    · intro hy
      rw [hs, if_pos ⟨by rw [h1]; exact hy.1, hy.2⟩]
      exact Or.inr ⟨rfl, rfl⟩
theorem mRel_end {Y : qYt} (hi : qYi Y) {b : Nat} (h : mRel Y (2 ^ Y.1.toNat) b) : vFt Y = b := by
  have he := vSe_end hi
  rcases h with ⟨h1, _⟩ | ⟨_, h2⟩
  · rw [h1] at he; exact absurd he (by simp only; omega)
  · exact h2
theorem vAll_bit {Y : qYt} (i : Int) (i0 : 0 ≤ i) (i1 : i < Y.1) : vAll i = (2 ^ Y.1.toNat - 1).testBit i.toNat := by
  rw [Nat.testBit_two_pow_sub_one, decide_eq_true (by omega)]; rfl
theorem vOut_bit {Y : qYt} (t : Nat) (i : Int) (i0 : 0 ≤ i) (i1 : i < Y.1) : vOut t i = (qAn (2 ^ Y.1.toNat - 1) t).testBit i.toNat := by
  rw [qAn_bit, ← vAll_bit i i0 i1]; rfl
/-- places of the order -/
theorem vPc_6 : ∀ s : Nat, s < 64 → qPc s 12 = qPc s 6 ∧ qPc s 24 = qPc s 6 := by decide +kernel
theorem vFi_p {Y : qYt} (hi : qYi Y) {p : Int} (p0 : 0 ≤ p) (p1 : p < vOl Y) : 0 ≤ vFi Y p ∧ vFi Y p < 6 := by
  unfold vOl at p1
  by_cases e : 0 < vOr Y
  · rw [if_pos e, (vPc_6 _ (vS_lt _ _)).2] at p1
    obtain ⟨h1, h2, h3⟩ := vLf_at (vA_irr hi vAll) (vS_lt Y vAll) e p.toNat (by omega)
    have h0 : ¬ vLf (vA Y vAll) (vS Y vAll) p.toNat = 0 := fun z => by
      rw [z] at h2
      have : qPc 0 6 = 0 := by decide
      omega
    exact (vNx_at (vA_irr hi vAll) h3 h0 h1).1
  · rw [if_neg e] at p1; omega
section ZM13
variable {L : Nat} {M : zM} {D : qDt} {Y : qYt} {S : Int → Bool} {A : Nat → Nat} {x y z w c p s i j : Int}
theorem lp_M_fault {M0 : zM} (hy : mY M0 Y) (hi : qYi Y) : ∀ (n9 : Nat) (t : Nat) (b : Nat) (M : zM) (u3 : zV), ((2 ^ Y.1.toNat : Nat) : Int) - t < n9 → (t ≤ 2 ^ Y.1.toNat) → (b < 2 ^ Y.1.toNat) → (mF mPo M0 M) → (mRel Y t b) → wp L 4 zm_M_faultNow 7 [rV 174, iV (b : Int), iV (t : Int), u3] [] M (fun r M' => ∃ z, r = some (iV z) ∧ (z = ((vFt Y : Nat) : Int) ∧ mF mPo M0 M' ∧ mOr M' Y vAll)) := by
  intro n9
  induction n9 with
  | zero =>
    intro t  b  M  u3  h9 g0 g1 g3 g4
    have h12 := hi.1
    exact absurd h9 (by omega)
  | succ n9 ih =>
    intro t  b  M  u3  h9 g0 g1 g3 g4
    have h12 := hi.1
    have hp : 2 ^ Y.1.toNat ≤ 2 ^ 12 := Nat.pow_le_pow_right (by decide) (by omega)
    have hp0 : 0 < 2 ^ Y.1.toNat := Nat.pow_pos (by decide)
    have e8 : zI2 zShl 1 Y.1 = ((2 ^ Y.1.toNat : Nat) : Int) := zn_shlI h12.1 (by omega)
    have hyM : mY M Y := hy.keep g3 (by omega) (by omega)
    have e7 := hyM.1
    refine wp_iload_n (pc := 7) d_M_faultNow_7 rfl ?_
    refine wp_iconst (pc := 8) d_M_faultNow_8 rfl ?_
    refine wp_aload_n (pc := 9) d_M_faultNow_9 rfl ?_
    refine wp_getI (pc := 10) d_M_faultNow_10 rfl (by decide) (zk_174 L) ?_
    rw [e7]
    refine wp_ishl (v := ((2 ^ Y.1.toNat : Nat) : Int)) (pc := 13) d_M_faultNow_13 e8 ?_
    refine wp_icmp_ge (tgt := 65) (pc := 14) d_M_faultNow_14 rfl (fun c14 => ?_) (fun c14 => ?_)
    · refine wp_aload_n (pc := 65) d_M_faultNow_65 rfl ?_
      refine wp_aload_n (pc := 66) d_M_faultNow_66 rfl ?_
      refine wp_callV0f (pc := 67) d_M_faultNow_67 rfl rfl (zk_174 L) rfl rfl (c_M_allSightings hyM hi) ?_
      refine wp_callV1i (pc := 70) d_M_faultNow_70 rfl rfl (zk_174 L) rfl rfl (c_M_orders (S := vAll) hyM hi (by omega) vAll_bit) (fun x70 M70 h70 => ?_)
      refine wp_pop (pc := 73) d_M_faultNow_73 rfl ?_
      refine wp_iload_n (pc := 74) d_M_faultNow_74 rfl ?_
      refine wp_ireturn (pc := 75) d_M_faultNow_75 rfl ?_
      exact ⟨_, rfl, by rw [mRel_end hi (show mRel Y (2 ^ Y.1.toNat) b by rw [show 2 ^ Y.1.toNat = t by omega]; exact g4)], g3.tr h70.2.1, h70.2.2⟩
    · have hst := mRel_su hi (show t < 2 ^ Y.1.toNat by omega) g1 g4
      refine wp_iload_n (pc := 17) d_M_faultNow_17 rfl ?_
      refine wp_callS1f (pc := 18) d_M_faultNow_18 rfl rfl rfl rfl rfl (c_M_many (by omega)) ?_
      refine wp_iload_n (pc := 21) d_M_faultNow_21 rfl ?_
      refine wp_callS1f (pc := 22) d_M_faultNow_22 rfl rfl rfl rfl rfl (c_M_many (by omega)) ?_
      refine wp_icmp_ge (tgt := 32) (pc := 25) d_M_faultNow_25 rfl (fun c25 => ?_) (fun c25 => ?_)
      · refine wp_iconst (pc := 32) d_M_faultNow_32 rfl ?_
        refine wp_ist3 (pc := 33) d_M_faultNow_33 rfl ?_
        refine wp_iload_n (pc := 34) d_M_faultNow_34 rfl ?_
        refine wp_if_eq (tgt := 57) (pc := 35) d_M_faultNow_35 rfl (fun c35 => ?_) (fun c35 => ?_)
        · refine wp_iload_n (pc := 57) d_M_faultNow_57 rfl ?_
          refine wp_ist1 (pc := 58) d_M_faultNow_58 rfl ?_
          refine wp_iinc2 (pc := 59) d_M_faultNow_59 rfl (by omega) (by omega) ?_
          refine wp_goto (tgt := 7) (pc := 62) d_M_faultNow_62 rfl ?_
          first
          | exact ih (t + 1) b M _ (by omega) (by omega) g1 g3 (hst.1 (fun z => absurd z.1 (by omega)))
          | exact ih (t + 1) b M47 _ (by omega) (by omega) g1 (g3.tr h47.2.1) (hst.1 (fun z => absurd (hok.1 z.2) (by have := h47.1; omega)))
          | exact ih (t + 1) t M47 _ (by omega) (by omega) (by omega) (g3.tr h47.2.1) (hst.2 ⟨by omega, hok.2 (by have := h47.1; omega)⟩)
        · exact absurd c35 (by decide)
      · refine wp_iconst (pc := 28) d_M_faultNow_28 rfl ?_
        refine wp_goto (tgt := 33) (pc := 29) d_M_faultNow_29 rfl ?_
        refine wp_ist3 (pc := 33) d_M_faultNow_33 rfl ?_
        refine wp_iload_n (pc := 34) d_M_faultNow_34 rfl ?_
        refine wp_if_eq (tgt := 57) (pc := 35) d_M_faultNow_35 rfl (fun c35 => ?_) (fun c35 => ?_)
        · exact absurd c35 (by decide)
        · have hq : qAn (2 ^ Y.1.toNat - 1) t < 2 ^ 12 := qAn_lt (n := 12) (by omega)
          have hok := vOk_w hi t
          refine wp_aload_n (pc := 38) d_M_faultNow_38 rfl ?_
          refine wp_aload_n (pc := 39) d_M_faultNow_39 rfl ?_
          refine wp_callV0f (pc := 40) d_M_faultNow_40 rfl rfl (zk_174 L) rfl rfl (c_M_allSightings hyM hi) ?_
          refine wp_iload_n (pc := 43) d_M_faultNow_43 rfl ?_
          refine wp_iconst (pc := 44) d_M_faultNow_44 rfl ?_
          refine wp_ixor (v := _) (pc := 45) d_M_faultNow_45 rfl ?_
          refine wp_iand (v := ((qAn (2 ^ Y.1.toNat - 1) t : Nat) : Int)) (pc := 46) d_M_faultNow_46 (zn_not (by omega) (by omega)) ?_
          refine wp_callV1i (pc := 47) d_M_faultNow_47 rfl rfl (zk_174 L) rfl rfl (c_M_orders (S := vOut t) hyM hi (by omega) (vOut_bit t)) (fun x47 M47 h47 => ?_)
          refine wp_if_le (tgt := 57) (pc := 50) d_M_faultNow_50 rfl (fun c50 => ?_) (fun c50 => ?_)
          · refine wp_iload_n (pc := 57) d_M_faultNow_57 rfl ?_
            refine wp_ist1 (pc := 58) d_M_faultNow_58 rfl ?_
            refine wp_iinc2 (pc := 59) d_M_faultNow_59 rfl (by omega) (by omega) ?_
            refine wp_goto (tgt := 7) (pc := 62) d_M_faultNow_62 rfl ?_
            first
            | exact ih (t + 1) b M _ (by omega) (by omega) g1 g3 (hst.1 (fun z => absurd z.1 (by omega)))
            | exact ih (t + 1) b M47 _ (by omega) (by omega) g1 (g3.tr h47.2.1) (hst.1 (fun z => absurd (hok.1 z.2) (by have := h47.1; omega)))
            | exact ih (t + 1) t M47 _ (by omega) (by omega) (by omega) (g3.tr h47.2.1) (hst.2 ⟨by omega, hok.2 (by have := h47.1; omega)⟩)
          · refine wp_iload_n (pc := 53) d_M_faultNow_53 rfl ?_
            refine wp_goto (tgt := 58) (pc := 54) d_M_faultNow_54 rfl ?_
            refine wp_ist1 (pc := 58) d_M_faultNow_58 rfl ?_
            refine wp_iinc2 (pc := 59) d_M_faultNow_59 rfl (by omega) (by omega) ?_
            refine wp_goto (tgt := 7) (pc := 62) d_M_faultNow_62 rfl ?_
            first
            | exact ih (t + 1) b M _ (by omega) (by omega) g1 g3 (hst.1 (fun z => absurd z.1 (by omega)))
            | exact ih (t + 1) b M47 _ (by omega) (by omega) g1 (g3.tr h47.2.1) (hst.1 (fun z => absurd (hok.1 z.2) (by have := h47.1; omega)))
            | exact ih (t + 1) t M47 _ (by omega) (by omega) (by omega) (g3.tr h47.2.1) (hst.2 ⟨by omega, hok.2 (by have := h47.1; omega)⟩)
theorem c_M_faultNow (hy : mY M Y) (hi : qYi Y) : Ci L 4 zm_M_faultNow [rV 174] M (fun z M' => z = ((vFt Y : Nat) : Int) ∧ mF mPo M M' ∧ mOr M' Y vAll) := by
  show wp L _ zm_M_faultNow 0 [rV 174, uV, uV, uV] [] M _
  have h12 := hi.1
  have hp : 2 ^ Y.1.toNat ≤ 2 ^ 12 := Nat.pow_le_pow_right (by decide) (by omega)
  have hp0 : 0 < 2 ^ Y.1.toNat := Nat.pow_pos (by decide)
  have e8 : zI2 zShl 1 Y.1 = ((2 ^ Y.1.toNat : Nat) : Int) := zn_shlI h12.1 (by omega)
  refine wp_aload_n (pc := 0) d_M_faultNow_0 rfl ?_
  refine wp_callV0f (pc := 1) d_M_faultNow_1 rfl rfl (zk_174 L) rfl rfl (c_M_allSightings hy hi) ?_
  refine wp_ist1 (pc := 4) d_M_faultNow_4 rfl ?_
  refine wp_iconst (pc := 5) d_M_faultNow_5 rfl ?_
  refine wp_ist2 (pc := 6) d_M_faultNow_6 rfl ?_
  exact lp_M_fault (M0 := M) hy hi 5000 0 (2 ^ Y.1.toNat - 1) M _ (by omega) (by omega) (by omega) mF.rf (Or.inl ⟨rfl, rfl⟩)
theorem lp_M_oa1 (hi : qYi Y) (hO : mOr M Y vAll) {s : Nat} (hs : s < 64) (h0 : ¬ s = 0) (hw : 0 < vW (vA Y vAll) 6 s) {Qx : Option zV → zM → Prop} {u4 : zV} (hq : wp L 4 zm_M_orderAt 78 [rV 174, iV p, iV (s : Int), iV (vNx (vA Y vAll) s), u4] [] M Qx) : ∀ (n9 : Nat) (j : Nat), 6 - (j : Int) < n9 → ((j : Int) ≤ vNx (vA Y vAll) s) → wp L 4 zm_M_orderAt 48 [rV 174, iV p, iV (s : Int), iV (j : Int), u4] [] M (Qx) := by
  intro n9
  induction n9 with
  | zero =>
    intro j  h9 g0
    obtain ⟨n1, n2, n3, n4, n5⟩ := vNx_at (vA_irr hi vAll) hs h0 hw
    exact absurd h9 (by omega)
  | succ n9 ih =>
    intro j  h9 g0
    obtain ⟨n1, n2, n3, n4, n5⟩ := vNx_at (vA_irr hi vAll) hs h0 hw
    refine wp_aload_n (pc := 48) d_M_orderAt_48 rfl ?_
    refine wp_iload_n (pc := 49) d_M_orderAt_49 rfl ?_
    refine wp_iload_n (pc := 50) d_M_orderAt_50 rfl ?_
    refine wp_callV2f (pc := 51) d_M_orderAt_51 rfl rfl (zk_174 L) rfl rfl (c_M_cbf hO.1.2 (vA_lt Y vAll) (by omega) hs) ?_
    refine wp_if_eq (tgt := 72) (pc := 54) d_M_orderAt_54 rfl (fun c54 => ?_) (fun c54 => ?_)
    · refine wp_iinc3 (pc := 72) d_M_orderAt_72 rfl (by omega) (by omega) ?_
      refine wp_goto (tgt := 48) (pc := 75) d_M_orderAt_75 rfl ?_
      refine ih (j + 1) (by omega) ?_
      have hcb := qB_0 c54
      by_cases e : (j : Int) = vNx (vA Y vAll) s
      · rw [← e, show ((j : Int)).toNat = j by omega, hcb] at n2
        exact absurd n2 (by decide)
      · omega
    · have hcb := qB_1 c54
      have hd := vPc_dn s hs j (by omega) (mCb_iff.1 hcb).1
      have hpk := z2p (show j < 6 by omega)
      have ej : (j : Int) = vNx (vA Y vAll) s := by
        by_cases e : j < (vNx (vA Y vAll) s).toNat
        · have := n5 j e
          rw [hcb] at this
          exact absurd this (by decide)
        · omega
      refine wp_aload_n (pc := 57) d_M_orderAt_57 rfl ?_
      refine wp_getR (pc := 58) d_M_orderAt_58 rfl (zk_174 L) zx_174_27 ?_
      refine wp_iload_n (pc := 61) d_M_orderAt_61 rfl ?_
      refine wp_iconst (pc := 62) d_M_orderAt_62 rfl ?_
      refine wp_iload_n (pc := 63) d_M_orderAt_63 rfl ?_
      refine wp_ishl (v := ((2 ^ j : Nat) : Int)) (pc := 64) d_M_orderAt_64 (zn_shl1 j (by omega)) ?_
      refine wp_iconst (pc := 65) d_M_orderAt_65 rfl ?_
      refine wp_ixor (v := _) (pc := 66) d_M_orderAt_66 rfl ?_
      refine wp_iand (v := ((s ^^^ 2 ^ j : Nat) : Int)) (pc := 67) d_M_orderAt_67 (by rw [hd.2.2]; exact zn_not (by omega) (by omega)) ?_
      refine wp_iald (pc := 68) d_M_orderAt_68 (zk_191 L) (by omega) (by omega) ?_
      rw [show (((s ^^^ 2 ^ j : Nat) : Int)).toNat = s ^^^ 2 ^ j by omega, hO.2 _ (by omega)]
      refine wp_if_ne (tgt := 78) (pc := 69) d_M_orderAt_69 rfl (fun c69 => ?_) (fun c69 => ?_)
      · rw [← ej] at hq
        exact hq
      · exfalso
        rw [← ej, show ((j : Int)).toNat = j by omega] at n4
        omega
theorem lp_M_oa (hi : qYi Y) (hO : mOr M Y vAll) (hw : 0 < vOr Y) (p0 : 0 ≤ p) (p1 : p < qPc (vS Y vAll) 6) : ∀ (n9 : Nat) (k : Nat) (x : Int) (told : Int), p + 1 - x < n9 → (x = k) → (x ≤ p + 1) → (k = 0 ∨ told = vFi Y (x - 1)) → wp L 4 zm_M_orderAt 40 [rV 174, iV p, iV (((vLf (vA Y vAll) (vS Y vAll) k) : Nat) : Int), iV told, iV x] [] M (fun r M' => r = some (iV (vFi Y p)) ∧ M' = M) := by
  intro n9
  induction n9 with
  | zero =>
    intro k  x  told  h9 g1 g0 g2
    exact absurd h9 (by omega)
  | succ n9 ih =>
    intro k  x  told  h9 g1 g0 g2
    have hp6 := (qPc_b (vS Y vAll) 6).2
    refine wp_iload (pc := 40) d_M_orderAt_40 rfl ?_
    refine wp_iload_n (pc := 42) d_M_orderAt_42 rfl ?_
    refine wp_icmp_gt (tgt := 92) (pc := 43) d_M_orderAt_43 rfl (fun c43 => ?_) (fun c43 => ?_)
    · refine wp_iload_n (pc := 92) d_M_orderAt_92 rfl ?_
      refine wp_ireturn (pc := 93) d_M_orderAt_93 rfl ?_
      refine ⟨?_, rfl⟩
      rcases g2 with z | z
      · omega
      · rw [z, show x - 1 = p by omega]
    · refine wp_iconst (pc := 46) d_M_orderAt_46 rfl ?_
      refine wp_ist3 (pc := 47) d_M_orderAt_47 rfl ?_
      obtain ⟨l1, l2, l3⟩ := vLf_at (vA_irr hi vAll) (vS_lt Y vAll) hw k (by omega)
      have h0 : ¬ (vLf (vA Y vAll) (vS Y vAll) k) = 0 := fun z => by
        rw [z] at l2
        have : qPc 0 6 = 0 := by decide
        omega
      obtain ⟨n1, n2, n3, n4, n5⟩ := vNx_at (vA_irr hi vAll) l3 h0 l1
      have hpk := z2p (show (vNx (vA Y vAll) (vLf (vA Y vAll) (vS Y vAll) k)).toNat < 6 by omega)
      have ev : (vLf (vA Y vAll) (vS Y vAll) (k + 1)) = qAn (vLf (vA Y vAll) (vS Y vAll) k) (2 ^ (vNx (vA Y vAll) (vLf (vA Y vAll) (vS Y vAll) k)).toNat) := if_neg (by omega)
      refine lp_M_oa1 (p := p) hi hO l3 h0 l1 ?_ 100 0 (by omega) (by omega)
      refine wp_iload_n (pc := 78) d_M_orderAt_78 rfl ?_
      refine wp_iconst (pc := 79) d_M_orderAt_79 rfl ?_
      refine wp_iload_n (pc := 80) d_M_orderAt_80 rfl ?_
      refine wp_ishl (v := ((2 ^ (vNx (vA Y vAll) (vLf (vA Y vAll) (vS Y vAll) k)).toNat : Nat) : Int)) (pc := 81) d_M_orderAt_81 (zn_shlI (by omega) (by omega)) ?_
      refine wp_iconst (pc := 82) d_M_orderAt_82 rfl ?_
      refine wp_ixor (v := _) (pc := 83) d_M_orderAt_83 rfl ?_
      refine wp_iand (v := (((vLf (vA Y vAll) (vS Y vAll) (k + 1)) : Nat) : Int)) (pc := 84) d_M_orderAt_84 (by rw [ev]; exact zn_not (by omega) (by omega)) ?_
      refine wp_ist2 (pc := 85) d_M_orderAt_85 rfl ?_
      refine wp_iinc4 (pc := 86) d_M_orderAt_86 rfl (by omega) (by omega) ?_
      refine wp_goto (tgt := 40) (pc := 89) d_M_orderAt_89 rfl ?_
      refine ih (k + 1) _ _ (by omega) (by omega) (by omega) (Or.inr ?_)
      unfold vFi
      rw [show x + 1 - 1 = x by omega, show x.toNat = k by omega]
theorem c_M_orderAt (hy : mY M Y) (hi : qYi Y) : Ci L 4 zm_M_orderAt [rV 174, iV p] M (fun v M' => v = vFa Y p ∧ mF mPo M M' ∧ mOr M' Y vAll) := by
  show wp L _ zm_M_orderAt 0 [rV 174, iV p, uV, uV, uV] [] M _
  have h12 := hi.1
  have hp : 2 ^ Y.1.toNat ≤ 2 ^ 12 := Nat.pow_le_pow_right (by decide) (by omega)
  have hp0 : 0 < 2 ^ Y.1.toNat := Nat.pow_pos (by decide)
  have e8 : zI2 zShl 1 Y.1 = ((2 ^ Y.1.toNat : Nat) : Int) := zn_shlI h12.1 (by omega)
  have hs6 := vPc_6 _ (vS_lt Y vAll)
  have hb6 := qPc_b (vS Y vAll) 6
  have hsl := vS_lt Y vAll
  refine wp_aload_n (pc := 0) d_M_orderAt_0 rfl ?_
  refine wp_aload_n (pc := 1) d_M_orderAt_1 rfl ?_
  refine wp_callV0f (pc := 2) d_M_orderAt_2 rfl rfl (zk_174 L) rfl rfl (c_M_allSightings hy hi) ?_
  refine wp_callV1i (pc := 5) d_M_orderAt_5 rfl rfl (zk_174 L) rfl rfl (c_M_orders (S := vAll) hy hi (by omega) vAll_bit) (fun x5 M5 h5 => ?_)
  obtain ⟨a1, a2, a3⟩ := h5
  have e25 := a3.1.1
  have hor : x5 = vOr Y := a1
  have hnn := (vW_b (vA Y vAll) 6 (vS Y vAll)).1
  refine wp_if_eq (tgt := 28) (pc := 8) d_M_orderAt_8 rfl (fun c8 => ?_) (fun c8 => ?_)
  · refine wp_iconst (pc := 28) d_M_orderAt_28 rfl ?_
    refine wp_ireturn (pc := 29) d_M_orderAt_29 rfl ?_
    first
    | exact ⟨_, rfl, by unfold vFa vOl; rw [if_neg (show ¬ 0 < vOr Y by omega), if_neg (by omega)], a2, a3⟩
    | exact ⟨_, rfl, by unfold vFa vOl; rw [if_neg (by split <;> omega)], a2, a3⟩
  · refine wp_iload_n (pc := 11) d_M_orderAt_11 rfl ?_
    refine wp_iconst (pc := 12) d_M_orderAt_12 rfl ?_
    refine wp_aload_n (pc := 13) d_M_orderAt_13 rfl ?_
    refine wp_getI (pc := 14) d_M_orderAt_14 rfl (by decide) (zk_174 L) ?_
    rw [e25]
    refine wp_callS1f (pc := 17) d_M_orderAt_17 rfl rfl rfl rfl rfl (c_M_many (by omega)) ?_
    refine wp_iconst (pc := 20) d_M_orderAt_20 rfl ?_
    refine wp_isub (pc := 21) d_M_orderAt_21 (by omega) (by omega) ?_
    refine wp_callS3f (pc := 22) d_M_orderAt_22 rfl rfl rfl rfl rfl c_M_within ?_
    refine wp_if_ne (tgt := 30) (pc := 25) d_M_orderAt_25 rfl (fun c25 => ?_) (fun c25 => ?_)
    · have c25 := zb_ne0 c25
      refine wp_aload_n (pc := 30) d_M_orderAt_30 rfl ?_
      refine wp_getI (pc := 31) d_M_orderAt_31 rfl (by decide) (zk_174 L) ?_
      rw [e25]
      refine wp_ist2 (pc := 34) d_M_orderAt_34 rfl ?_
      refine wp_iconst (pc := 35) d_M_orderAt_35 rfl ?_
      refine wp_ist3 (pc := 36) d_M_orderAt_36 rfl ?_
      refine wp_iconst (pc := 37) d_M_orderAt_37 rfl ?_
      refine wp_ist4 (pc := 38) d_M_orderAt_38 rfl ?_
      have hw : 0 < vOr Y := by
        have : vOr Y = vW (vA Y vAll) 6 (vS Y vAll) := rfl
        omega
      refine wp_mono (lp_M_oa hi a3 hw c25.1 (by omega) 100 0 0 (-1) (by omega) rfl (by omega) (Or.inl rfl)) (fun r M' hr => ⟨_, hr.1, ?_, ?_, ?_⟩)
      · unfold vFa vOl
        rw [if_pos hw, if_pos (by omega)]
      · rw [hr.2]; exact a2
      · rw [hr.2]; exact a3
    · have c25 := zb_eq0 (Decidable.of_not_not c25)
      refine wp_iconst (pc := 28) d_M_orderAt_28 rfl ?_
      refine wp_ireturn (pc := 29) d_M_orderAt_29 rfl ?_
      first
      | exact ⟨_, rfl, by unfold vFa vOl; rw [if_neg (show ¬ 0 < vOr Y by omega), if_neg (by omega)], a2, a3⟩
      | exact ⟨_, rfl, by unfold vFa vOl; rw [if_neg (by split <;> omega)], a2, a3⟩
theorem c_M_order (hy : mY M Y) (hi : qYi Y) : Ci L 5 zm_M_order [rV 174, iV p] M (fun v M' => v = xOd Y p ∧ mF mPq M M') := by
  show wp L _ zm_M_order 0 [rV 174, iV p, uV] [] M _
  refine wp_aload_n (pc := 0) d_M_order_0 rfl ?_
  refine wp_iload_n (pc := 1) d_M_order_1 rfl ?_
  refine wp_callV1i (pc := 2) d_M_order_2 rfl rfl (zk_174 L) rfl rfl (c_M_orderAt hy hi) (fun x2 M2 h2 => ?_)
  obtain ⟨a1, a2, a3⟩ := h2
  have hz : (x2 = -1 ∧ xOd Y p = -101) ∨ (¬ x2 = -1 ∧ xOd Y p = x2) := by
    rw [a1]
    unfold xOd vFa
    by_cases e : 0 ≤ p ∧ p < vOl Y
    · have := vFi_p hi e.1 e.2
      rw [if_pos e, if_pos e]; right; omega
    · rw [if_neg e, if_neg e]; left; omega
  refine wp_ist2 (pc := 5) d_M_order_5 rfl ?_
  refine wp_iload_n (pc := 6) d_M_order_6 rfl ?_
  refine wp_iconst (pc := 7) d_M_order_7 rfl ?_
  refine wp_icmp_ne (tgt := 16) (pc := 8) d_M_order_8 rfl (fun c8 => ?_) (fun c8 => ?_)
  · refine wp_iload_n (pc := 16) d_M_order_16 rfl ?_
    refine wp_ireturn (pc := 17) d_M_order_17 rfl ?_
    exact ⟨_, rfl, by omega, a2.up (fun a k z => by omega)⟩
  · refine wp_bipush (pc := 11) d_M_order_11 rfl ?_
    refine wp_goto (tgt := 17) (pc := 13) d_M_order_13 rfl ?_
    refine wp_ireturn (pc := 17) d_M_order_17 rfl ?_
    exact ⟨_, rfl, by omega, a2.up (fun a k z => by omega)⟩
theorem lp_M_placeOf {M0 : zM} (hy : mY M0 Y) (hi : qYi Y) (x0 : 0 ≤ x) {W : Int} : ∀ (n9 : Nat) (k : Nat) (M : zM), 6 - (k : Int) < n9 → (k ≤ 6) → (mF mPo M0 M) → (vPo Y x (6 - k) (k : Int) = W) → wp L 5 zm_M_placeOf 2 [rV 174, iV x, iV (k : Int)] [] M (fun r M' => ∃ z, r = some (iV z) ∧ (z = W ∧ mF mPo M0 M')) := by
  intro n9
  induction n9 with
  | zero =>
    intro k  M  h9 g0 g3 g4
    exact absurd h9 (by omega)
  | succ n9 ih =>
    intro k  M  h9 g0 g3 g4
    have hyM : mY M Y := hy.keep g3 (by omega) (by omega)
    refine wp_iload_n (pc := 2) d_M_placeOf_2 rfl ?_
    refine wp_bipush (pc := 3) d_M_placeOf_3 rfl ?_
    refine wp_icmp_ge (tgt := 25) (pc := 5) d_M_placeOf_5 rfl (fun c5 => ?_) (fun c5 => ?_)
    · refine wp_iconst (pc := 25) d_M_placeOf_25 rfl ?_
      refine wp_ireturn (pc := 26) d_M_placeOf_26 rfl ?_
      refine ⟨_, rfl, ?_, g3⟩
      rw [show 6 - k = 0 by omega] at g4
      exact g4
    · refine wp_aload_n (pc := 8) d_M_placeOf_8 rfl ?_
      refine wp_iload_n (pc := 9) d_M_placeOf_9 rfl ?_
      refine wp_callV1i (pc := 10) d_M_placeOf_10 rfl rfl (zk_174 L) rfl rfl (c_M_orderAt hyM hi) (fun x10 M10 h10 => ?_)
      obtain ⟨a1, a2, a3⟩ := h10
      have es : 6 - k = (6 - (k + 1)) + 1 := by omega
      rw [es] at g4
      simp only [vPo] at g4
      unfold vFa at a1
      refine wp_iload_n (pc := 13) d_M_placeOf_13 rfl ?_
      refine wp_icmp_ne (tgt := 19) (pc := 14) d_M_placeOf_14 rfl (fun c14 => ?_) (fun c14 => ?_)
      · refine wp_iinc2 (pc := 19) d_M_placeOf_19 rfl (by omega) (by omega) ?_
        refine wp_goto (tgt := 2) (pc := 22) d_M_placeOf_22 rfl ?_
        refine ih (k + 1) M10 (by omega) (by omega) (g3.tr a2) ?_
        by_cases e : (k : Int) < vOl Y
        · rw [if_pos (by omega)] at a1
          rw [if_pos e, if_neg (by omega)] at g4
          exact g4
        · rw [if_neg e] at g4
          cases hn : 6 - (k + 1) with
          | zero => exact g4
          | succ n => simp only [vPo]; rw [if_neg (by omega)]; exact g4
      · refine wp_iload_n (pc := 17) d_M_placeOf_17 rfl ?_
        refine wp_ireturn (pc := 18) d_M_placeOf_18 rfl ?_
        refine ⟨_, rfl, ?_, g3.tr a2⟩
        by_cases e : (k : Int) < vOl Y
        · rw [if_pos (by omega)] at a1
          rw [if_pos e, if_pos (by omega)] at g4
          exact g4
        · rw [if_neg (by omega)] at a1
          omega
theorem c_M_placeOf (hy : mY M Y) (hi : qYi Y) (x0 : 0 ≤ x) : Ci L 5 zm_M_placeOf [rV 174, iV x] M (fun v M' => v = vPo Y x 6 0 ∧ mF mPo M M') := by
  show wp L _ zm_M_placeOf 0 [rV 174, iV x, uV] [] M _
  refine wp_iconst (pc := 0) d_M_placeOf_0 rfl ?_
  refine wp_ist2 (pc := 1) d_M_placeOf_1 rfl ?_
  exact lp_M_placeOf (M0 := M) hy hi x0 100 0 M (by omega) (by omega) mF.rf rfl
end ZM13
