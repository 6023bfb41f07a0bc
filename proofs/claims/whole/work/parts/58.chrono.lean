/-! Chronology, on: orders -/
theorem zn_in {s k : Nat} {x : Int} (hs : s < 64) (hx : x = (k : Int)) (hk : k < 6) : zI2 (· &&& ·) (zI2 zShr (s : Int) x) 1 = if s.testBit k = true then 1 else 0 := by rw [hx]; exact zn_bit (by omega) (by omega)
theorem zb_t {b : Bool} (h : ¬ (if b = true then (1 : Int) else 0) = 0) : b = true := by cases b; exact absurd rfl h; rfl
theorem zb_f {b : Bool} (h : (if b = true then (1 : Int) else 0) = 0) : b = false := by cases b; rfl; exact absurd h (by decide)
theorem vX_lt : ∀ s : Nat, s < 64 → ∀ f : Nat, f < 6 → s ^^^ 2 ^ f < 64 := by decide +kernel
section ZCh2
variable {L : Nat} {M : zM} {Y : qYt} {x y z w c p s i j : Int}
theorem lp_Ch_co1 {M0 : zM} {A : Nat → Nat} (hA : ∀ f : Nat, f < 6 → M0 164 f = ((A f : Nat) : Int)) (hl : ∀ f, A f < 64) {u : Nat} (u0 : 0 < u) (u1 : u < 64) {Qx : Option zV → zM → Prop} (hq : ∀ (M' : zM) (w1 w2 : zV), zSm (fun a => a = 165) M0 M' → (∀ s : Nat, s < u + 1 → M' 165 s = vW A 6 s) → wp L 0 zm_Chrono_countOrders 9 [rV 161, iV ((u : Int) + 1), w1, w2] [] M' Qx) : ∀ (n9 : Nat) (k : Nat) (j : Int) (M : zM) (w : zV), 6 - j < n9 → (j = k) → (j ≤ 6) → (zSm (fun a => a = 165) M0 M) → (∀ s : Nat, s < u → M 165 s = vW A 6 s) → (M 165 u = qS (fun f => if u.testBit f.toNat = true ∧ A f.toNat &&& u = 0 then vW A 6 (u ^^^ 2 ^ f.toNat) else 0) k) → wp L 0 zm_Chrono_countOrders 27 [rV 161, iV u, iV j, w] [] M (Qx) := by
  intro n9
  induction n9 with
  | zero =>
    intro k  j  M  w  h9 g1 g2 g3 g4 g5
    exact absurd h9 (by omega)
  | succ n9 ih =>
    intro k  j  M  w  h9 g1 g2 g3 g4 g5
    have eA : ∀ f : Nat, f < 6 → M 164 f = ((A f : Nat) : Int) := fun f hf => (g3 164 (by decide) f).trans (hA f hf)
    have hb := qS_b (f := (fun f => if u.testBit f.toNat = true ∧ A f.toNat &&& u = 0 then vW A 6 (u ^^^ 2 ^ f.toNat) else 0)) (B := 46656) (n := k) (fun f _ _ => by
      split
      · have := vW_b A 6 (u ^^^ 2 ^ f.toNat); omega
      · omega)
    have ht : ∀ z : Nat, qS (fun f => if u.testBit f.toNat = true ∧ A f.toNat &&& u = 0 then vW A 6 (u ^^^ 2 ^ f.toNat) else 0) (z + 1) = qS (fun f => if u.testBit f.toNat = true ∧ A f.toNat &&& u = 0 then vW A 6 (u ^^^ 2 ^ f.toNat) else 0) z + (if u.testBit z = true ∧ A z &&& u = 0 then vW A 6 (u ^^^ 2 ^ z) else 0) := fun z => rfl
    refine wp_iload_n (pc := 27) d_Chrono_countOrders_27 rfl ?_
    refine wp_bipush (pc := 28) d_Chrono_countOrders_28 rfl ?_
    refine wp_icmp_ge (tgt := 87) (pc := 30) d_Chrono_countOrders_30 rfl (fun c30 => ?_) (fun c30 => ?_)
    · refine wp_iinc1 (pc := 87) d_Chrono_countOrders_87 rfl (by omega) (by omega) ?_
      refine wp_goto (tgt := 9) (pc := 90) d_Chrono_countOrders_90 rfl ?_
      refine hq M _ _ g3 (fun s hs => ?_)
      by_cases e : s = u
      · rw [e, vW_6 A u u1, if_neg (by omega), g5, show k = 6 by omega]
      · exact g4 s (by omega)
    · refine wp_iload_n (pc := 33) d_Chrono_countOrders_33 rfl ?_
      refine wp_iload_n (pc := 34) d_Chrono_countOrders_34 rfl ?_
      refine wp_ishr (v := _) (pc := 35) d_Chrono_countOrders_35 rfl ?_
      refine wp_iconst (pc := 36) d_Chrono_countOrders_36 rfl ?_
      refine wp_iand (v := _) (pc := 37) d_Chrono_countOrders_37 (zn_in (k := k) u1 g1 (by omega)) ?_
      refine wp_if_eq (tgt := 45) (pc := 38) d_Chrono_countOrders_38 rfl (fun c38 => ?_) (fun c38 => ?_)
      · refine wp_iconst (pc := 45) d_Chrono_countOrders_45 rfl ?_
        refine wp_ist3 (pc := 46) d_Chrono_countOrders_46 rfl ?_
        refine wp_iload_n (pc := 47) d_Chrono_countOrders_47 rfl ?_
        refine wp_if_eq (tgt := 81) (pc := 48) d_Chrono_countOrders_48 rfl (fun c48 => ?_) (fun c48 => ?_)
        · refine wp_iinc2 (pc := 81) d_Chrono_countOrders_81 rfl (by omega) (by omega) ?_
          refine wp_goto (tgt := 27) (pc := 84) d_Chrono_countOrders_84 rfl ?_
          first
          | (refine ih (k + 1) (j + 1) _ _ (by omega) (by omega) (by omega) (g3.u rfl) (fun s hs => ?_) ?_
             · rw [zU_nk (by omega)]; exact g4 s hs
             · rw [show ((u : Int)).toNat = u by omega, zU_eq, ht k, if_pos ⟨zb_t c38, by omega⟩])
          | (refine ih (k + 1) (j + 1) M _ (by omega) (by omega) (by omega) g3 g4 ?_
             rw [g5, ht k, if_neg, Int.add_zero]
             first
             | (intro z; exact c59 (by rw [z.2]; rfl))
             | (intro z; rw [zb_f c38] at z; exact absurd z.1 (by decide)))
        · exact absurd c48 (by decide)
      · refine wp_iconst (pc := 41) d_Chrono_countOrders_41 rfl ?_
        refine wp_goto (tgt := 46) (pc := 42) d_Chrono_countOrders_42 rfl ?_
        refine wp_ist3 (pc := 46) d_Chrono_countOrders_46 rfl ?_
        refine wp_iload_n (pc := 47) d_Chrono_countOrders_47 rfl ?_
        refine wp_if_eq (tgt := 81) (pc := 48) d_Chrono_countOrders_48 rfl (fun c48 => ?_) (fun c48 => ?_)
        · exact absurd c48 (by decide)
        · refine wp_aload_n (pc := 51) d_Chrono_countOrders_51 rfl ?_
          refine wp_getR (pc := 52) d_Chrono_countOrders_52 rfl (zk_161 L) zx_161_2 ?_
          refine wp_iload_n (pc := 55) d_Chrono_countOrders_55 rfl ?_
          refine wp_iald (pc := 56) d_Chrono_countOrders_56 (zk_164 L) (by omega) (by omega) ?_
          refine wp_iload_n (pc := 57) d_Chrono_countOrders_57 rfl ?_
          refine wp_iand (v := ((A k &&& u : Nat) : Int)) (pc := 58) d_Chrono_countOrders_58 (by rw [show j.toNat = k by omega, eA k (by omega)]; exact zn_and (by have := hl k; omega) (by omega)) ?_
          refine wp_if_ne (tgt := 81) (pc := 59) d_Chrono_countOrders_59 rfl (fun c59 => ?_) (fun c59 => ?_)
          · refine wp_iinc2 (pc := 81) d_Chrono_countOrders_81 rfl (by omega) (by omega) ?_
            refine wp_goto (tgt := 27) (pc := 84) d_Chrono_countOrders_84 rfl ?_
            first
            | (refine ih (k + 1) (j + 1) _ _ (by omega) (by omega) (by omega) (g3.u rfl) (fun s hs => ?_) ?_
               · rw [zU_nk (by omega)]; exact g4 s hs
               · rw [show ((u : Int)).toNat = u by omega, zU_eq, ht k, if_pos ⟨zb_t c38, by omega⟩])
            | (refine ih (k + 1) (j + 1) M _ (by omega) (by omega) (by omega) g3 g4 ?_
               rw [g5, ht k, if_neg, Int.add_zero]
               first
               | (intro z; exact c59 (by rw [z.2]; rfl))
               | (intro z; rw [zb_f c38] at z; exact absurd z.1 (by decide)))
          · have hdn := vPc_dn u u1 k (by omega) (zb_t c38)
            have hWb := vW_b A 6 (u ^^^ 2 ^ k)
            have eu : M 165 ((u : Int)).toNat = M 165 u := rfl
            have ex : M 165 (((u ^^^ 2 ^ k : Nat) : Int)).toNat = vW A 6 (u ^^^ 2 ^ k) := g4 _ hdn.2.1
            refine wp_aload_n (pc := 62) d_Chrono_countOrders_62 rfl ?_
            refine wp_getR (pc := 63) d_Chrono_countOrders_63 rfl (zk_161 L) zx_161_3 ?_
            refine wp_iload_n (pc := 66) d_Chrono_countOrders_66 rfl ?_
            refine wp_dup2 (pc := 67) d_Chrono_countOrders_67 rfl rfl ?_
            refine wp_iald (pc := 68) d_Chrono_countOrders_68 (zk_165 L) (by omega) (by omega) ?_
            rw [eu, g5]
            refine wp_aload_n (pc := 69) d_Chrono_countOrders_69 rfl ?_
            refine wp_getR (pc := 70) d_Chrono_countOrders_70 rfl (zk_161 L) zx_161_3 ?_
            refine wp_iload_n (pc := 73) d_Chrono_countOrders_73 rfl ?_
            refine wp_iconst (pc := 74) d_Chrono_countOrders_74 rfl ?_
            refine wp_iload_n (pc := 75) d_Chrono_countOrders_75 rfl ?_
            refine wp_ishl (v := ((2 ^ k : Nat) : Int)) (pc := 76) d_Chrono_countOrders_76 (by rw [g1]; exact zn_shl1 k (by omega)) ?_
            refine wp_ixor (v := ((u ^^^ 2 ^ k : Nat) : Int)) (pc := 77) d_Chrono_countOrders_77 (zn_xor (by omega) (by have : 2 ^ k ≤ 2 ^ 6 := Nat.pow_le_pow_right (by decide) (by omega); omega)) ?_
            refine wp_iald (pc := 78) d_Chrono_countOrders_78 (zk_165 L) (by omega) (by omega) ?_
            rw [ex]
            refine wp_iadd (pc := 79) d_Chrono_countOrders_79 (by omega) (by omega) ?_
            refine wp_iast (pc := 80) d_Chrono_countOrders_80 (zk_165 L) (by decide) (by omega) (by omega) ?_
            refine wp_iinc2 (pc := 81) d_Chrono_countOrders_81 rfl (by omega) (by omega) ?_
            refine wp_goto (tgt := 27) (pc := 84) d_Chrono_countOrders_84 rfl ?_
            first
            | (refine ih (k + 1) (j + 1) _ _ (by omega) (by omega) (by omega) (g3.u rfl) (fun s hs => ?_) ?_
               · rw [zU_nk (by omega)]; exact g4 s hs
               · rw [show ((u : Int)).toNat = u by omega, zU_eq, ht k, if_pos ⟨zb_t c38, by omega⟩])
            | (refine ih (k + 1) (j + 1) M _ (by omega) (by omega) (by omega) g3 g4 ?_
               rw [g5, ht k, if_neg, Int.add_zero]
               first
               | (intro z; exact c59 (by rw [z.2]; rfl))
               | (intro z; rw [zb_f c38] at z; exact absurd z.1 (by decide)))
theorem lp_Ch_co {M0 : zM} {A : Nat → Nat} (hA : ∀ f : Nat, f < 6 → M0 164 f = ((A f : Nat) : Int)) (hl : ∀ f, A f < 64) {S : Nat} (hS : S < 64) (hs : M0 161 5 = (S : Int)) : ∀ (n9 : Nat) (k : Nat) (M : zM) (w1 : zV) (w2 : zV), 64 - (k : Int) < n9 → (0 < k) → (k ≤ 64) → (zSm (fun a => a = 165) M0 M) → (∀ s : Nat, s < k → M 165 s = vW A 6 s) → wp L 0 zm_Chrono_countOrders 9 [rV 161, iV k, w1, w2] [] M (fun r M' => r = none ∧ (zSm (fun a => a = 161 ∨ a = 165) M0 M' ∧ (∀ k, ¬ k = 6 → M' 161 k = M0 161 k) ∧ M' 161 6 = vW A 6 S)) := by
  intro n9
  induction n9 with
  | zero =>
    intro k  M  w1  w2  h9 g1 g2 g3 g4
    exact absurd h9 (by omega)
  | succ n9 ih =>
    intro k  M  w1  w2  h9 g1 g2 g3 g4
    refine wp_iload_n (pc := 9) d_Chrono_countOrders_9 rfl ?_
    refine wp_aload_n (pc := 10) d_Chrono_countOrders_10 rfl ?_
    refine wp_getR (pc := 11) d_Chrono_countOrders_11 rfl (zk_161 L) zx_161_3 ?_
    refine wp_alen (pc := 14) d_Chrono_countOrders_14 (zk_165 L) (by decide) ?_
    refine wp_icmp_ge (tgt := 93) (pc := 15) d_Chrono_countOrders_15 rfl (fun c15 => ?_) (fun c15 => ?_)
    · have e5 : M 161 5 = (S : Int) := (g3 161 (by decide) 5).trans hs
      refine wp_aload_n (pc := 93) d_Chrono_countOrders_93 rfl ?_
      refine wp_aload_n (pc := 94) d_Chrono_countOrders_94 rfl ?_
      refine wp_getR (pc := 95) d_Chrono_countOrders_95 rfl (zk_161 L) zx_161_3 ?_
      refine wp_aload_n (pc := 98) d_Chrono_countOrders_98 rfl ?_
      refine wp_getI (pc := 99) d_Chrono_countOrders_99 rfl (by decide) (zk_161 L) ?_
      refine wp_iald (pc := 102) d_Chrono_countOrders_102 (zk_165 L) (by rw [e5]; omega) (by rw [e5]; omega) ?_
      refine wp_putI (pc := 103) d_Chrono_countOrders_103 rfl (zk_161 L) (by decide) ?_
      refine wp_return_ (pc := 106) d_Chrono_countOrders_106 rfl ?_
      refine ⟨rfl, (g3.up (fun a ha => Or.inr ha)).u (Or.inl rfl), fun k hk => ?_, ?_⟩
      · rw [zU_nk hk]; exact g3 161 (by decide) k
      · rw [zU_eq, e5]; exact g4 S (by omega)
    · refine wp_aload_n (pc := 18) d_Chrono_countOrders_18 rfl ?_
      refine wp_getR (pc := 19) d_Chrono_countOrders_19 rfl (zk_161 L) zx_161_3 ?_
      refine wp_iload_n (pc := 22) d_Chrono_countOrders_22 rfl ?_
      refine wp_iconst (pc := 23) d_Chrono_countOrders_23 rfl ?_
      refine wp_iast (pc := 24) d_Chrono_countOrders_24 (zk_165 L) (by decide) (by omega) (by omega) ?_
      refine wp_iconst (pc := 25) d_Chrono_countOrders_25 rfl ?_
      refine wp_ist2 (pc := 26) d_Chrono_countOrders_26 rfl ?_
      refine lp_Ch_co1 (M0 := M0) hA hl g1 (by omega) (fun M' v1 v2 q1 q2 => ?_) 100 0 0 _ _ (by omega) rfl (by omega) (g3.u rfl) (fun s hs => ?_) (by rw [show ((k : Int)).toNat = k by omega, zU_eq]; rfl)
      · exact ih (k + 1) M' v1 v2 (by omega) (by omega) (by omega) q1 q2
      · rw [zU_nk (by omega)]; exact g4 s hs
theorem c_Ch_co {A : Nat → Nat} (hA : ∀ f : Nat, f < 6 → M 164 f = ((A f : Nat) : Int)) (hl : ∀ f, A f < 64) {S : Nat} (hS : S < 64) (hs : M 161 5 = (S : Int)) : wpc L 0 zm_Chrono_countOrders [rV 161] M (fun r M' => r = none ∧ (zSm (fun a => a = 161 ∨ a = 165) M M' ∧ (∀ k, ¬ k = 6 → M' 161 k = M 161 k) ∧ M' 161 6 = vW A 6 S)) := by
  show wp L _ zm_Chrono_countOrders 0 [rV 161, uV, uV, uV] [] M _
  refine wp_aload_n (pc := 0) d_Chrono_countOrders_0 rfl ?_
  refine wp_getR (pc := 1) d_Chrono_countOrders_1 rfl (zk_161 L) zx_161_3 ?_
  refine wp_iconst (pc := 4) d_Chrono_countOrders_4 rfl ?_
  refine wp_iconst (pc := 5) d_Chrono_countOrders_5 rfl ?_
  refine wp_iastc 0 (pc := 6) d_Chrono_countOrders_6 (zk_165 L) (by decide) rfl rfl ?_
  refine wp_iconst (pc := 7) d_Chrono_countOrders_7 rfl ?_
  refine wp_ist1 (pc := 8) d_Chrono_countOrders_8 rfl ?_
  exact lp_Ch_co (M0 := M) hA hl hS hs 100 1 _ _ _ (by omega) (by omega) (by omega) (zSm.rf.u rfl) (fun s hs => by rw [show s = 0 by omega, zU_eq, vW_6 A 0 (by decide), if_pos rfl])
theorem lp_Ch_ff {A : Nat → Nat} (hA : ∀ f : Nat, f < 6 → M 164 f = ((A f : Nat) : Int)) (hl : ∀ f, A f < 64) {u : Nat} (hu : u < 64) : ∀ (n9 : Nat) (k : Nat) (v : Int) (j : Int), 6 - j < n9 → (j = k) → (j ≤ 6) → (v = ((qBm (fun g => qEx (fun f => u.testBit f.toNat && (A f.toNat).testBit g) k) 6 : Nat) : Int)) → wp L 1 zm_Chrono_firstFree 4 [rV 161, iV u, iV v, iV j] [] M (fun r M' => r = some (iV (vNx A u)) ∧ M' = M) := by
  intro n9
  induction n9 with
  | zero =>
    intro k  v  j  h9 g1 g2 g3
    exact absurd h9 (by omega)
  | succ n9 ih =>
    intro k  v  j  h9 g1 g2 g3
    refine wp_iload_n (pc := 4) d_Chrono_firstFree_4 rfl ?_
    refine wp_bipush (pc := 5) d_Chrono_firstFree_5 rfl ?_
    refine wp_icmp_ge (tgt := 33) (pc := 7) d_Chrono_firstFree_7 rfl (fun c7 => ?_) (fun c7 => ?_)
    · refine wp_iload_n (pc := 33) d_Chrono_firstFree_33 rfl ?_
      refine wp_iload_n (pc := 34) d_Chrono_firstFree_34 rfl ?_
      refine wp_iconst (pc := 35) d_Chrono_firstFree_35 rfl ?_
      refine wp_ixor (v := _) (pc := 36) d_Chrono_firstFree_36 rfl ?_
      refine wp_iand (v := ((qAn u (vBh A u) : Nat) : Int)) (pc := 37) d_Chrono_firstFree_37 (by rw [g3, show k = 6 by omega]; exact zn_not (b := vBh A u) (by omega) (by have := vBh_lt A u; omega)) ?_
      have hq : qAn u (vBh A u) < 64 := qAn_lt (n := 6) hu
      refine wp_ist3 (pc := 38) d_Chrono_firstFree_38 rfl ?_
      refine wp_iload_n (pc := 39) d_Chrono_firstFree_39 rfl ?_
      refine wp_if_ne (tgt := 47) (pc := 40) d_Chrono_firstFree_40 rfl (fun c40 => ?_) (fun c40 => ?_)
      · refine wp_iload_n (pc := 47) d_Chrono_firstFree_47 rfl ?_
        refine wp_callS1f (pc := 48) d_Chrono_firstFree_48 rfl rfl rfl rfl rfl (c_ntz hq (by omega)) ?_
        refine wp_ireturn (pc := 51) d_Chrono_firstFree_51 rfl ?_
        refine ⟨?_, rfl⟩
        unfold vNx
        first
        | rw [if_pos (by omega)]
        | rw [if_neg (by omega)]
      · refine wp_iconst (pc := 43) d_Chrono_firstFree_43 rfl ?_
        refine wp_goto (tgt := 51) (pc := 44) d_Chrono_firstFree_44 rfl ?_
        refine wp_ireturn (pc := 51) d_Chrono_firstFree_51 rfl ?_
        refine ⟨?_, rfl⟩
        unfold vNx
        first
        | rw [if_pos (by omega)]
        | rw [if_neg (by omega)]
    · refine wp_iload_n (pc := 10) d_Chrono_firstFree_10 rfl ?_
      refine wp_iload_n (pc := 11) d_Chrono_firstFree_11 rfl ?_
      refine wp_ishr (v := _) (pc := 12) d_Chrono_firstFree_12 rfl ?_
      refine wp_iconst (pc := 13) d_Chrono_firstFree_13 rfl ?_
      refine wp_iand (v := _) (pc := 14) d_Chrono_firstFree_14 (zn_in (k := k) hu g1 (by omega)) ?_
      refine wp_if_eq (tgt := 27) (pc := 15) d_Chrono_firstFree_15 rfl (fun c15 => ?_) (fun c15 => ?_)
      · refine wp_iinc3 (pc := 27) d_Chrono_firstFree_27 rfl (by omega) (by omega) ?_
        refine wp_goto (tgt := 4) (pc := 30) d_Chrono_firstFree_30 rfl ?_
        first
        | (refine ih (k + 1) v (j + 1) (by omega) (by omega) (by omega) (g3.trans ?_)
           congr 1
           refine qBm_congr (fun g hg => ?_)
           show _ = (_ || (u.testBit k && (A k).testBit g))
           rw [zb_f c15, Bool.false_and, Bool.or_false])
        | (refine ih (k + 1) _ (j + 1) (by omega) (by omega) (by omega) ?_
           rw [show j.toNat = k by omega, hA k (by omega)]
           refine z_orN g3 (hl k) (fun g hg => ?_)
           show (_ || (u.testBit k && (A k).testBit g)) = _
           rw [zb_t c15, Bool.true_and])
      · refine wp_iload_n (pc := 18) d_Chrono_firstFree_18 rfl ?_
        refine wp_aload_n (pc := 19) d_Chrono_firstFree_19 rfl ?_
        refine wp_getR (pc := 20) d_Chrono_firstFree_20 rfl (zk_161 L) zx_161_2 ?_
        refine wp_iload_n (pc := 23) d_Chrono_firstFree_23 rfl ?_
        refine wp_iald (pc := 24) d_Chrono_firstFree_24 (zk_164 L) (by omega) (by omega) ?_
        refine wp_ior (v := _) (pc := 25) d_Chrono_firstFree_25 rfl ?_
        refine wp_ist2 (pc := 26) d_Chrono_firstFree_26 rfl ?_
        refine wp_iinc3 (pc := 27) d_Chrono_firstFree_27 rfl (by omega) (by omega) ?_
        refine wp_goto (tgt := 4) (pc := 30) d_Chrono_firstFree_30 rfl ?_
        first
        | (refine ih (k + 1) v (j + 1) (by omega) (by omega) (by omega) (g3.trans ?_)
           congr 1
           refine qBm_congr (fun g hg => ?_)
           show _ = (_ || (u.testBit k && (A k).testBit g))
           rw [zb_f c15, Bool.false_and, Bool.or_false])
        | (refine ih (k + 1) _ (j + 1) (by omega) (by omega) (by omega) ?_
           rw [show j.toNat = k by omega, hA k (by omega)]
           refine z_orN g3 (hl k) (fun g hg => ?_)
           show (_ || (u.testBit k && (A k).testBit g)) = _
           rw [zb_t c15, Bool.true_and])
theorem c_Ch_ff {A : Nat → Nat} (hA : ∀ f : Nat, f < 6 → M 164 f = ((A f : Nat) : Int)) (hl : ∀ f, A f < 64) {u : Nat} (hu : u < 64) : Cf L 1 zm_Chrono_firstFree [rV 161, iV u] M (iV (vNx A u)) M := by
  show wp L _ zm_Chrono_firstFree 0 [rV 161, iV u, uV, uV] [] M _
  refine wp_iconst (pc := 0) d_Chrono_firstFree_0 rfl ?_
  refine wp_ist2 (pc := 1) d_Chrono_firstFree_1 rfl ?_
  refine wp_iconst (pc := 2) d_Chrono_firstFree_2 rfl ?_
  refine wp_ist3 (pc := 3) d_Chrono_firstFree_3 rfl ?_
  exact lp_Ch_ff hA hl hu 100 0 0 0 (by omega) rfl (by omega) rfl
theorem lp_Ch_fi {M0 : zM} {A : Nat → Nat} (hA : ∀ f : Nat, f < 6 → M0 164 f = ((A f : Nat) : Int)) (hl : ∀ f, A f < 64) {S : Nat} (hS : S < 64) : ∀ (n9 : Nat) (k : Nat) (j : Int) (M : zM) (w : zV), 6 - j < n9 → (j = k) → (j ≤ 6) → (zSm (fun a => a = 166) M0 M) → (∀ q : Nat, q < k → M 166 q = vNx A (vLf A S q)) → wp L 2 zm_Chrono_findFirst 7 [rV 161, iV ((vLf A S k : Nat) : Int), iV j, w] [] M (fun r M' => r = none ∧ (zSm (fun a => a = 166) M0 M' ∧ ∀ q : Nat, q < 6 → M' 166 q = vNx A (vLf A S q))) := by
  intro n9
  induction n9 with
  | zero =>
    intro k  j  M  w  h9 g1 g2 g3 g4
    exact absurd h9 (by omega)
  | succ n9 ih =>
    intro k  j  M  w  h9 g1 g2 g3 g4
    have eA : ∀ f : Nat, f < 6 → M 164 f = ((A f : Nat) : Int) := fun f hf => (g3 164 (by decide) f).trans (hA f hf)
    have hlk := vLf_lt A hS k
    have hnx := vNx_b A (vLf A S k)
    refine wp_iload_n (pc := 7) d_Chrono_findFirst_7 rfl ?_
    refine wp_bipush (pc := 8) d_Chrono_findFirst_8 rfl ?_
    refine wp_icmp_ge (tgt := 45) (pc := 10) d_Chrono_findFirst_10 rfl (fun c10 => ?_) (fun c10 => ?_)
    · refine wp_return_ (pc := 45) d_Chrono_findFirst_45 rfl ?_
      exact ⟨rfl, g3, fun q hq => g4 q (by omega)⟩
    · refine wp_aload_n (pc := 13) d_Chrono_findFirst_13 rfl ?_
      refine wp_iload_n (pc := 14) d_Chrono_findFirst_14 rfl ?_
      refine wp_callV1f (pc := 15) d_Chrono_findFirst_15 rfl rfl (zk_161 L) rfl rfl (c_Ch_ff eA hl hlk) ?_
      refine wp_ist3 (pc := 18) d_Chrono_findFirst_18 rfl ?_
      refine wp_aload_n (pc := 19) d_Chrono_findFirst_19 rfl ?_
      refine wp_getR (pc := 20) d_Chrono_findFirst_20 rfl (zk_161 L) zx_161_4 ?_
      refine wp_iload_n (pc := 23) d_Chrono_findFirst_23 rfl ?_
      refine wp_iload_n (pc := 24) d_Chrono_findFirst_24 rfl ?_
      refine wp_iast (pc := 25) d_Chrono_findFirst_25 (zk_166 L) (by decide) (by omega) (by omega) ?_
      refine wp_iload_n (pc := 26) d_Chrono_findFirst_26 rfl ?_
      refine wp_iconst (pc := 27) d_Chrono_findFirst_27 rfl ?_
      refine wp_icmp_eq (tgt := 39) (pc := 28) d_Chrono_findFirst_28 rfl (fun c28 => ?_) (fun c28 => ?_)
      · refine wp_iinc2 (pc := 39) d_Chrono_findFirst_39 rfl (by omega) (by omega) ?_
        refine wp_goto (tgt := 7) (pc := 42) d_Chrono_findFirst_42 rfl ?_
        have hq4 : ∀ q : Nat, q < k + 1 → zU M 166 j.toNat (vNx A (vLf A S k)) 166 q = vNx A (vLf A S q) := fun q hq => by
          by_cases e : q = k
          · rw [e, show j.toNat = k by omega, zU_eq]
          · rw [zU_nk (by omega)]; exact g4 q (by omega)
        have h9 := ih (k + 1) (j + 1) _ (iV (vNx A (vLf A S k))) (by omega) (by omega) (by omega) (g3.u rfl) hq4
        simp only [vLf] at h9
        first
        | (rw [if_pos c28] at h9; exact h9)
        | (rw [if_neg c28] at h9; exact h9)
      · refine wp_iload_n (pc := 31) d_Chrono_findFirst_31 rfl ?_
        refine wp_iconst (pc := 32) d_Chrono_findFirst_32 rfl ?_
        refine wp_iload_n (pc := 33) d_Chrono_findFirst_33 rfl ?_
        refine wp_ishl (v := _) (pc := 34) d_Chrono_findFirst_34 rfl ?_
        refine wp_iconst (pc := 35) d_Chrono_findFirst_35 rfl ?_
        refine wp_ixor (v := _) (pc := 36) d_Chrono_findFirst_36 rfl ?_
        refine wp_iand (v := ((qAn (vLf A S k) (2 ^ (vNx A (vLf A S k)).toNat) : Nat) : Int)) (pc := 37) d_Chrono_findFirst_37 (by rw [show vNx A (vLf A S k) = (((vNx A (vLf A S k)).toNat : Nat) : Int) by omega, zn_shl1 _ (by omega)]; exact zn_not (by omega) (by have : 2 ^ (vNx A (vLf A S k)).toNat ≤ 2 ^ 6 := Nat.pow_le_pow_right (by decide) (by omega); omega)) ?_
        refine wp_ist1 (pc := 38) d_Chrono_findFirst_38 rfl ?_
        refine wp_iinc2 (pc := 39) d_Chrono_findFirst_39 rfl (by omega) (by omega) ?_
        refine wp_goto (tgt := 7) (pc := 42) d_Chrono_findFirst_42 rfl ?_
        have hq4 : ∀ q : Nat, q < k + 1 → zU M 166 j.toNat (vNx A (vLf A S k)) 166 q = vNx A (vLf A S q) := fun q hq => by
          by_cases e : q = k
          · rw [e, show j.toNat = k by omega, zU_eq]
          · rw [zU_nk (by omega)]; exact g4 q (by omega)
        have h9 := ih (k + 1) (j + 1) _ (iV (vNx A (vLf A S k))) (by omega) (by omega) (by omega) (g3.u rfl) hq4
        simp only [vLf] at h9
        first
        | (rw [if_pos c28] at h9; exact h9)
        | (rw [if_neg c28] at h9; exact h9)
theorem c_Ch_fi {A : Nat → Nat} (hA : ∀ f : Nat, f < 6 → M 164 f = ((A f : Nat) : Int)) (hl : ∀ f, A f < 64) {S : Nat} (hS : S < 64) (hs : M 161 5 = (S : Int)) : wpc L 2 zm_Chrono_findFirst [rV 161] M (fun r M' => r = none ∧ (zSm (fun a => a = 166) M M' ∧ ∀ q : Nat, q < 6 → M' 166 q = vNx A (vLf A S q))) := by
  show wp L _ zm_Chrono_findFirst 0 [rV 161, uV, uV, uV] [] M _
  refine wp_aload_n (pc := 0) d_Chrono_findFirst_0 rfl ?_
  refine wp_getI (pc := 1) d_Chrono_findFirst_1 rfl (by decide) (zk_161 L) ?_
  refine wp_ist1 (pc := 4) d_Chrono_findFirst_4 rfl ?_
  refine wp_iconst (pc := 5) d_Chrono_findFirst_5 rfl ?_
  refine wp_ist2 (pc := 6) d_Chrono_findFirst_6 rfl ?_
  rw [hs]
  exact lp_Ch_fi (M0 := M) hA hl hS 100 0 0 M _ (by omega) rfl (by omega) zSm.rf (fun q hq => absurd hq (by omega))
end ZCh2
