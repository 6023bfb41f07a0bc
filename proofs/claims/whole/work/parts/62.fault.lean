/-! Fault, on -/
theorem zz_two (a b o : Nat) : (2 ^ a ||| 2 ^ b) &&& o = 0 ↔ o.testBit a = false ∧ o.testBit b = false := by
  constructor
  · intro h
    have ha : ((2 ^ a ||| 2 ^ b) &&& o).testBit a = false := by rw [h]; exact Nat.zero_testBit a
    have hb : ((2 ^ a ||| 2 ^ b) &&& o).testBit b = false := by rw [h]; exact Nat.zero_testBit b
    rw [Nat.testBit_and, Nat.testBit_or, Nat.testBit_two_pow_self, Bool.true_or, Bool.true_and] at ha
    rw [Nat.testBit_and, Nat.testBit_or, Nat.testBit_two_pow_self, Bool.or_true, Bool.true_and] at hb
    exact ⟨ha, hb⟩
  · intro h
    apply Nat.eq_of_testBit_eq
    intro k
    rw [Nat.testBit_and, Nat.testBit_or, Nat.testBit_two_pow, Nat.testBit_two_pow, Nat.zero_testBit]
    by_cases e : a = k
    · rw [← e, h.1, Bool.and_false]
    · by_cases e2 : b = k
      · rw [← e2, h.2, Bool.and_false]
      · rw [decide_eq_false e, decide_eq_false e2]; rfl
def pF (M : zM) (o : Nat) (f : Nat) (k : Nat) (g : Nat) : Bool := qEx (fun i => decide ((M 168 i.toNat).toNat &&& o = 0 ∧ M 169 i.toNat = (f : Int) ∧ M 170 i.toNat = (g : Int))) k
theorem pF_all {M : zM} {Y : qYt} {K : Int} {o f : Nat} (h0 : 0 ≤ Y.1) (hK : 0 ≤ K) (h : qFp M Y Y.1.toNat (fun _ _ => True) K) : qBm (pF M o f K.toNat) 6 = vA Y (vOut o) f := by
  unfold vA
  refine qBm_congr (fun g hg => ?_)
  unfold pF vAh
  rw [Bool.eq_iff_iff, qEx_iff, qEx_iff]
  constructor
  · rintro ⟨k, k0, k1, hk⟩
    have hk := of_decide_eq_true hk
    obtain ⟨a, b, ha, hb, _, hl, q1, q2, q3⟩ := h.2.1 k.toNat (by omega)
    rw [q1, q2, q3, show ((2 ^ a.toNat ||| 2 ^ b.toNat : Nat) : Int).toNat = 2 ^ a.toNat ||| 2 ^ b.toNat from rfl, zz_two] at hk
    refine ⟨a, ha.1, ha.2, ?_⟩
    rw [qEx_iff]
    refine ⟨b, hb.1, hb.2, ?_⟩
    unfold vOut
    rw [hk.1.1, hk.1.2, hl, decide_eq_true (show Y.2 a 1 = (f : Int) ∧ Y.2 b 1 = (g : Int) from hk.2)]
    rfl
  · rintro ⟨a, a0, a1, ha⟩
    rw [qEx_iff] at ha
    obtain ⟨b, b0, b1, hb⟩ := ha
    rw [Bool.and_eq_true, Bool.and_eq_true, Bool.and_eq_true] at hb
    obtain ⟨⟨x1, x2⟩, x3, x4⟩ := hb
    obtain ⟨k, k1, q1, q2, q3⟩ := h.2.2 a b a0 a1 b0 b1 trivial x4
    refine ⟨k, by omega, by omega, decide_eq_true ?_⟩
    have x3 := of_decide_eq_true x3
    unfold vOut at x1 x2
    rw [show ((k : Int)).toNat = k by omega, q1, q2, q3, show ((2 ^ a.toNat ||| 2 ^ b.toNat : Nat) : Int).toNat = 2 ^ a.toNat ||| 2 ^ b.toNat from rfl, zz_two]
    refine ⟨⟨?_, ?_⟩, x3⟩
    · rw [Bool.not_eq_true'] at x1; exact x1
    · rw [Bool.not_eq_true'] at x2; exact x2
section ZFa2
variable {L : Nat} {M : zM} {Y : qYt} {x y z w c p s i j : Int}
theorem vPn_0 (Y : qYt) (n k : Nat) : 0 ≤ vPn Y n k := (qS_b (B := n) (fun a _ _ => qN_b (fun b => vLw Y a b) n)).1
theorem lp_Fa_nc1 {A : Nat → Nat} (hA : ∀ f : Nat, f < 6 → M 171 f = ((A f : Nat) : Int)) (hl : ∀ f, A f < 64) {u : Nat} (hu : u < 64) {t : Int} (t0 : 0 ≤ t) (t1 : t < 6) {Qx : Option zV → zM → Prop} (hq : ∀ w1 w2 : zV, wp L 0 zm_Fault_hasNoCycle 5 [rV 167, iV ((u &&& vBh A u : Nat) : Int), iV (t + 1), w1, w2] [] M Qx) : ∀ (n9 : Nat) (k : Nat) (v : Int) (j : Int), 6 - j < n9 → (j = k) → (j ≤ 6) → (v = ((qBm (fun g => qEx (fun f => u.testBit f.toNat && (A f.toNat).testBit g) k) 6 : Nat) : Int)) → wp L 0 zm_Fault_hasNoCycle 20 [rV 167, iV u, iV t, iV v, iV j] [] M (Qx) := by
  intro n9
  induction n9 with
  | zero =>
    intro k  v  j  h9 g1 g2 g3
    exact absurd h9 (by omega)
  | succ n9 ih =>
    intro k  v  j  h9 g1 g2 g3
    refine wp_iload (pc := 20) d_Fault_hasNoCycle_20 rfl ?_
    refine wp_bipush (pc := 22) d_Fault_hasNoCycle_22 rfl ?_
    refine wp_icmp_ge (tgt := 52) (pc := 24) d_Fault_hasNoCycle_24 rfl (fun c24 => ?_) (fun c24 => ?_)
    · refine wp_iload_n (pc := 52) d_Fault_hasNoCycle_52 rfl ?_
      refine wp_iload_n (pc := 53) d_Fault_hasNoCycle_53 rfl ?_
      refine wp_iand (v := ((u &&& vBh A u : Nat) : Int)) (pc := 54) d_Fault_hasNoCycle_54 (by rw [g3, show k = 6 by omega]; exact zn_and (b := vBh A u) (by omega) (by have := vBh_lt A u; omega)) ?_
      refine wp_ist1 (pc := 55) d_Fault_hasNoCycle_55 rfl ?_
      refine wp_iinc2 (pc := 56) d_Fault_hasNoCycle_56 rfl (by omega) (by omega) ?_
      refine wp_goto (tgt := 5) (pc := 59) d_Fault_hasNoCycle_59 rfl ?_
      exact hq _ _
    · refine wp_iload_n (pc := 27) d_Fault_hasNoCycle_27 rfl ?_
      refine wp_iload (pc := 28) d_Fault_hasNoCycle_28 rfl ?_
      refine wp_ishr (v := _) (pc := 30) d_Fault_hasNoCycle_30 rfl ?_
      refine wp_iconst (pc := 31) d_Fault_hasNoCycle_31 rfl ?_
      refine wp_iand (v := _) (pc := 32) d_Fault_hasNoCycle_32 (zn_in (k := k) hu g1 (by omega)) ?_
      refine wp_if_eq (tgt := 46) (pc := 33) d_Fault_hasNoCycle_33 rfl (fun c33 => ?_) (fun c33 => ?_)
      · refine wp_iinc4 (pc := 46) d_Fault_hasNoCycle_46 rfl (by omega) (by omega) ?_
        refine wp_goto (tgt := 20) (pc := 49) d_Fault_hasNoCycle_49 rfl ?_
        first
        | (refine ih (k + 1) v (j + 1) (by omega) (by omega) (by omega) (g3.trans ?_)
           congr 1
           refine qBm_congr (fun g hg => ?_)
           show _ = (_ || (u.testBit k && (A k).testBit g))
           rw [zb_f c33, Bool.false_and, Bool.or_false])
        | (refine ih (k + 1) _ (j + 1) (by omega) (by omega) (by omega) ?_
           rw [show j.toNat = k by omega, hA k (by omega)]
           refine z_orN g3 (hl k) (fun g hg => ?_)
           show (_ || (u.testBit k && (A k).testBit g)) = _
           rw [zb_t c33, Bool.true_and])
      · refine wp_iload_n (pc := 36) d_Fault_hasNoCycle_36 rfl ?_
        refine wp_aload_n (pc := 37) d_Fault_hasNoCycle_37 rfl ?_
        refine wp_getR (pc := 38) d_Fault_hasNoCycle_38 rfl (zk_167 L) zx_167_3 ?_
        refine wp_iload (pc := 41) d_Fault_hasNoCycle_41 rfl ?_
        refine wp_iald (pc := 43) d_Fault_hasNoCycle_43 (zk_171 L) (by omega) (by omega) ?_
        refine wp_ior (v := _) (pc := 44) d_Fault_hasNoCycle_44 rfl ?_
        refine wp_ist3 (pc := 45) d_Fault_hasNoCycle_45 rfl ?_
        refine wp_iinc4 (pc := 46) d_Fault_hasNoCycle_46 rfl (by omega) (by omega) ?_
        refine wp_goto (tgt := 20) (pc := 49) d_Fault_hasNoCycle_49 rfl ?_
        first
        | (refine ih (k + 1) v (j + 1) (by omega) (by omega) (by omega) (g3.trans ?_)
           congr 1
           refine qBm_congr (fun g hg => ?_)
           show _ = (_ || (u.testBit k && (A k).testBit g))
           rw [zb_f c33, Bool.false_and, Bool.or_false])
        | (refine ih (k + 1) _ (j + 1) (by omega) (by omega) (by omega) ?_
           rw [show j.toNat = k by omega, hA k (by omega)]
           refine z_orN g3 (hl k) (fun g hg => ?_)
           show (_ || (u.testBit k && (A k).testBit g)) = _
           rw [zb_t c33, Bool.true_and])
theorem lp_Fa_nc {A : Nat → Nat} (hA : ∀ f : Nat, f < 6 → M 171 f = ((A f : Nat) : Int)) (hl : ∀ f, A f < 64) : ∀ (n9 : Nat) (k : Nat) (t : Int) (w1 : zV) (w2 : zV), 6 - t < n9 → (t = k) → (t ≤ 6) → wp L 0 zm_Fault_hasNoCycle 5 [rV 167, iV ((vNc A k : Nat) : Int), iV t, w1, w2] [] M (fun r M' => r = some (iV (qB (decide (vNc A 6 = 0)))) ∧ M' = M) := by
  intro n9
  induction n9 with
  | zero =>
    intro k  t  w1  w2  h9 g1 g2
    exact absurd h9 (by omega)
  | succ n9 ih =>
    intro k  t  w1  w2  h9 g1 g2
    have hk := vNc_lt A k
    refine wp_iload_n (pc := 5) d_Fault_hasNoCycle_5 rfl ?_
    refine wp_bipush (pc := 6) d_Fault_hasNoCycle_6 rfl ?_
    refine wp_icmp_ge (tgt := 62) (pc := 8) d_Fault_hasNoCycle_8 rfl (fun c8 => ?_) (fun c8 => ?_)
    · refine wp_iload_n (pc := 62) d_Fault_hasNoCycle_62 rfl ?_
      refine wp_if_ne (tgt := 70) (pc := 63) d_Fault_hasNoCycle_63 rfl (fun c63 => ?_) (fun c63 => ?_)
      · refine wp_iconst (pc := 70) d_Fault_hasNoCycle_70 rfl ?_
        refine wp_zreturn (pc := 71) d_Fault_hasNoCycle_71 rfl (by omega) ?_
        refine ⟨?_, rfl⟩
        first
        | (rw [decide_eq_true (show vNc A 6 = 0 by
             have h9 := vNc_0 A (k := k) (by omega) (6 - k)
             rw [show k + (6 - k) = 6 by omega] at h9
             exact h9)]
           rfl)
        | (rw [decide_eq_false (show ¬ vNc A 6 = 0 by rw [show 6 = k by omega]; omega)]; rfl)
      · refine wp_iconst (pc := 66) d_Fault_hasNoCycle_66 rfl ?_
        refine wp_goto (tgt := 71) (pc := 67) d_Fault_hasNoCycle_67 rfl ?_
        refine wp_zreturn (pc := 71) d_Fault_hasNoCycle_71 rfl (by omega) ?_
        refine ⟨?_, rfl⟩
        first
        | (rw [decide_eq_true (show vNc A 6 = 0 by
             have h9 := vNc_0 A (k := k) (by omega) (6 - k)
             rw [show k + (6 - k) = 6 by omega] at h9
             exact h9)]
           rfl)
        | (rw [decide_eq_false (show ¬ vNc A 6 = 0 by rw [show 6 = k by omega]; omega)]; rfl)
    · refine wp_iload_n (pc := 11) d_Fault_hasNoCycle_11 rfl ?_
      refine wp_if_eq (tgt := 62) (pc := 12) d_Fault_hasNoCycle_12 rfl (fun c12 => ?_) (fun c12 => ?_)
      · refine wp_iload_n (pc := 62) d_Fault_hasNoCycle_62 rfl ?_
        refine wp_if_ne (tgt := 70) (pc := 63) d_Fault_hasNoCycle_63 rfl (fun c63 => ?_) (fun c63 => ?_)
        · refine wp_iconst (pc := 70) d_Fault_hasNoCycle_70 rfl ?_
          refine wp_zreturn (pc := 71) d_Fault_hasNoCycle_71 rfl (by omega) ?_
          refine ⟨?_, rfl⟩
          first
          | (rw [decide_eq_true (show vNc A 6 = 0 by
               have h9 := vNc_0 A (k := k) (by omega) (6 - k)
               rw [show k + (6 - k) = 6 by omega] at h9
               exact h9)]
             rfl)
          | (rw [decide_eq_false (show ¬ vNc A 6 = 0 by rw [show 6 = k by omega]; omega)]; rfl)
        · refine wp_iconst (pc := 66) d_Fault_hasNoCycle_66 rfl ?_
          refine wp_goto (tgt := 71) (pc := 67) d_Fault_hasNoCycle_67 rfl ?_
          refine wp_zreturn (pc := 71) d_Fault_hasNoCycle_71 rfl (by omega) ?_
          refine ⟨?_, rfl⟩
          first
          | (rw [decide_eq_true (show vNc A 6 = 0 by
               have h9 := vNc_0 A (k := k) (by omega) (6 - k)
               rw [show k + (6 - k) = 6 by omega] at h9
               exact h9)]
             rfl)
          | (rw [decide_eq_false (show ¬ vNc A 6 = 0 by rw [show 6 = k by omega]; omega)]; rfl)
      · refine wp_iconst (pc := 15) d_Fault_hasNoCycle_15 rfl ?_
        refine wp_ist3 (pc := 16) d_Fault_hasNoCycle_16 rfl ?_
        refine wp_iconst (pc := 17) d_Fault_hasNoCycle_17 rfl ?_
        refine wp_ist4 (pc := 18) d_Fault_hasNoCycle_18 rfl ?_
        exact lp_Fa_nc1 hA hl hk (by omega) (by omega) (fun w1 w2 => ih (k + 1) (t + 1) w1 w2 (by omega) (by omega) (by omega)) 100 0 0 0 (by omega) rfl (by omega) rfl
theorem c_Fa_nc {A : Nat → Nat} (hA : ∀ f : Nat, f < 6 → M 171 f = ((A f : Nat) : Int)) (hl : ∀ f, A f < 64) : Cf L 0 zm_Fault_hasNoCycle [rV 167] M (iV (qB (decide (vNc A 6 = 0)))) M := by
  show wp L _ zm_Fault_hasNoCycle 0 [rV 167, uV, uV, uV, uV] [] M _
  refine wp_bipush (pc := 0) d_Fault_hasNoCycle_0 rfl ?_
  refine wp_ist1 (pc := 2) d_Fault_hasNoCycle_2 rfl ?_
  refine wp_iconst (pc := 3) d_Fault_hasNoCycle_3 rfl ?_
  refine wp_ist2 (pc := 4) d_Fault_hasNoCycle_4 rfl ?_
  exact lp_Fa_nc hA hl 100 0 0 _ _ (by omega) rfl (by omega)
theorem lp_Fa_ow2 {M0 : zM} {K : Int} {u : Nat} (hu : u < 4096) (h0 : 0 ≤ Y.1 ∧ Y.1 ≤ 12) (hi : qYi Y) (hK0 : 0 ≤ K) (hK : K ≤ 66) (hp : qFp M0 Y Y.1.toNat (fun _ _ => True) K) : ∀ (n9 : Nat) (k : Nat) (j : Int) (M : zM) (w : zV), K - j < n9 → (j = k) → (j ≤ K) → (zSm (fun a => a = 171) M0 M) → (∀ f : Nat, f < 6 → M 171 f = ((qBm (pF M0 u f k) 6 : Nat) : Int)) → wp L 1 zm_Fault_hasOrderWithout 23 [rV 167, iV u, iV j, w] [] M (fun r M' => ∃ x, r = some (iV x) ∧ (x = qB (vOk Y u) ∧ zSm (fun a => a = 171) M0 M')) := by
  intro n9
  induction n9 with
  | zero =>
    intro k  j  M  w  h9 g1 g2 g3 g4
    exact absurd h9 (by omega)
  | succ n9 ih =>
    intro k  j  M  w  h9 g1 g2 g3 g4
    have e4 : M 167 4 = K := (g3 167 (by decide) 4).trans hp.1
    refine wp_iload_n (pc := 23) d_Fault_hasOrderWithout_23 rfl ?_
    refine wp_aload_n (pc := 24) d_Fault_hasOrderWithout_24 rfl ?_
    refine wp_getI (pc := 25) d_Fault_hasOrderWithout_25 rfl (by decide) (zk_167 L) ?_
    refine wp_icmp_ge (tgt := 82) (pc := 28) d_Fault_hasOrderWithout_28 rfl (fun c28 => ?_) (fun c28 => ?_)
    · refine wp_aload_n (pc := 82) d_Fault_hasOrderWithout_82 rfl ?_
      refine wp_callV0f (pc := 83) d_Fault_hasOrderWithout_83 rfl rfl (zk_167 L) rfl rfl (c_Fa_nc (A := vA Y (vOut u)) (fun f hf => by rw [g4 f hf, show k = K.toNat by omega, pF_all h0.1 hK0 hp]) (vA_lt Y _)) ?_
      refine wp_zreturn (pc := 86) d_Fault_hasOrderWithout_86 rfl (qB_in _) ?_
      exact ⟨_, rfl, rfl, g3⟩
    · obtain ⟨a, b, ha, hb, _, hlw, q1, q2, q3⟩ := hp.2.1 k (by omega)
      have ej : j.toNat = k := by omega
      have e168 : M 168 j.toNat = ((2 ^ a.toNat ||| 2 ^ b.toNat : Nat) : Int) := by rw [ej]; exact (g3 168 (by decide) k).trans q1
      have e169 : M 169 j.toNat = Y.2 a 1 := by rw [ej]; exact (g3 169 (by decide) k).trans q2
      have e170 : M 170 j.toNat = Y.2 b 1 := by rw [ej]; exact (g3 170 (by decide) k).trans q3
      have hfa := (hi.2.1 a ha.1 (by omega)).2.1
      have hfb := (hi.2.1 b hb.1 (by omega)).2.1
      have p1 : 2 ^ a.toNat ≤ 2 ^ 12 := Nat.pow_le_pow_right (by decide) (by omega)
      have p2 : 2 ^ b.toNat ≤ 2 ^ 12 := Nat.pow_le_pow_right (by decide) (by omega)
      have p3 : 2 ^ a.toNat ||| 2 ^ b.toNat < 2 ^ 13 := Nat.or_lt_two_pow (by omega) (by omega)
      have hsu : ∀ f g : Nat, pF M0 u f (k + 1) g = (pF M0 u f k g || decide ((2 ^ a.toNat ||| 2 ^ b.toNat) &&& u = 0 ∧ Y.2 a 1 = (f : Int) ∧ Y.2 b 1 = (g : Int))) := fun f g => by
        show (pF M0 u f k g || decide ((M0 168 k).toNat &&& u = 0 ∧ M0 169 k = (f : Int) ∧ M0 170 k = (g : Int))) = _
        rw [q1, q2, q3]
        rfl
      refine wp_aload_n (pc := 31) d_Fault_hasOrderWithout_31 rfl ?_
      refine wp_getR (pc := 32) d_Fault_hasOrderWithout_32 rfl (zk_167 L) zx_167_1 ?_
      refine wp_iload_n (pc := 35) d_Fault_hasOrderWithout_35 rfl ?_
      refine wp_iald (pc := 36) d_Fault_hasOrderWithout_36 (zk_169 L) (by omega) (by omega) ?_
      rw [e169]
      refine wp_ist3 (pc := 37) d_Fault_hasOrderWithout_37 rfl ?_
      refine wp_aload_n (pc := 38) d_Fault_hasOrderWithout_38 rfl ?_
      refine wp_getR (pc := 39) d_Fault_hasOrderWithout_39 rfl (zk_167 L) zx_167_0 ?_
      refine wp_iload_n (pc := 42) d_Fault_hasOrderWithout_42 rfl ?_
      refine wp_iald (pc := 43) d_Fault_hasOrderWithout_43 (zk_168 L) (by omega) (by omega) ?_
      rw [e168]
      refine wp_iload_n (pc := 44) d_Fault_hasOrderWithout_44 rfl ?_
      refine wp_iand (v := (((2 ^ a.toNat ||| 2 ^ b.toNat) &&& u : Nat) : Int)) (pc := 45) d_Fault_hasOrderWithout_45 (zn_and (by omega) (by omega)) ?_
      refine wp_if_ne (tgt := 76) (pc := 46) d_Fault_hasOrderWithout_46 rfl (fun c46 => ?_) (fun c46 => ?_)
      · refine wp_iinc2 (pc := 76) d_Fault_hasOrderWithout_76 rfl (by omega) (by omega) ?_
        refine wp_goto (tgt := 23) (pc := 79) d_Fault_hasOrderWithout_79 rfl ?_
        first
        | (refine ih (k + 1) (j + 1) M _ (by omega) (by omega) (by omega) g3 (fun f hf => ?_)
           rw [g4 f hf]
           congr 1
           refine qBm_congr (fun g hg => ?_)
           rw [hsu, decide_eq_false (fun z => by have := z.1; omega), Bool.or_false])
        | (refine ih (k + 1) (j + 1) _ _ (by omega) (by omega) (by omega) (g3.u rfl) (fun f hf => ?_)
           by_cases e : f = (Y.2 a 1).toNat
           · rw [← e, zU_eq]
             refine z_or1 (g4 f hf) hfb.1 hfb.2 (fun g hg => ?_)
             rw [hsu]
             congr 1
             rw [Bool.eq_iff_iff, decide_eq_true_iff, decide_eq_true_iff]
             exact ⟨fun z => z.2.2.symm, fun z => ⟨by omega, by omega, z.symm⟩⟩
           · rw [zU_nk e, g4 f hf]
             congr 1
             refine qBm_congr (fun g hg => ?_)
             rw [hsu, decide_eq_false (fun z => by have := z.2.1; omega), Bool.or_false])
      · refine wp_iload_n (pc := 49) d_Fault_hasOrderWithout_49 rfl ?_
        refine wp_if_lt (tgt := 76) (pc := 50) d_Fault_hasOrderWithout_50 rfl (fun c50 => ?_) (fun c50 => ?_)
        · exact absurd c50 (by omega)
        · refine wp_iload_n (pc := 53) d_Fault_hasOrderWithout_53 rfl ?_
          refine wp_bipush (pc := 54) d_Fault_hasOrderWithout_54 rfl ?_
          refine wp_icmp_ge (tgt := 76) (pc := 56) d_Fault_hasOrderWithout_56 rfl (fun c56 => ?_) (fun c56 => ?_)
          · exact absurd c56 (by omega)
          · refine wp_aload_n (pc := 59) d_Fault_hasOrderWithout_59 rfl ?_
            refine wp_getR (pc := 60) d_Fault_hasOrderWithout_60 rfl (zk_167 L) zx_167_3 ?_
            refine wp_iload_n (pc := 63) d_Fault_hasOrderWithout_63 rfl ?_
            refine wp_dup2 (pc := 64) d_Fault_hasOrderWithout_64 rfl rfl ?_
            refine wp_iald (pc := 65) d_Fault_hasOrderWithout_65 (zk_171 L) (by omega) (by omega) ?_
            refine wp_iconst (pc := 66) d_Fault_hasOrderWithout_66 rfl ?_
            refine wp_aload_n (pc := 67) d_Fault_hasOrderWithout_67 rfl ?_
            refine wp_getR (pc := 68) d_Fault_hasOrderWithout_68 rfl (zk_167 L) zx_167_2 ?_
            refine wp_iload_n (pc := 71) d_Fault_hasOrderWithout_71 rfl ?_
            refine wp_iald (pc := 72) d_Fault_hasOrderWithout_72 (zk_170 L) (by omega) (by omega) ?_
            rw [e170]
            refine wp_ishl (v := _) (pc := 73) d_Fault_hasOrderWithout_73 rfl ?_
            refine wp_ior (v := _) (pc := 74) d_Fault_hasOrderWithout_74 rfl ?_
            refine wp_iast (pc := 75) d_Fault_hasOrderWithout_75 (zk_171 L) (by decide) (by omega) (by omega) ?_
            refine wp_iinc2 (pc := 76) d_Fault_hasOrderWithout_76 rfl (by omega) (by omega) ?_
            refine wp_goto (tgt := 23) (pc := 79) d_Fault_hasOrderWithout_79 rfl ?_
            first
            | (refine ih (k + 1) (j + 1) M _ (by omega) (by omega) (by omega) g3 (fun f hf => ?_)
               rw [g4 f hf]
               congr 1
               refine qBm_congr (fun g hg => ?_)
               rw [hsu, decide_eq_false (fun z => by have := z.1; omega), Bool.or_false])
            | (refine ih (k + 1) (j + 1) _ _ (by omega) (by omega) (by omega) (g3.u rfl) (fun f hf => ?_)
               by_cases e : f = (Y.2 a 1).toNat
               · rw [← e, zU_eq]
                 refine z_or1 (g4 f hf) hfb.1 hfb.2 (fun g hg => ?_)
                 rw [hsu]
                 congr 1
                 rw [Bool.eq_iff_iff, decide_eq_true_iff, decide_eq_true_iff]
                 exact ⟨fun z => z.2.2.symm, fun z => ⟨by omega, by omega, z.symm⟩⟩
               · rw [zU_nk e, g4 f hf]
                 congr 1
                 refine qBm_congr (fun g hg => ?_)
                 rw [hsu, decide_eq_false (fun z => by have := z.2.1; omega), Bool.or_false])
theorem lp_Fa_ow1 {M0 : zM} {K : Int} {u : Nat} (hu : u < 4096) (h0 : 0 ≤ Y.1 ∧ Y.1 ≤ 12) (hi : qYi Y) (hK0 : 0 ≤ K) (hK : K ≤ 66) (hp : qFp M0 Y Y.1.toNat (fun _ _ => True) K) : ∀ (n9 : Nat) (k : Nat) (j : Int) (M : zM) (w : zV), 6 - j < n9 → (j = k) → (j ≤ 6) → (zSm (fun a => a = 171) M0 M) → (∀ f : Nat, f < k → M 171 f = 0) → wp L 1 zm_Fault_hasOrderWithout 2 [rV 167, iV u, iV j, w] [] M (fun r M' => ∃ x, r = some (iV x) ∧ (x = qB (vOk Y u) ∧ zSm (fun a => a = 171) M0 M')) := by
  intro n9
  induction n9 with
  | zero =>
    intro k  j  M  w  h9 g1 g2 g3 g4
    exact absurd h9 (by omega)
  | succ n9 ih =>
    intro k  j  M  w  h9 g1 g2 g3 g4
    refine wp_iload_n (pc := 2) d_Fault_hasOrderWithout_2 rfl ?_
    refine wp_bipush (pc := 3) d_Fault_hasOrderWithout_3 rfl ?_
    refine wp_icmp_ge (tgt := 21) (pc := 5) d_Fault_hasOrderWithout_5 rfl (fun c5 => ?_) (fun c5 => ?_)
    · refine wp_iconst (pc := 21) d_Fault_hasOrderWithout_21 rfl ?_
      refine wp_ist2 (pc := 22) d_Fault_hasOrderWithout_22 rfl ?_
      exact lp_Fa_ow2 (M0 := M0) hu h0 hi hK0 hK hp 100 0 0 M _ (by omega) rfl (by omega) g3 (fun f hf => by rw [g4 f (by omega)]; rfl)
    · refine wp_aload_n (pc := 8) d_Fault_hasOrderWithout_8 rfl ?_
      refine wp_getR (pc := 9) d_Fault_hasOrderWithout_9 rfl (zk_167 L) zx_167_3 ?_
      refine wp_iload_n (pc := 12) d_Fault_hasOrderWithout_12 rfl ?_
      refine wp_iconst (pc := 13) d_Fault_hasOrderWithout_13 rfl ?_
      refine wp_iast (pc := 14) d_Fault_hasOrderWithout_14 (zk_171 L) (by decide) (by omega) (by omega) ?_
      refine wp_iinc2 (pc := 15) d_Fault_hasOrderWithout_15 rfl (by omega) (by omega) ?_
      refine wp_goto (tgt := 2) (pc := 18) d_Fault_hasOrderWithout_18 rfl ?_
      refine ih (k + 1) (j + 1) _ _ (by omega) (by omega) (by omega) (g3.u rfl) (fun f hf => ?_)
      by_cases e : f = k
      · rw [e, show j.toNat = k by omega, zU_eq]
      · rw [zU_nk (by omega)]; exact g4 f (by omega)
theorem c_Fa_ow {K : Int} {u : Nat} (hu : u < 4096) (h0 : 0 ≤ Y.1 ∧ Y.1 ≤ 12) (hi : qYi Y) (hK0 : 0 ≤ K) (hK : K ≤ 66) (hp : qFp M Y Y.1.toNat (fun _ _ => True) K) : Ci L 1 zm_Fault_hasOrderWithout [rV 167, iV u] M (fun x M' => x = qB (vOk Y u) ∧ zSm (fun a => a = 171) M M') := by
  show wp L _ zm_Fault_hasOrderWithout 0 [rV 167, iV u, uV, uV] [] M _
  refine wp_iconst (pc := 0) d_Fault_hasOrderWithout_0 rfl ?_
  refine wp_ist2 (pc := 1) d_Fault_hasOrderWithout_1 rfl ?_
  exact lp_Fa_ow1 (M0 := M) hu h0 hi hK0 hK hp 100 0 0 M _ (by omega) rfl (by omega) zSm.rf (fun f hf => absurd hf (by omega))
theorem qFp.keep {S : Nat → Prop} {M M' : zM} {Y : qYt} {n : Nat} {P : Int → Int → Prop} {K : Int} (h : qFp M Y n P K) (hs : zSm S M M') (h1 : ¬ S 168 ∧ ¬ S 169 ∧ ¬ S 170) (h4 : M' 167 4 = M 167 4) : qFp M' Y n P K := by
  unfold qFp
  rw [h4]
  simp only [hs 168 h1.1, hs 169 h1.2.1, hs 170 h1.2.2]
  exact h
theorem lp_Fa_se {M0 : zM} {K : Int} (hi : qYi Y) (hK0 : 0 ≤ K) (hK : K ≤ 66) (hp : qFp M0 Y Y.1.toNat (fun _ _ => True) K) : ∀ (n9 : Nat) (k : Nat) (v : Int) (M : zM), 4096 - (k : Int) < n9 → (k ≤ 2 ^ Y.1.toNat) → (v = (vSe (vOk Y) Y.1 k).1) → (zSm (fun a => a = 167 ∨ a = 171) M0 M) → (∀ q, ¬ q = 5 → M 167 q = M0 167 q) → (v ≤ Y.1 → M 167 5 = (((vSe (vOk Y) Y.1 k).2 : Nat) : Int)) → wp L 2 zm_Fault_search 6 [rV 167, iV Y.1, iV v, iV k] [] M (fun r M' => r = none ∧ (zSm (fun a => a = 167 ∨ a = 171) M0 M' ∧ (∀ q, ¬ q = 5 → M' 167 q = M0 167 q) ∧ M' 167 5 = ((vFt Y : Nat) : Int))) := by
  intro n9
  induction n9 with
  | zero =>
    intro k  v  M  h9 g1 g2 g3 g4 g5
    have hn := hi.1
    have p1 : 2 ^ Y.1.toNat ≤ 2 ^ 12 := Nat.pow_le_pow_right (by decide) (by omega)
    exact absurd h9 (by omega)
  | succ n9 ih =>
    intro k  v  M  h9 g1 g2 g3 g4 g5
    have hn := hi.1
    have p1 : 2 ^ Y.1.toNat ≤ 2 ^ 12 := Nat.pow_le_pow_right (by decide) (by omega)
    have hb := vSe_b (vOk Y) hn.1 k
    have hpk := qPc_b k 24
    have hsu : vSe (vOk Y) Y.1 (k + 1) = if qPc k 24 < (vSe (vOk Y) Y.1 k).1 ∧ vOk Y k = true then (qPc k 24, k) else vSe (vOk Y) Y.1 k := rfl
    have hpm : qFp M Y Y.1.toNat (fun _ _ => True) K := hp.keep g3 (by omega) (g4 4 (by decide))
    have hend : ∀ q : Nat, k + q = 2 ^ Y.1.toNat → vSe (vOk Y) Y.1 (k + q) = vSe (vOk Y) Y.1 k → M 167 5 = ((vFt Y : Nat) : Int) := fun q e1 e2 => by
      have h9 := vSe_end hi
      rw [← e1, e2, ← g2] at h9
      unfold vFt
      rw [← e1, e2]
      exact g5 h9
    refine wp_iload_n (pc := 6) d_Fault_search_6 rfl ?_
    refine wp_iconst (pc := 7) d_Fault_search_7 rfl ?_
    refine wp_iload_n (pc := 8) d_Fault_search_8 rfl ?_
    refine wp_ishl (v := ((2 ^ Y.1.toNat : Nat) : Int)) (pc := 9) d_Fault_search_9 (by rw [show zI2 zShl 1 Y.1 = zI2 zShl 1 ((Y.1.toNat : Nat) : Int) by rw [show ((Y.1.toNat : Nat) : Int) = Y.1 by omega]]; exact zn_shl1 _ (by omega)) ?_
    refine wp_icmp_ge (tgt := 49) (pc := 10) d_Fault_search_10 rfl (fun c10 => ?_) (fun c10 => ?_)
    · refine wp_return_ (pc := 49) d_Fault_search_49 rfl ?_
      refine ⟨rfl, g3, g4, ?_⟩
      first
      | exact hend (2 ^ Y.1.toNat - k) (by omega) (vSe_0 _ (by omega) _)
      | exact hend 0 (by omega) rfl
    · refine wp_iload_n (pc := 13) d_Fault_search_13 rfl ?_
      refine wp_if_le (tgt := 49) (pc := 14) d_Fault_search_14 rfl (fun c14 => ?_) (fun c14 => ?_)
      · refine wp_return_ (pc := 49) d_Fault_search_49 rfl ?_
        refine ⟨rfl, g3, g4, ?_⟩
        first
        | exact hend (2 ^ Y.1.toNat - k) (by omega) (vSe_0 _ (by omega) _)
        | exact hend 0 (by omega) rfl
      · refine wp_iload_n (pc := 17) d_Fault_search_17 rfl ?_
        refine wp_callS1f (pc := 18) d_Fault_search_18 rfl rfl rfl rfl rfl (c_bitCount (x := k) (by omega)) ?_
        refine wp_iload_n (pc := 21) d_Fault_search_21 rfl ?_
        refine wp_icmp_ge (tgt := 43) (pc := 22) d_Fault_search_22 rfl (fun c22 => ?_) (fun c22 => ?_)
        · refine wp_iinc3 (pc := 43) d_Fault_search_43 rfl (by omega) (by omega) ?_
          refine wp_goto (tgt := 6) (pc := 46) d_Fault_search_46 rfl ?_
          first
          | (have ok := qB_1 c30
             refine ih (k + 1) _ _ (by omega) (by omega) (by rw [hsu, if_pos ⟨by omega, ok⟩]) ((g3.tr (y2.up (fun a ha => Or.inr ha))).u (Or.inl rfl)) (fun q hq => by rw [zU_nk hq, y2 167 (by decide)]; exact g4 q hq) (fun _ => ?_)
             rw [zU_eq, hsu, if_pos ⟨by omega, ok⟩])
          | (have ok := qB_0 c30
             refine ih (k + 1) v M27 (by omega) (by omega) (by rw [hsu, if_neg (fun z => by rw [ok] at z; exact absurd z.2 (by decide))]; exact g2) (g3.tr (y2.up (fun a ha => Or.inr ha))) (fun q hq => by rw [y2 167 (by decide)]; exact g4 q hq) (fun hv => ?_)
             rw [y2 167 (by decide), hsu, if_neg (fun z => by rw [ok] at z; exact absurd z.2 (by decide))]
             exact g5 hv)
          | (refine ih (k + 1) v M (by omega) (by omega) (by rw [hsu, if_neg (fun z => by have := z.1; omega)]; exact g2) g3 g4 (fun hv => ?_)
             rw [hsu, if_neg (fun z => by have := z.1; omega)]
             exact g5 hv)
        · refine wp_aload_n (pc := 25) d_Fault_search_25 rfl ?_
          refine wp_iload_n (pc := 26) d_Fault_search_26 rfl ?_
          refine wp_callV1i (pc := 27) d_Fault_search_27 rfl rfl (zk_167 L) rfl rfl (c_Fa_ow (Y := Y) (K := K) (u := k) (by omega) hn hi hK0 hK hpm) (fun x27 M27 h27 => ?_)
          obtain ⟨y1, y2⟩ := h27
          rw [y1]
          refine wp_if_eq (tgt := 43) (pc := 30) d_Fault_search_30 rfl (fun c30 => ?_) (fun c30 => ?_)
          · refine wp_iinc3 (pc := 43) d_Fault_search_43 rfl (by omega) (by omega) ?_
            refine wp_goto (tgt := 6) (pc := 46) d_Fault_search_46 rfl ?_
            first
            | (have ok := qB_1 c30
               refine ih (k + 1) _ _ (by omega) (by omega) (by rw [hsu, if_pos ⟨by omega, ok⟩]) ((g3.tr (y2.up (fun a ha => Or.inr ha))).u (Or.inl rfl)) (fun q hq => by rw [zU_nk hq, y2 167 (by decide)]; exact g4 q hq) (fun _ => ?_)
               rw [zU_eq, hsu, if_pos ⟨by omega, ok⟩])
            | (have ok := qB_0 c30
               refine ih (k + 1) v M27 (by omega) (by omega) (by rw [hsu, if_neg (fun z => by rw [ok] at z; exact absurd z.2 (by decide))]; exact g2) (g3.tr (y2.up (fun a ha => Or.inr ha))) (fun q hq => by rw [y2 167 (by decide)]; exact g4 q hq) (fun hv => ?_)
               rw [y2 167 (by decide), hsu, if_neg (fun z => by rw [ok] at z; exact absurd z.2 (by decide))]
               exact g5 hv)
            | (refine ih (k + 1) v M (by omega) (by omega) (by rw [hsu, if_neg (fun z => by have := z.1; omega)]; exact g2) g3 g4 (fun hv => ?_)
               rw [hsu, if_neg (fun z => by have := z.1; omega)]
               exact g5 hv)
          · refine wp_iload_n (pc := 33) d_Fault_search_33 rfl ?_
            refine wp_callS1f (pc := 34) d_Fault_search_34 rfl rfl rfl rfl rfl (c_bitCount (x := k) (by omega)) ?_
            refine wp_ist2 (pc := 37) d_Fault_search_37 rfl ?_
            refine wp_aload_n (pc := 38) d_Fault_search_38 rfl ?_
            refine wp_iload_n (pc := 39) d_Fault_search_39 rfl ?_
            refine wp_putI (pc := 40) d_Fault_search_40 rfl (zk_167 L) (by decide) ?_
            refine wp_iinc3 (pc := 43) d_Fault_search_43 rfl (by omega) (by omega) ?_
            refine wp_goto (tgt := 6) (pc := 46) d_Fault_search_46 rfl ?_
            first
            | (have ok := qB_1 c30
               refine ih (k + 1) _ _ (by omega) (by omega) (by rw [hsu, if_pos ⟨by omega, ok⟩]) ((g3.tr (y2.up (fun a ha => Or.inr ha))).u (Or.inl rfl)) (fun q hq => by rw [zU_nk hq, y2 167 (by decide)]; exact g4 q hq) (fun _ => ?_)
               rw [zU_eq, hsu, if_pos ⟨by omega, ok⟩])
            | (have ok := qB_0 c30
               refine ih (k + 1) v M27 (by omega) (by omega) (by rw [hsu, if_neg (fun z => by rw [ok] at z; exact absurd z.2 (by decide))]; exact g2) (g3.tr (y2.up (fun a ha => Or.inr ha))) (fun q hq => by rw [y2 167 (by decide)]; exact g4 q hq) (fun hv => ?_)
               rw [y2 167 (by decide), hsu, if_neg (fun z => by rw [ok] at z; exact absurd z.2 (by decide))]
               exact g5 hv)
            | (refine ih (k + 1) v M (by omega) (by omega) (by rw [hsu, if_neg (fun z => by have := z.1; omega)]; exact g2) g3 g4 (fun hv => ?_)
               rw [hsu, if_neg (fun z => by have := z.1; omega)]
               exact g5 hv)
theorem c_Fa_se {K : Int} (hi : qYi Y) (hK0 : 0 ≤ K) (hK : K ≤ 66) (hp : qFp M Y Y.1.toNat (fun _ _ => True) K) : wpc L 2 zm_Fault_search [rV 167, iV Y.1] M (fun r M' => r = none ∧ (zSm (fun a => a = 167 ∨ a = 171) M M' ∧ (∀ q, ¬ q = 5 → M' 167 q = M 167 q) ∧ M' 167 5 = ((vFt Y : Nat) : Int))) := by
  show wp L _ zm_Fault_search 0 [rV 167, iV Y.1, uV, uV] [] M _
  have hn := hi.1
  refine wp_iload_n (pc := 0) d_Fault_search_0 rfl ?_
  refine wp_iconst (pc := 1) d_Fault_search_1 rfl ?_
  refine wp_iadd (pc := 2) d_Fault_search_2 (by omega) (by omega) ?_
  refine wp_ist2 (pc := 3) d_Fault_search_3 rfl ?_
  refine wp_iconst (pc := 4) d_Fault_search_4 rfl ?_
  refine wp_ist3 (pc := 5) d_Fault_search_5 rfl ?_
  exact lp_Fa_se (M0 := M) hi hK0 hK hp 5000 0 _ M (by omega) (Nat.zero_le _) rfl zSm.rf (fun _ _ => rfl) (fun z => absurd z (by omega))
theorem c_Fa_set  : Cf L 0 zm_Fault_set [rV 167] M (iV (M 167 5)) M := by
  show wp L _ zm_Fault_set 0 [rV 167] [] M _
  refine wp_aload_n (pc := 0) d_Fault_set_0 rfl ?_
  refine wp_getI (pc := 1) d_Fault_set_1 rfl (by decide) (zk_167 L) ?_
  refine wp_ireturn (pc := 4) d_Fault_set_4 rfl ?_
  exact ⟨rfl, rfl⟩
theorem c_Fa_build (hY : qYC M = Y) (hi : qYi Y) (hc : M 167 6 = M 147 2 → M 167 5 = ((vFt Y : Nat) : Int)) : Cv L 3 zm_Fault_build [rV 167, rV 147] M (fun M' => zSm (fun a => 167 ≤ a ∧ a < 172) M M' ∧ M' 167 6 = M 147 2 ∧ M' 167 5 = ((vFt Y : Nat) : Int)) := by
  show wp L _ zm_Fault_build 0 [rV 167, rV 147] [] M _
  have hn := hi.1
  have en : M 147 1 = Y.1 := by rw [← hY]; rfl
  refine wp_aload_n (pc := 0) d_Fault_build_0 rfl ?_
  refine wp_getI (pc := 1) d_Fault_build_1 rfl (by decide) (zk_167 L) ?_
  refine wp_aload_n (pc := 4) d_Fault_build_4 rfl ?_
  refine wp_callV0f (pc := 5) d_Fault_build_5 rfl rfl (zk_147 L) rfl rfl c_Sg_changes ?_
  refine wp_icmp_ne (tgt := 12) (pc := 8) d_Fault_build_8 rfl (fun c8 => ?_) (fun c8 => ?_)
  · refine wp_aload_n (pc := 12) d_Fault_build_12 rfl ?_
    refine wp_aload_n (pc := 13) d_Fault_build_13 rfl ?_
    refine wp_callV0f (pc := 14) d_Fault_build_14 rfl rfl (zk_147 L) rfl rfl c_Sg_changes ?_
    refine wp_putI (pc := 17) d_Fault_build_17 rfl (zk_167 L) (by decide) ?_
    refine wp_aload_n (pc := 20) d_Fault_build_20 rfl ?_
    refine wp_aload_n (pc := 21) d_Fault_build_21 rfl ?_
    refine wp_callV1v (pc := 22) d_Fault_build_22 rfl rfl (zk_167 L) rfl rfl (Cv_of (c_Fa_fp (Y := Y) ((qYC_eq (M := M) (by omega) (zU_na (by decide)) (fun a a1 a2 k => zU_na (by omega))).trans hY) hi)) (fun M22 h22 => ?_)
    obtain ⟨w1, w2, w3⟩ := h22
    have e1 : M22 147 1 = Y.1 := (w1 147 (by omega) 1).trans ((zU_na (by decide)).trans en)
    refine wp_aload_n (pc := 25) d_Fault_build_25 rfl ?_
    refine wp_aload_n (pc := 26) d_Fault_build_26 rfl ?_
    refine wp_callV0f (pc := 27) d_Fault_build_27 rfl rfl (zk_147 L) rfl rfl c_Sg_size ?_
    rw [e1]
    refine wp_callV1v (pc := 30) d_Fault_build_30 rfl rfl (zk_167 L) rfl rfl (Cv_of (c_Fa_se (K := vPn Y Y.1.toNat Y.1.toNat) hi (vPn_0 Y _ _) (vPn_66 Y (by omega)) w3)) (fun M30 h30 => ?_)
    refine wp_return_ (pc := 33) d_Fault_build_33 rfl ?_
    obtain ⟨y1, y2, y3⟩ := h30
    refine ⟨rfl, ((zSm.rf.u (by omega)).tr (w1.up (fun a ha => by omega))).tr (y1.up (fun a ha => by omega)), ?_, y3⟩
    rw [y2 6 (by decide), w2 6 (by decide), zU_eq]
  · refine wp_return_ (pc := 11) d_Fault_build_11 rfl ?_
    exact ⟨rfl, zSm.rf, Decidable.of_not_not c8, hc (Decidable.of_not_not c8)⟩
end ZFa2
