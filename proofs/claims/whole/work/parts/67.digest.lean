/-! StopPress: the digest -/
section ZDg2
variable {L : Nat} {M : zM} {D : qDt} {Y : qYt} {x y z w c p s i j : Int}
theorem lp_hp2 {h0 hb : Int64} {M0 : zM} (g4 : zSm (fun a => a = 11 ∨ (24 ≤ a ∧ a < 147)) M0 M ∧ qIC M ∧ qDC M = D ∧ qBu M D) (hK : qKm M x y) (x0 : 0 ≤ x) (x1 : x < D.2.2.2) (y0 : 0 ≤ y) (y1 : y < D.2.2.2) {Qx : Option zV → zM → Prop} (hq : ∀ (u7 u8 : zV), wp L 5 zm_P_hashPairs 23 [rV 4, lV h0, uV, lV (dTa D x y hb), uV, iV x, iV (y + 1), u7, u8] [] M Qx) : ∀ (n9 : Nat) (k : Nat) (hv : Int64) (p : Int), 7 - p < n9 → (p = k) → (p ≤ 7) → (hv = wF (fun w h => uX h (uTa D x y w)) k hb) → wp L 5 zm_P_hashPairs 51 [rV 4, lV h0, uV, lV hv, uV, iV x, iV y, rV (24 + 3 * (x * 6 + y).toNat), iV p] [] M (Qx) := by
  intro n9
  induction n9 with
  | zero =>
    intro k  hv  p  h9 g1 g2 g3
    exact absurd h9 (by omega)
  | succ n9 ih =>
    intro k  hv  p  h9 g1 g2 g3
    obtain ⟨q1, h, hD, hB⟩ := g4
    have hci := h.1
    obtain ⟨a1, a2, a3, a4, a5, a6⟩ := hci
    have hd := h.d
    have hpl := qDC_pl h.1
    rw [hD] at hd hpl
    have eN : D.2.2.2 = M 7 3 := by rw [← hD]; rfl
    refine wp_iload (pc := 51) d_P_hashPairs_51 rfl ?_
    refine wp_bipush (pc := 53) d_P_hashPairs_53 rfl ?_
    refine wp_icmp_ge (tgt := 79) (pc := 55) d_P_hashPairs_55 rfl (fun c55 => ?_) (fun c55 => ?_)
    · refine wp_iinc6 (pc := 79) d_P_hashPairs_79 rfl (by omega) (by omega) ?_
      refine wp_goto (tgt := 23) (pc := 82) d_P_hashPairs_82 rfl ?_
      have := hq (rV (24 + 3 * (x * 6 + y).toNat)) (iV p)
      unfold dTa at this
      rw [show 7 = k by omega, ← g3] at this
      exact this
    · refine wp_ldc2_w (pc := 58) d_P_hashPairs_58 rfl ?_
      refine wp_lload_n (pc := 61) d_P_hashPairs_61 rfl ?_
      refine wp_lmul (pc := 62) d_P_hashPairs_62 ?_
      refine wp_aload (pc := 63) d_P_hashPairs_63 rfl ?_
      refine wp_iload (pc := 65) d_P_hashPairs_65 rfl ?_
      refine wp_callV1f (pc := 67) d_P_hashPairs_67 rfl rfl (zAn_i L (x * 6 + y).toNat (by omega)).1 rfl rfl (c_An_tally (zAn_i L (x * 6 + y).toNat (by omega))) ?_
      rw [if_pos (by omega)]
      have ht := qKm_ta (w := p) hK x0 (by omega) y0 (by omega) (by omega) (by omega)
      rw [hD] at ht
      rw [ht]
      refine wp_i2l (pc := 70) d_P_hashPairs_70 ?_
      refine wp_ladd (pc := 71) d_P_hashPairs_71 ?_
      refine wp_lst3 (pc := 72) d_P_hashPairs_72 rfl ?_
      refine wp_iinc8 (pc := 73) d_P_hashPairs_73 rfl (by omega) (by omega) ?_
      refine wp_goto (tgt := 51) (pc := 76) d_P_hashPairs_76 rfl ?_
      refine ih (k + 1) _ (p + 1) (by omega) (by omega) (by omega) ?_
      rw [wF_s, ← g3, ← g1]
      rfl
theorem lp_hp1 {h0 hb : Int64} {M0 : zM} (x0 : 0 ≤ x) (x1 : x < D.2.2.2) (h6 : D.2.2.2 ≤ 6) {Qx : Option zV → zM → Prop} (hq : ∀ (M' : zM) (u6 u7 u8 : zV), (zSm (fun a => a = 11 ∨ (24 ≤ a ∧ a < 147)) M0 M' ∧ qIC M' ∧ qDC M' = D ∧ qBu M' D) → wp L 5 zm_P_hashPairs 5 [rV 4, lV h0, uV, lV (wF (fun j h => dTa D x (x + 1 + j) h) (D.2.2.2 - (x + 1)).toNat hb), uV, iV (x + 1), u6, u7, u8] [] M' Qx) : ∀ (n9 : Nat) (k : Nat) (hv : Int64) (y : Int) (M : zM) (u7 : zV) (u8 : zV), D.2.2.2 - y < n9 → (y = x + 1 + k) → (y ≤ D.2.2.2) → (hv = wF (fun j h => dTa D x (x + 1 + j) h) k hb) → (zSm (fun a => a = 11 ∨ (24 ≤ a ∧ a < 147)) M0 M ∧ qIC M ∧ qDC M = D ∧ qBu M D) → wp L 5 zm_P_hashPairs 23 [rV 4, lV h0, uV, lV hv, uV, iV x, iV y, u7, u8] [] M (Qx) := by
  intro n9
  induction n9 with
  | zero =>
    intro k  hv  y  M  u7  u8  h9 g1 g2 g3 g4
    exact absurd h9 (by omega)
  | succ n9 ih =>
    intro k  hv  y  M  u7  u8  h9 g1 g2 g3 g4
    obtain ⟨q1, h, hD, hB⟩ := g4
    have hci := h.1
    obtain ⟨a1, a2, a3, a4, a5, a6⟩ := hci
    have hd := h.d
    have hpl := qDC_pl h.1
    rw [hD] at hd hpl
    have eN : D.2.2.2 = M 7 3 := by rw [← hD]; rfl
    refine wp_iload (pc := 23) d_P_hashPairs_23 rfl ?_
    refine wp_aload_n (pc := 25) d_P_hashPairs_25 rfl ?_
    refine wp_getR (pc := 26) d_P_hashPairs_26 rfl (zk_4 L) zx_4_1 ?_
    refine wp_callV0f (pc := 29) d_P_hashPairs_29 rfl rfl (zk_7 L) rfl rfl c_Co_size ?_
    refine wp_icmp_ge (tgt := 85) (pc := 32) d_P_hashPairs_32 rfl (fun c32 => ?_) (fun c32 => ?_)
    · refine wp_iinc5 (pc := 85) d_P_hashPairs_85 rfl (by omega) (by omega) ?_
      refine wp_goto (tgt := 5) (pc := 88) d_P_hashPairs_88 rfl ?_
      have := hq M (iV y) u7 u8 ⟨q1, h, hD, hB⟩
      rw [show (D.2.2.2 - (x + 1)).toNat = k by omega, ← g3] at this
      exact this
    · refine wp_aload_n (pc := 35) d_P_hashPairs_35 rfl ?_
      refine wp_getR (pc := 36) d_P_hashPairs_36 rfl (zk_4 L) zx_4_1 ?_
      refine wp_iload (pc := 39) d_P_hashPairs_39 rfl ?_
      refine wp_iload (pc := 41) d_P_hashPairs_41 rfl ?_
      refine wp_callV2r (pc := 43) d_P_hashPairs_43 rfl rfl (zk_7 L) rfl rfl (c_Co_bestJ (x := x) (y := y) h (by omega) (by omega) (by omega) (by omega)) (fun M43 h43 => ?_)
      obtain ⟨p1, p2, p3, p4⟩ := h43
      have g4' : zSm (fun a => a = 11 ∨ (24 ≤ a ∧ a < 147)) M0 M43 ∧ qIC M43 ∧ qDC M43 = D ∧ qBu M43 D := ⟨q1.tr (p1.up (fun a ha => by omega)), p2, p3.trans hD, hB.keep hd.2.1 p1 (fun a b1 b2 => by omega)⟩
      refine wp_ast7 (pc := 46) d_P_hashPairs_46 rfl ?_
      refine wp_iconst (pc := 48) d_P_hashPairs_48 rfl ?_
      refine wp_ist8 (pc := 49) d_P_hashPairs_49 rfl ?_
      exact lp_hp2 (M0 := M0) (hb := hv) g4' p4 x0 x1 (by omega) (by omega) (fun v7 v8 => ih (k + 1) _ (y + 1) M43 v7 v8 (by omega) (by omega) (by omega) (by rw [wF_s, ← g3, ← g1]) g4') 100 0 hv 0 (by omega) rfl (by omega) rfl
theorem lp_hp {M0 : zM} {h0 : Int64} (h6 : D.2.2.2 ≤ 6) : ∀ (n9 : Nat) (k : Nat) (hv : Int64) (x : Int) (M : zM) (u6 : zV) (u7 : zV) (u8 : zV), 6 - x < n9 → (x = k) → (x ≤ D.2.2.2) → (hv = wF (fun x h => wF (fun j h => dTa D x (x + 1 + j) h) (D.2.2.2 - (x + 1)).toNat h) k h0) → (zSm (fun a => a = 11 ∨ (24 ≤ a ∧ a < 147)) M0 M ∧ qIC M ∧ qDC M = D ∧ qBu M D) → wp L 5 zm_P_hashPairs 5 [rV 4, lV h0, uV, lV hv, uV, iV x, u6, u7, u8] [] M (fun r M' => ∃ x, r = some (lV x) ∧ (x = dPairs D h0 ∧ (zSm (fun a => a = 11 ∨ (24 ≤ a ∧ a < 147)) M0 M' ∧ qIC M' ∧ qDC M' = D ∧ qBu M' D))) := by
  intro n9
  induction n9 with
  | zero =>
    intro k  hv  x  M  u6  u7  u8  h9 g1 g2 g3 g4
    exact absurd h9 (by omega)
  | succ n9 ih =>
    intro k  hv  x  M  u6  u7  u8  h9 g1 g2 g3 g4
    obtain ⟨q1, h, hD, hB⟩ := g4
    have hci := h.1
    obtain ⟨a1, a2, a3, a4, a5, a6⟩ := hci
    have hd := h.d
    have hpl := qDC_pl h.1
    rw [hD] at hd hpl
    have eN : D.2.2.2 = M 7 3 := by rw [← hD]; rfl
    refine wp_iload (pc := 5) d_P_hashPairs_5 rfl ?_
    refine wp_aload_n (pc := 7) d_P_hashPairs_7 rfl ?_
    refine wp_getR (pc := 8) d_P_hashPairs_8 rfl (zk_4 L) zx_4_1 ?_
    refine wp_callV0f (pc := 11) d_P_hashPairs_11 rfl rfl (zk_7 L) rfl rfl c_Co_size ?_
    refine wp_icmp_ge (tgt := 91) (pc := 14) d_P_hashPairs_14 rfl (fun c14 => ?_) (fun c14 => ?_)
    · refine wp_lload_n (pc := 91) d_P_hashPairs_91 rfl ?_
      refine wp_lreturn (pc := 92) d_P_hashPairs_92 rfl ?_
      exact ⟨_, rfl, by unfold dPairs; rw [g3, show D.2.2.2.toNat = k by omega], q1, h, hD, hB⟩
    · refine wp_iload (pc := 17) d_P_hashPairs_17 rfl ?_
      refine wp_iconst (pc := 19) d_P_hashPairs_19 rfl ?_
      refine wp_iadd (pc := 20) d_P_hashPairs_20 (by omega) (by omega) ?_
      refine wp_ist6 (pc := 21) d_P_hashPairs_21 rfl ?_
      exact lp_hp1 (M0 := M0) (by omega) (by omega) h6 (hb := hv) (fun M' v6 v7 v8 hh => ih (k + 1) _ (x + 1) M' v6 v7 v8 (by omega) (by omega) (by omega) (by rw [wF_s, ← g3, ← g1]) hh) 100 0 hv (x + 1) M u7 u8 (by omega) (by omega) (by omega) rfl ⟨q1, h, hD, hB⟩
theorem c_P_hp {h0 : Int64} (h : qIC M) (hB : qBu M D) (hD : qDC M = D) : Cl L 5 zm_P_hashPairs [rV 4, lV h0] M (fun x M' => x = dPairs D h0 ∧ (zSm (fun a => a = 11 ∨ (24 ≤ a ∧ a < 147)) M M' ∧ qIC M' ∧ qDC M' = D ∧ qBu M' D)) := by
  show wp L _ zm_P_hashPairs 0 [rV 4, lV h0, uV, uV, uV, uV, uV, uV, uV] [] M _
  have hd := h.d
  rw [hD] at hd
  refine wp_lload_n (pc := 0) d_P_hashPairs_0 rfl ?_
  refine wp_lst3 (pc := 1) d_P_hashPairs_1 rfl ?_
  refine wp_iconst (pc := 2) d_P_hashPairs_2 rfl ?_
  refine wp_ist5 (pc := 3) d_P_hashPairs_3 rfl ?_
  exact lp_hp (M0 := M) hd.2.1 100 0 h0 0 M _ _ _ (by omega) rfl hd.2.2 rfl ⟨zSm.rf, h, hD, hB⟩
theorem lp_hs2 {h0 : Int64} (hw : qWf M) (hn : M 132 8 = uN D) (hde : ∀ s w : Int, 0 ≤ s → s < uN D → qDe M s w = uDe D s w) {hb : Int64} (s0 : 0 ≤ s) (s1 : s < uN D) {Qx : Option zV → zM → Prop} (hq : ∀ u6 : zV, wp L 4 zm_P_hashStates 37 [rV 4, lV h0, uV, lV (dSt D s hb), uV, iV (s + 1), u6] [] M Qx) : ∀ (n9 : Nat) (k : Nat) (hv : Int64) (p : Int), 7 - p < n9 → (p = k) → (p ≤ 7) → (hv = wF (fun w h => uX h (uDe D s w)) k hb) → wp L 4 zm_P_hashStates 52 [rV 4, lV h0, uV, lV hv, uV, iV s, iV p] [] M (Qx) := by
  intro n9
  induction n9 with
  | zero =>
    intro k  hv  p  h9 g1 g2 g3
    exact absurd h9 (by omega)
  | succ n9 ih =>
    intro k  hv  p  h9 g1 g2 g3
    have hw1 := hw.1
    refine wp_iload (pc := 52) d_P_hashStates_52 rfl ?_
    refine wp_bipush (pc := 54) d_P_hashStates_54 rfl ?_
    refine wp_icmp_gt (tgt := 84) (pc := 56) d_P_hashStates_56 rfl (fun c56 => ?_) (fun c56 => ?_)
    · refine wp_iinc5 (pc := 84) d_P_hashStates_84 rfl (by omega) (by omega) ?_
      refine wp_goto (tgt := 37) (pc := 87) d_P_hashStates_87 rfl ?_
      have := hq (iV p)
      unfold dSt at this
      rw [show 7 = k by omega, ← g3] at this
      exact this
    · refine wp_ldc2_w (pc := 59) d_P_hashStates_59 rfl ?_
      refine wp_lload_n (pc := 62) d_P_hashStates_62 rfl ?_
      refine wp_lmul (pc := 63) d_P_hashStates_63 ?_
      refine wp_aload_n (pc := 64) d_P_hashStates_64 rfl ?_
      refine wp_getR (pc := 65) d_P_hashStates_65 rfl (zk_4 L) zx_4_2 ?_
      refine wp_iload (pc := 68) d_P_hashStates_68 rfl ?_
      refine wp_iload (pc := 70) d_P_hashStates_70 rfl ?_
      refine wp_callV2f (pc := 72) d_P_hashStates_72 rfl rfl (zk_132 L) rfl rfl (c_Sm_de hw s0 (by omega)) ?_
      rw [hde s p s0 s1]
      refine wp_i2l (pc := 75) d_P_hashStates_75 ?_
      refine wp_ladd (pc := 76) d_P_hashStates_76 ?_
      refine wp_lst3 (pc := 77) d_P_hashStates_77 rfl ?_
      refine wp_iinc6 (pc := 78) d_P_hashStates_78 rfl (by omega) (by omega) ?_
      refine wp_goto (tgt := 52) (pc := 81) d_P_hashStates_81 rfl ?_
      refine ih (k + 1) _ (p + 1) (by omega) (by omega) (by omega) ?_
      rw [wF_s, ← g3, ← g1]
      rfl
theorem lp_hs1 {h0 : Int64} (hw : qWf M) (hn : M 132 8 = uN D) (hde : ∀ s w : Int, 0 ≤ s → s < uN D → qDe M s w = uDe D s w) {hb : Int64} : ∀ (n9 : Nat) (k : Nat) (hv : Int64) (s : Int) (u6 : zV), uN D - s < n9 → (s = k) → (s ≤ uN D) → (hv = wF (fun s h => dSt D s h) k hb) → wp L 4 zm_P_hashStates 37 [rV 4, lV h0, uV, lV hv, uV, iV s, u6] [] M (fun r M' => r = some (lV (wF (fun s h => dSt D s h) (uN D).toNat hb)) ∧ M' = M) := by
  intro n9
  induction n9 with
  | zero =>
    intro k  hv  s  u6  h9 g1 g2 g3
    exact absurd h9 (by omega)
  | succ n9 ih =>
    intro k  hv  s  u6  h9 g1 g2 g3
    have hw1 := hw.1
    refine wp_iload (pc := 37) d_P_hashStates_37 rfl ?_
    refine wp_aload_n (pc := 39) d_P_hashStates_39 rfl ?_
    refine wp_getR (pc := 40) d_P_hashStates_40 rfl (zk_4 L) zx_4_2 ?_
    refine wp_callV0f (pc := 43) d_P_hashStates_43 rfl rfl (zk_132 L) rfl rfl c_Sm_size ?_
    rw [hn]
    refine wp_icmp_ge (tgt := 90) (pc := 46) d_P_hashStates_46 rfl (fun c46 => ?_) (fun c46 => ?_)
    · refine wp_lload_n (pc := 90) d_P_hashStates_90 rfl ?_
      refine wp_lreturn (pc := 91) d_P_hashStates_91 rfl ?_
      exact ⟨by rw [g3, show (uN D).toNat = k by omega], rfl⟩
    · refine wp_iconst (pc := 49) d_P_hashStates_49 rfl ?_
      refine wp_ist6 (pc := 50) d_P_hashStates_50 rfl ?_
      exact lp_hs2 hw hn hde (hb := hv) (by omega) (by omega) (fun u6 => ih (k + 1) _ (s + 1) u6 (by omega) (by omega) (by omega) (by rw [wF_s, ← g3, ← g1])) 100 0 hv 0 (by omega) rfl (by omega) rfl
theorem lp_hs {h0 : Int64} (hw : qWf M) (hn : M 132 8 = uN D) (hde : ∀ s w : Int, 0 ≤ s → s < uN D → qDe M s w = uDe D s w) (hda : ∀ w : Int, qDa M w = uDa D w) : ∀ (n9 : Nat) (k : Nat) (hv : Int64) (p : Int) (u6 : zV), 6 - p < n9 → (p = k) → (p ≤ 6) → (hv = wF (fun w h => uX h (uDa D w)) k h0) → wp L 4 zm_P_hashStates 5 [rV 4, lV h0, uV, lV hv, uV, iV p, u6] [] M (fun r M' => r = some (lV (dStates D h0)) ∧ M' = M) := by
  intro n9
  induction n9 with
  | zero =>
    intro k  hv  p  u6  h9 g1 g2 g3
    exact absurd h9 (by omega)
  | succ n9 ih =>
    intro k  hv  p  u6  h9 g1 g2 g3
    have hw1 := hw.1
    refine wp_iload (pc := 5) d_P_hashStates_5 rfl ?_
    refine wp_iconst (pc := 7) d_P_hashStates_7 rfl ?_
    refine wp_icmp_gt (tgt := 34) (pc := 8) d_P_hashStates_8 rfl (fun c8 => ?_) (fun c8 => ?_)
    · refine wp_iconst (pc := 34) d_P_hashStates_34 rfl ?_
      refine wp_ist5 (pc := 35) d_P_hashStates_35 rfl ?_
      have := lp_hs1 (L := L) (h0 := h0) hw hn hde (hb := hv) 100 0 hv 0 u6 (by omega) rfl (by omega) rfl
      unfold dStates
      rw [show 6 = k by omega, ← g3]
      exact this
    · refine wp_ldc2_w (pc := 11) d_P_hashStates_11 rfl ?_
      refine wp_lload_n (pc := 14) d_P_hashStates_14 rfl ?_
      refine wp_lmul (pc := 15) d_P_hashStates_15 ?_
      refine wp_aload_n (pc := 16) d_P_hashStates_16 rfl ?_
      refine wp_getR (pc := 17) d_P_hashStates_17 rfl (zk_4 L) zx_4_2 ?_
      refine wp_iload (pc := 20) d_P_hashStates_20 rfl ?_
      refine wp_callV1f (pc := 22) d_P_hashStates_22 rfl rfl (zk_132 L) rfl rfl (c_Sm_da hw) ?_
      rw [hda]
      refine wp_i2l (pc := 25) d_P_hashStates_25 ?_
      refine wp_ladd (pc := 26) d_P_hashStates_26 ?_
      refine wp_lst3 (pc := 27) d_P_hashStates_27 rfl ?_
      refine wp_iinc5 (pc := 28) d_P_hashStates_28 rfl (by omega) (by omega) ?_
      refine wp_goto (tgt := 5) (pc := 31) d_P_hashStates_31 rfl ?_
      refine ih (k + 1) _ (p + 1) _ (by omega) (by omega) (by omega) ?_
      rw [wF_s, ← g3, ← g1]
      rfl
theorem c_P_hs {h0 : Int64} (hw : qWf M) (hn : M 132 8 = uN D) (hde : ∀ s w : Int, 0 ≤ s → s < uN D → qDe M s w = uDe D s w) (hda : ∀ w : Int, qDa M w = uDa D w) : Cf L 4 zm_P_hashStates [rV 4, lV h0] M (lV (dStates D h0)) M := by
  show wp L _ zm_P_hashStates 0 [rV 4, lV h0, uV, uV, uV, uV, uV] [] M _
  refine wp_lload_n (pc := 0) d_P_hashStates_0 rfl ?_
  refine wp_lst3 (pc := 1) d_P_hashStates_1 rfl ?_
  refine wp_iconst (pc := 2) d_P_hashStates_2 rfl ?_
  refine wp_ist5 (pc := 3) d_P_hashStates_3 rfl ?_
  exact lp_hs hw hn hde hda 100 0 h0 0 _ (by omega) rfl (by omega) rfl
theorem lp_hg2 {h0 : Int64} (hi : qYi (qYC M)) {hb : Int64} (s0 : 0 ≤ s) (s1 : s < M 147 1) {Qx : Option zV → zM → Prop} (hq : ∀ u6 : zV, wp L 2 zm_P_hashSightings 5 [rV 4, lV h0, uV, lV (dSg (qYC M) s hb), uV, iV (s + 1), u6] [] M Qx) : ∀ (n9 : Nat) (k : Nat) (hv : Int64) (p : Int), 4 - p < n9 → (p = k) → (p ≤ 4) → (hv = wF (fun w h => uX h ((qYC M).2 s w)) k hb) → wp L 2 zm_P_hashSightings 20 [rV 4, lV h0, uV, lV hv, uV, iV s, iV p] [] M (Qx) := by
  intro n9
  induction n9 with
  | zero =>
    intro k  hv  p  h9 g1 g2 g3
    exact absurd h9 (by omega)
  | succ n9 ih =>
    intro k  hv  p  h9 g1 g2 g3
    have hl : 0 ≤ M 147 1 ∧ M 147 1 ≤ 12 := hi.1
    refine wp_iload (pc := 20) d_P_hashSightings_20 rfl ?_
    refine wp_iconst (pc := 22) d_P_hashSightings_22 rfl ?_
    refine wp_icmp_ge (tgt := 51) (pc := 23) d_P_hashSightings_23 rfl (fun c23 => ?_) (fun c23 => ?_)
    · refine wp_iinc5 (pc := 51) d_P_hashSightings_51 rfl (by omega) (by omega) ?_
      refine wp_goto (tgt := 5) (pc := 54) d_P_hashSightings_54 rfl ?_
      have := hq (iV p)
      have e9 : dSg (qYC M) s hb = hv := by unfold dSg; rw [g3, show 4 = k by omega]
      rw [e9] at this
      exact this
    · refine wp_ldc2_w (pc := 26) d_P_hashSightings_26 rfl ?_
      refine wp_lload_n (pc := 29) d_P_hashSightings_29 rfl ?_
      refine wp_lmul (pc := 30) d_P_hashSightings_30 ?_
      refine wp_aload_n (pc := 31) d_P_hashSightings_31 rfl ?_
      refine wp_getR (pc := 32) d_P_hashSightings_32 rfl (zk_4 L) zx_4_3 ?_
      refine wp_iload (pc := 35) d_P_hashSightings_35 rfl ?_
      refine wp_iload (pc := 37) d_P_hashSightings_37 rfl ?_
      refine wp_callV2f (pc := 39) d_P_hashSightings_39 rfl rfl (zk_147 L) rfl rfl (c_Sg_getY hl.2) ?_
      refine wp_i2l (pc := 42) d_P_hashSightings_42 ?_
      refine wp_ladd (pc := 43) d_P_hashSightings_43 ?_
      refine wp_lst3 (pc := 44) d_P_hashSightings_44 rfl ?_
      refine wp_iinc6 (pc := 45) d_P_hashSightings_45 rfl (by omega) (by omega) ?_
      refine wp_goto (tgt := 20) (pc := 48) d_P_hashSightings_48 rfl ?_
      refine ih (k + 1) _ (p + 1) (by omega) (by omega) (by omega) ?_
      rw [wF_s, ← g3, ← g1]
      rfl
theorem lp_hg {h0 : Int64} (hi : qYi (qYC M)) : ∀ (n9 : Nat) (k : Nat) (hv : Int64) (s : Int) (u6 : zV), M 147 1 - s < n9 → (s = k) → (s ≤ M 147 1) → (hv = wF (fun i h => dSg (qYC M) i h) k h0) → wp L 2 zm_P_hashSightings 5 [rV 4, lV h0, uV, lV hv, uV, iV s, u6] [] M (fun r M' => r = some (lV (dSight (qYC M) h0)) ∧ M' = M) := by
  intro n9
  induction n9 with
  | zero =>
    intro k  hv  s  u6  h9 g1 g2 g3
    exact absurd h9 (by omega)
  | succ n9 ih =>
    intro k  hv  s  u6  h9 g1 g2 g3
    have hl : 0 ≤ M 147 1 ∧ M 147 1 ≤ 12 := hi.1
    refine wp_iload (pc := 5) d_P_hashSightings_5 rfl ?_
    refine wp_aload_n (pc := 7) d_P_hashSightings_7 rfl ?_
    refine wp_getR (pc := 8) d_P_hashSightings_8 rfl (zk_4 L) zx_4_3 ?_
    refine wp_callV0f (pc := 11) d_P_hashSightings_11 rfl rfl (zk_147 L) rfl rfl c_Sg_size ?_
    refine wp_icmp_ge (tgt := 57) (pc := 14) d_P_hashSightings_14 rfl (fun c14 => ?_) (fun c14 => ?_)
    · refine wp_lload_n (pc := 57) d_P_hashSightings_57 rfl ?_
      refine wp_lreturn (pc := 58) d_P_hashSightings_58 rfl ?_
      exact ⟨by unfold dSight; rw [g3, show (qYC M).1.toNat = k by show (M 147 1).toNat = k; omega], rfl⟩
    · refine wp_iconst (pc := 17) d_P_hashSightings_17 rfl ?_
      refine wp_ist6 (pc := 18) d_P_hashSightings_18 rfl ?_
      exact lp_hg2 hi (hb := hv) (by omega) (by omega) (fun u6 => ih (k + 1) _ (s + 1) u6 (by omega) (by omega) (by omega) (by rw [wF_s, ← g3, ← g1])) 100 0 hv 0 (by omega) rfl (by omega) rfl
theorem c_P_hg {h0 : Int64} (hi : qYi (qYC M)) : Cf L 2 zm_P_hashSightings [rV 4, lV h0] M (lV (dSight (qYC M) h0)) M := by
  show wp L _ zm_P_hashSightings 0 [rV 4, lV h0, uV, uV, uV, uV, uV] [] M _
  refine wp_lload_n (pc := 0) d_P_hashSightings_0 rfl ?_
  refine wp_lst3 (pc := 1) d_P_hashSightings_1 rfl ?_
  refine wp_iconst (pc := 2) d_P_hashSightings_2 rfl ?_
  refine wp_ist5 (pc := 3) d_P_hashSightings_3 rfl ?_
  exact lp_hg hi 100 0 h0 0 _ (by have hz : M 147 1 ≤ 12 := hi.1.2; omega) rfl hi.1.1 rfl
theorem lp_hf3 {h0 hb : Int64} {M0 : zM} (g4 : zSm (fun a => 161 ≤ a ∧ a < 174) M0 M ∧ qIS M ∧ qYC M = Y) (hb9 : qBc M Y) : ∀ (n9 : Nat) (k : Nat) (hv : Int64) (p : Int) (u6 : zV), 6 - p < n9 → (p = k) → (p ≤ vOl Y) → (hv = wF (fun p h => uX h (vFi Y p)) k hb) → wp L 11 zm_P_hashFormes 81 [rV 4, lV h0, uV, lV hv, uV, iV p, u6] [] M (fun r M' => ∃ x, r = some (lV x) ∧ (x = wF (fun p h => uX h (vFi Y p)) (vOl Y).toNat hb ∧ (zSm (fun a => 161 ≤ a ∧ a < 174) M0 M' ∧ qIS M' ∧ qYC M' = Y))) := by
  intro n9
  induction n9 with
  | zero =>
    intro k  hv  p  u6  h9 g1 g2 g3
    have hol := vOl_b Y
    exact absurd h9 (by omega)
  | succ n9 ih =>
    intro k  hv  p  u6  h9 g1 g2 g3
    have hol := vOl_b Y
    refine wp_iload (pc := 81) d_P_hashFormes_81 rfl ?_
    refine wp_aload_n (pc := 83) d_P_hashFormes_83 rfl ?_
    refine wp_getR (pc := 84) d_P_hashFormes_84 rfl (zk_4 L) zx_4_4 ?_
    refine wp_callV0f (pc := 87) d_P_hashFormes_87 rfl rfl (zk_161 L) rfl rfl (c_Ch_ol hb9) ?_
    refine wp_icmp_ge (tgt := 116) (pc := 90) d_P_hashFormes_90 rfl (fun c90 => ?_) (fun c90 => ?_)
    · refine wp_lload_n (pc := 116) d_P_hashFormes_116 rfl ?_
      refine wp_lreturn (pc := 117) d_P_hashFormes_117 rfl ?_
      exact ⟨_, rfl, by rw [g3, show (vOl Y).toNat = k by omega], g4⟩
    · refine wp_ldc2_w (pc := 93) d_P_hashFormes_93 rfl ?_
      refine wp_lload_n (pc := 96) d_P_hashFormes_96 rfl ?_
      refine wp_lmul (pc := 97) d_P_hashFormes_97 ?_
      refine wp_aload_n (pc := 98) d_P_hashFormes_98 rfl ?_
      refine wp_getR (pc := 99) d_P_hashFormes_99 rfl (zk_4 L) zx_4_4 ?_
      refine wp_iload (pc := 102) d_P_hashFormes_102 rfl ?_
      refine wp_callV1f (pc := 104) d_P_hashFormes_104 rfl rfl (zk_161 L) rfl rfl (c_Ch_fa hb9) ?_
      rw [show vFa Y p = vFi Y p from if_pos (by omega)]
      refine wp_i2l (pc := 107) d_P_hashFormes_107 ?_
      refine wp_ladd (pc := 108) d_P_hashFormes_108 ?_
      refine wp_lst3 (pc := 109) d_P_hashFormes_109 rfl ?_
      refine wp_iinc5 (pc := 110) d_P_hashFormes_110 rfl (by omega) (by omega) ?_
      refine wp_goto (tgt := 81) (pc := 113) d_P_hashFormes_113 rfl ?_
      refine ih (k + 1) _ (p + 1) _ (by omega) (by omega) (by omega) ?_
      rw [wF_s, ← g3, ← g1]
      rfl
theorem lp_hf2 {h0 hb : Int64} {M0 : zM} : ∀ (n9 : Nat) (k : Nat) (hv : Int64) (p : Int) (M : zM) (u6 : zV), 6 - p < n9 → (p = k) → (p ≤ 6) → (hv = wF (fun w h => uX h (vFs Y w)) k hb) → (zSm (fun a => 161 ≤ a ∧ a < 174) M0 M ∧ qIS M ∧ qYC M = Y) → (0 < k → qBc M Y) → wp L 11 zm_P_hashFormes 52 [rV 4, lV h0, uV, lV hv, uV, iV p, u6] [] M (fun r M' => ∃ x, r = some (lV x) ∧ (x = wF (fun p h => uX h (vFi Y p)) (vOl Y).toNat (wF (fun w h => uX h (vFs Y w)) 6 hb) ∧ (zSm (fun a => 161 ≤ a ∧ a < 174) M0 M' ∧ qIS M' ∧ qYC M' = Y))) := by
  intro n9
  induction n9 with
  | zero =>
    intro k  hv  p  M  u6  h9 g1 g2 g3 g4 g5
    exact absurd h9 (by omega)
  | succ n9 ih =>
    intro k  hv  p  M  u6  h9 g1 g2 g3 g4 g5
    refine wp_iload (pc := 52) d_P_hashFormes_52 rfl ?_
    refine wp_iconst (pc := 54) d_P_hashFormes_54 rfl ?_
    refine wp_icmp_gt (tgt := 78) (pc := 55) d_P_hashFormes_55 rfl (fun c55 => ?_) (fun c55 => ?_)
    · refine wp_iconst (pc := 78) d_P_hashFormes_78 rfl ?_
      refine wp_ist5 (pc := 79) d_P_hashFormes_79 rfl ?_
      have := lp_hf3 (L := L) (h0 := h0) (M0 := M0) (hb := hv) g4 (g5 (by omega)) 100 0 hv 0 u6 (by omega) rfl (vOl_b Y).1 rfl
      rw [show 6 = k by omega, ← g3]
      exact this
    · refine wp_ldc2_w (pc := 58) d_P_hashFormes_58 rfl ?_
      refine wp_lload_n (pc := 61) d_P_hashFormes_61 rfl ?_
      refine wp_lmul (pc := 62) d_P_hashFormes_62 ?_
      refine wp_aload_n (pc := 63) d_P_hashFormes_63 rfl ?_
      refine wp_iload (pc := 64) d_P_hashFormes_64 rfl ?_
      refine wp_callV1i (pc := 66) d_P_hashFormes_66 rfl rfl (zk_4 L) rfl rfl (c_P_dfs g4.2.1) (fun x66 M66 h66 => ?_)
      obtain ⟨y1, y2, y3, y4, y5⟩ := h66
      rw [g4.2.2] at y1 y4 y5
      rw [y1]
      refine wp_i2l (pc := 69) d_P_hashFormes_69 ?_
      refine wp_ladd (pc := 70) d_P_hashFormes_70 ?_
      refine wp_lst3 (pc := 71) d_P_hashFormes_71 rfl ?_
      refine wp_iinc5 (pc := 72) d_P_hashFormes_72 rfl (by omega) (by omega) ?_
      refine wp_goto (tgt := 52) (pc := 75) d_P_hashFormes_75 rfl ?_
      refine ih (k + 1) _ (p + 1) M66 _ (by omega) (by omega) (by omega) ?_ ⟨g4.1.tr y2, y3, y4⟩ (fun _ => y5)
      rw [wF_s, ← g3, ← g1]
      rfl
theorem lp_hf1 {h0 hb : Int64} {M0 : zM} (s0 : 0 ≤ s) (s1 : s < 6) {Qx : Option zV → zM → Prop} (hq : ∀ (M' : zM) (u6 : zV), (zSm (fun a => 161 ≤ a ∧ a < 174) M0 M' ∧ qIS M' ∧ qYC M' = Y) → wp L 11 zm_P_hashFormes 5 [rV 4, lV h0, uV, lV (dFm Y s hb), uV, iV (s + 1), u6] [] M' Qx) : ∀ (n9 : Nat) (k : Nat) (hv : Int64) (p : Int) (M : zM), 5 - p < n9 → (p = k) → (p ≤ 5) → (hv = wF (fun w h => uX h (vFm Y s w)) k hb) → (zSm (fun a => 161 ≤ a ∧ a < 174) M0 M ∧ qIS M ∧ qYC M = Y) → wp L 11 zm_P_hashFormes 15 [rV 4, lV h0, uV, lV hv, uV, iV s, iV p] [] M (Qx) := by
  intro n9
  induction n9 with
  | zero =>
    intro k  hv  p  M  h9 g1 g2 g3 g4
    exact absurd h9 (by omega)
  | succ n9 ih =>
    intro k  hv  p  M  h9 g1 g2 g3 g4
    refine wp_iload (pc := 15) d_P_hashFormes_15 rfl ?_
    refine wp_iconst (pc := 17) d_P_hashFormes_17 rfl ?_
    refine wp_icmp_gt (tgt := 43) (pc := 18) d_P_hashFormes_18 rfl (fun c18 => ?_) (fun c18 => ?_)
    · refine wp_iinc5 (pc := 43) d_P_hashFormes_43 rfl (by omega) (by omega) ?_
      refine wp_goto (tgt := 5) (pc := 46) d_P_hashFormes_46 rfl ?_
      have := hq M (iV p) g4
      have e9 : dFm Y s hb = hv := by unfold dFm; rw [g3, show 5 = k by omega]
      rw [e9] at this
      exact this
    · refine wp_ldc2_w (pc := 21) d_P_hashFormes_21 rfl ?_
      refine wp_lload_n (pc := 24) d_P_hashFormes_24 rfl ?_
      refine wp_lmul (pc := 25) d_P_hashFormes_25 ?_
      refine wp_aload_n (pc := 26) d_P_hashFormes_26 rfl ?_
      refine wp_iload (pc := 27) d_P_hashFormes_27 rfl ?_
      refine wp_iload (pc := 29) d_P_hashFormes_29 rfl ?_
      refine wp_callV2i (pc := 31) d_P_hashFormes_31 rfl rfl (zk_4 L) rfl rfl (c_P_dfm g4.2.1 s0 s1) (fun x31 M31 h31 => ?_)
      obtain ⟨y1, y2, y3, y4⟩ := h31
      rw [g4.2.2] at y1 y4
      rw [y1]
      refine wp_i2l (pc := 34) d_P_hashFormes_34 ?_
      refine wp_ladd (pc := 35) d_P_hashFormes_35 ?_
      refine wp_lst3 (pc := 36) d_P_hashFormes_36 rfl ?_
      refine wp_iinc6 (pc := 37) d_P_hashFormes_37 rfl (by omega) (by omega) ?_
      refine wp_goto (tgt := 15) (pc := 40) d_P_hashFormes_40 rfl ?_
      refine ih (k + 1) _ (p + 1) M31 (by omega) (by omega) (by omega) ?_ ⟨g4.1.tr y2, y3, y4⟩
      rw [wF_s, ← g3, ← g1]
      rfl
theorem lp_hf {h0 : Int64} {M0 : zM} : ∀ (n9 : Nat) (k : Nat) (hv : Int64) (s : Int) (M : zM) (u6 : zV), 6 - s < n9 → (s = k) → (s ≤ 6) → (hv = wF (fun f h => dFm Y f h) k h0) → (zSm (fun a => 161 ≤ a ∧ a < 174) M0 M ∧ qIS M ∧ qYC M = Y) → wp L 11 zm_P_hashFormes 5 [rV 4, lV h0, uV, lV hv, uV, iV s, u6] [] M (fun r M' => ∃ x, r = some (lV x) ∧ (x = dFormes Y h0 ∧ (zSm (fun a => 161 ≤ a ∧ a < 174) M0 M' ∧ qIS M' ∧ qYC M' = Y))) := by
  intro n9
  induction n9 with
  | zero =>
    intro k  hv  s  M  u6  h9 g1 g2 g3 g4
    exact absurd h9 (by omega)
  | succ n9 ih =>
    intro k  hv  s  M  u6  h9 g1 g2 g3 g4
    refine wp_iload (pc := 5) d_P_hashFormes_5 rfl ?_
    refine wp_bipush (pc := 7) d_P_hashFormes_7 rfl ?_
    refine wp_icmp_ge (tgt := 49) (pc := 9) d_P_hashFormes_9 rfl (fun c9 => ?_) (fun c9 => ?_)
    · refine wp_iconst (pc := 49) d_P_hashFormes_49 rfl ?_
      refine wp_ist5 (pc := 50) d_P_hashFormes_50 rfl ?_
      have := lp_hf2 (L := L) (h0 := h0) (Y := Y) (M0 := M0) (hb := hv) 100 0 hv 0 M u6 (by omega) rfl (by omega) rfl g4 (fun z => absurd z (by omega))
      unfold dFormes
      have e : wF (fun f h => dFm Y f h) 6 h0 = hv := by rw [g3, show 6 = k by omega]
      rw [e]
      exact this
    · refine wp_iconst (pc := 12) d_P_hashFormes_12 rfl ?_
      refine wp_ist6 (pc := 13) d_P_hashFormes_13 rfl ?_
      exact lp_hf1 (M0 := M0) (hb := hv) (by omega) (by omega) (fun M' u6 hh => ih (k + 1) _ (s + 1) M' u6 (by omega) (by omega) (by omega) (by rw [wF_s, ← g3, ← g1]) hh) 100 0 hv 0 M (by omega) rfl (by omega) rfl g4
theorem c_P_hf {h0 : Int64} (h : qIS M) (hY : qYC M = Y) : Cl L 11 zm_P_hashFormes [rV 4, lV h0] M (fun x M' => x = dFormes Y h0 ∧ (zSm (fun a => 161 ≤ a ∧ a < 174) M M' ∧ qIS M' ∧ qYC M' = Y)) := by
  show wp L _ zm_P_hashFormes 0 [rV 4, lV h0, uV, uV, uV, uV, uV] [] M _
  refine wp_lload_n (pc := 0) d_P_hashFormes_0 rfl ?_
  refine wp_lst3 (pc := 1) d_P_hashFormes_1 rfl ?_
  refine wp_iconst (pc := 2) d_P_hashFormes_2 rfl ?_
  refine wp_ist5 (pc := 3) d_P_hashFormes_3 rfl ?_
  exact lp_hf (M0 := M) 100 0 h0 0 M _ (by omega) rfl (by omega) rfl ⟨zSm.rf, h, hY⟩
end ZDg2
