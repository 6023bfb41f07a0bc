/-! StopPress.digest -/
section ZDg3
variable {L : Nat} {M : zM} {D : qDt} {Y : qYt} {x y z w c p s i j : Int}
theorem lp_dg2 {hb : Int64} : ∀ (n9 : Nat) (k : Nat) (hv : Int64) (p : Int), 6 - p < n9 → (p = k) → (p ≤ 6) → (hv = wF (fun w h => uX h (xCt (qDC M) (qYC M) (qPg M) (M 4 7) (M 4 8) w)) k hb) → wp L 12 zm_P_digest 82 [rV 4, lV hv, uV, iV p] [] M (fun r M' => r = some (lV (wF (fun w h => uX h (xCt (qDC M) (qYC M) (qPg M) (M 4 7) (M 4 8) w)) 6 hb)) ∧ M' = M) := by
  intro n9
  induction n9 with
  | zero =>
    intro k  hv  p  h9 g1 g2 g3
    exact absurd h9 (by omega)
  | succ n9 ih =>
    intro k  hv  p  h9 g1 g2 g3
    refine wp_iload_n (pc := 82) d_P_digest_82 rfl ?_
    refine wp_iconst (pc := 83) d_P_digest_83 rfl ?_
    refine wp_icmp_gt (tgt := 106) (pc := 84) d_P_digest_84 rfl (fun c84 => ?_) (fun c84 => ?_)
    · refine wp_lload_n (pc := 106) d_P_digest_106 rfl ?_
      refine wp_lreturn (pc := 107) d_P_digest_107 rfl ?_
      exact ⟨by rw [g3, show 6 = k by omega], rfl⟩
    · refine wp_ldc2_w (pc := 87) d_P_digest_87 rfl ?_
      refine wp_lload_n (pc := 90) d_P_digest_90 rfl ?_
      refine wp_lmul (pc := 91) d_P_digest_91 ?_
      refine wp_aload_n (pc := 92) d_P_digest_92 rfl ?_
      refine wp_iload_n (pc := 93) d_P_digest_93 rfl ?_
      refine wp_callV1f (pc := 94) d_P_digest_94 rfl rfl (zk_4 L) rfl rfl c_P_count ?_
      refine wp_i2l (pc := 97) d_P_digest_97 ?_
      refine wp_ladd (pc := 98) d_P_digest_98 ?_
      refine wp_lst1 (pc := 99) d_P_digest_99 rfl ?_
      refine wp_iinc3 (pc := 100) d_P_digest_100 rfl (by omega) (by omega) ?_
      refine wp_goto (tgt := 82) (pc := 103) d_P_digest_103 rfl ?_
      refine ih (k + 1) _ (p + 1) (by omega) (by omega) (by omega) ?_
      rw [wF_s, ← g3, ← g1]
      rfl
theorem lp_dg1 {hb : Int64} (hp : qPi M) : ∀ (n9 : Nat) (k : Nat) (hv : Int64) (p : Int), M 5 1 - p < n9 → (p = k) → (p ≤ M 5 1) → (hv = wF (fun i h => uX h ((qPg M).2 i)) k hb) → wp L 12 zm_P_digest 47 [rV 4, lV hv, uV, iV p] [] M (fun r M' => r = some (lV (wF (fun w h => uX h (xCt (qDC M) (qYC M) (qPg M) (M 4 7) (M 4 8) w)) 6 (wF (fun i h => uX h ((qPg M).2 i)) (qPg M).1.toNat hb))) ∧ M' = M) := by
  intro n9
  induction n9 with
  | zero =>
    intro k  hv  p  h9 g1 g2 g3
    exact absurd h9 (by omega)
  | succ n9 ih =>
    intro k  hv  p  h9 g1 g2 g3
    have hp1 := hp.1
    refine wp_iload_n (pc := 47) d_P_digest_47 rfl ?_
    refine wp_aload_n (pc := 48) d_P_digest_48 rfl ?_
    refine wp_getR (pc := 49) d_P_digest_49 rfl (zk_4 L) zx_4_0 ?_
    refine wp_callV0f (pc := 52) d_P_digest_52 rfl rfl (zk_5 L) rfl rfl (c_Text_size (zTx_5 L)) ?_
    refine wp_icmp_ge (tgt := 80) (pc := 55) d_P_digest_55 rfl (fun c55 => ?_) (fun c55 => ?_)
    · refine wp_iconst (pc := 80) d_P_digest_80 rfl ?_
      refine wp_ist3 (pc := 81) d_P_digest_81 rfl ?_
      have := lp_dg2 (L := L) (M := M) (hb := hv) 100 0 hv 0 (by omega) rfl (by omega) rfl
      have e : wF (fun i h => uX h ((qPg M).2 i)) (qPg M).1.toNat hb = hv := by rw [g3, show (qPg M).1.toNat = k by show (M 5 1).toNat = k; omega]
      rw [e]
      exact this
    · refine wp_ldc2_w (pc := 58) d_P_digest_58 rfl ?_
      refine wp_lload_n (pc := 61) d_P_digest_61 rfl ?_
      refine wp_lmul (pc := 62) d_P_digest_62 ?_
      refine wp_aload_n (pc := 63) d_P_digest_63 rfl ?_
      refine wp_getR (pc := 64) d_P_digest_64 rfl (zk_4 L) zx_4_0 ?_
      refine wp_iload_n (pc := 67) d_P_digest_67 rfl ?_
      refine wp_callV1f (pc := 68) d_P_digest_68 rfl rfl (zk_5 L) rfl rfl (c_Text_at (zTx_5 L) hp1.2) ?_
      rw [show (if 0 ≤ p ∧ p < M 5 1 then M (5 + 1) p.toNat else -1) = (qPg M).2 p from rfl]
      refine wp_i2l (pc := 71) d_P_digest_71 ?_
      refine wp_ladd (pc := 72) d_P_digest_72 ?_
      refine wp_lst1 (pc := 73) d_P_digest_73 rfl ?_
      refine wp_iinc3 (pc := 74) d_P_digest_74 rfl (by omega) (by omega) ?_
      refine wp_goto (tgt := 47) (pc := 77) d_P_digest_77 rfl ?_
      refine ih (k + 1) _ (p + 1) (by omega) (by omega) (by omega) ?_
      rw [wF_s, ← g3, ← g1]
      rfl
theorem c_P_digest (h : qIC M) (hS : qIS M) (hp : qPi M) : Cl L 12 zm_P_digest [rV 4] M (fun x M' => x = xDg (qDC M) (qYC M) (qPg M) (M 4 7) (M 4 8) ∧ zSm (fun a => a = 11 ∨ (24 ≤ a ∧ a < 147) ∨ (161 ≤ a ∧ a < 174)) M M' ∧ qIC M' ∧ qIS M' ∧ qDC M' = qDC M ∧ qYC M' = qYC M) := by
  show wp L _ zm_P_digest 0 [rV 4, uV, uV, uV] [] M _
  have hd := h.d
  have hpl := qDC_pl h.1
  refine wp_aload_n (pc := 0) d_P_digest_0 rfl ?_
  refine wp_getR (pc := 1) d_P_digest_1 rfl (zk_4 L) zx_4_2 ?_
  refine wp_aload_n (pc := 4) d_P_digest_4 rfl ?_
  refine wp_getR (pc := 5) d_P_digest_5 rfl (zk_4 L) zx_4_1 ?_
  refine wp_callV1v (pc := 8) d_P_digest_8 rfl rfl (zk_132 L) rfl rfl (c_Sm_buildI h) (fun M8 h8 => ?_)
  obtain ⟨z1, z2, z3, z4⟩ := h8
  refine wp_ldc2_w (pc := 11) d_P_digest_11 rfl ?_
  refine wp_lst1 (pc := 14) d_P_digest_14 rfl ?_
  refine wp_aload_n (pc := 15) d_P_digest_15 rfl ?_
  refine wp_lload_n (pc := 16) d_P_digest_16 rfl ?_
  refine wp_callV1l (pc := 17) d_P_digest_17 rfl rfl (zk_4 L) rfl rfl (c_P_hc z2 z4 z3) (fun x17 M17 h17 => ?_)
  obtain ⟨y1, y2, y3, y4, y5⟩ := h17
  rw [y1]
  refine wp_lst1 (pc := 20) d_P_digest_20 rfl ?_
  refine wp_aload_n (pc := 21) d_P_digest_21 rfl ?_
  refine wp_lload_n (pc := 22) d_P_digest_22 rfl ?_
  refine wp_callV1l (pc := 23) d_P_digest_23 rfl rfl (zk_4 L) rfl rfl (c_P_hp y3 y5 y4) (fun x23 M23 h23 => ?_)
  obtain ⟨w1, w2, w3, w4, w5⟩ := h23
  rw [w1]
  have hq := qBu_i (x := 0) w5 hd.1 hd.2.1 hpl.1 hpl.2.1
  have t1 : zSm (fun a => a = 11 ∨ (24 ≤ a ∧ a < 147)) M M23 := (z1.tr y2).tr w2
  have t2 := hS.keep t1 (fun a a1 a2 => by omega)
  refine wp_lst1 (pc := 26) d_P_digest_26 rfl ?_
  refine wp_aload_n (pc := 27) d_P_digest_27 rfl ?_
  refine wp_lload_n (pc := 28) d_P_digest_28 rfl ?_
  refine wp_callV1f (pc := 29) d_P_digest_29 rfl rfl (zk_4 L) rfl rfl (c_P_hs hq.1 hq.2.1 (fun s w s0 s1 => qBu_de w5 hd.1 hd.2.1 hpl.1 hpl.2.1 s0 s1) (fun w => qBu_da w5 hd.1 hd.2.1 hpl.1 hpl.2.1)) ?_
  refine wp_lst1 (pc := 32) d_P_digest_32 rfl ?_
  refine wp_aload_n (pc := 33) d_P_digest_33 rfl ?_
  refine wp_lload_n (pc := 34) d_P_digest_34 rfl ?_
  refine wp_callV1f (pc := 35) d_P_digest_35 rfl rfl (zk_4 L) rfl rfl (c_P_hg t2.1.1) ?_
  rw [t2.2]
  refine wp_lst1 (pc := 38) d_P_digest_38 rfl ?_
  refine wp_aload_n (pc := 39) d_P_digest_39 rfl ?_
  refine wp_lload_n (pc := 40) d_P_digest_40 rfl ?_
  refine wp_callV1l (pc := 41) d_P_digest_41 rfl rfl (zk_4 L) rfl rfl (c_P_hf t2.1 t2.2) (fun x41 M41 h41 => ?_)
  obtain ⟨v1, v2, v3, v4⟩ := h41
  refine wp_lst1 (pc := 44) d_P_digest_44 rfl ?_
  refine wp_iconst (pc := 45) d_P_digest_45 rfl ?_
  refine wp_ist3 (pc := 46) d_P_digest_46 rfl ?_
  have s1 : zSm (fun a => a = 11 ∨ (24 ≤ a ∧ a < 147) ∨ (161 ≤ a ∧ a < 174)) M M41 := (t1.up (fun a ha => by omega)).tr (v2.up (fun a ha => by omega))
  have e5 : M41 5 1 = M 5 1 := s1 5 (by omega) 1
  have e6 : ∀ k, M41 6 k = M 6 k := s1 6 (by omega)
  have eP : qPg M41 = qPg M := qPg_eq e5 e6
  have i1 := w3.keep v2 (fun a b1 b2 b3 b4 => by omega)
  have eD : qDC M41 = qDC M := i1.2.trans w4
  refine wp_mono (lp_dg1 (L := L) (M := M41) (hb := x41) (hp.keep e5 e6) 100 0 x41 0 (by rw [e5]; have := hp.1; omega) rfl (by rw [e5]; exact hp.1.1) rfl) (fun r M' hr => ?_)
  obtain ⟨r1, r2⟩ := hr
  subst r2
  refine ⟨_, r1, ?_, s1, i1.1, v3, eD, v4⟩
  unfold xDg
  rw [← v1, eP, eD, v4, s1 4 (by omega) 7, s1 4 (by omega) 8]
end ZDg3
