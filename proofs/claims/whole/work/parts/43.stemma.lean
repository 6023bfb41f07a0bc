/-! Stemma, on: joinNearest, connect, read -/
section ZSt4
variable {L t r : Nat} {M : zM} {i j x y : Int}
/-- distances and order, as the memory has them -/
def qDs (M : zM) (u v : Int) : Int := if (0 ≤ u ∧ u < M 132 8) ∧ 0 ≤ v ∧ v < M 132 8 then qDf M (M 141 u.toNat) (M 141 v.toNat) else 0
def qJo (M : zM) (s : Int) : Int := M 145 s.toNat
theorem c_Sm_ds (h0 : 0 ≤ M 132 9) (hp : M 132 9 ≤ 24) (hs6 : M 132 8 ≤ 6) : Cf L 2 zm_Stemma_distance [rV 132, iV x, iV y] M (iV (qDs M x y)) M := c_Sm_dist h0 hp hs6
theorem lp_Sm_jn1 (h8 : 0 ≤ M 132 8) (hs6 : M 132 8 ≤ 6) (h0 : 0 ≤ M 132 9) (hp : M 132 9 ≤ 24) {Qx : Option zV → zM → Prop} {s0 : Int × Int × Int} {u : Int} (hu : 0 ≤ u ∧ u < M 132 8) (hq : ∀ w : Int × Int × Int, ∀ v9 : Int, w = qSv (qJo M) (qDs M) u (M 132 8).toNat s0 → wp L 3 zm_Stemma_joinNearest 11 [rV 132, iV x, iV w.1, iV w.2.1, iV w.2.2, iV (u + 1), iV v9] [] M Qx) : ∀ (n9 : Nat) (k : Nat) (v : Int) (w : Int × Int × Int), M 132 8 - v < n9 → v = k → v ≤ M 132 8 → w = qSv (qJo M) (qDs M) u k s0 → wp L 3 zm_Stemma_joinNearest 23 [rV 132, iV x, iV w.1, iV w.2.1, iV w.2.2, iV u, iV v] [] M (Qx) := by
  intro n9
  induction n9 with
  | zero =>
    intro k  v  w  h9 g1 g2 g3
    exact absurd h9 (by omega)
  | succ n9 ih =>
    intro k  v  w  h9 g1 g2 g3
    refine wp_iload (pc := 23) d_Stemma_joinNearest_23 rfl ?_
    refine wp_aload_n (pc := 25) d_Stemma_joinNearest_25 rfl ?_
    refine wp_getI (pc := 26) d_Stemma_joinNearest_26 rfl (by decide) (zk_132 L) ?_
    refine wp_icmp_ge (tgt := 88) (pc := 29) d_Stemma_joinNearest_29 rfl (fun c29 => ?_) (fun c29 => ?_)
    · refine wp_iinc5 (pc := 88) d_Stemma_joinNearest_88 rfl (by omega) (by omega) ?_
      refine wp_goto (tgt := 11) (pc := 91) d_Stemma_joinNearest_91 rfl ?_
      exact hq w _ (by rw [g3, show (M 132 8).toNat = k by omega])
    · refine wp_aload_n (pc := 32) d_Stemma_joinNearest_32 rfl ?_
      refine wp_getR (pc := 33) d_Stemma_joinNearest_33 rfl (zk_132 L) zx_132_6 ?_
      refine wp_iload (pc := 36) d_Stemma_joinNearest_36 rfl ?_
      refine wp_iald (pc := 38) d_Stemma_joinNearest_38 (zk_145 L) (by omega) (by omega) ?_
      refine wp_iconst (pc := 39) d_Stemma_joinNearest_39 rfl ?_
      refine wp_icmp_eq (tgt := 82) (pc := 40) d_Stemma_joinNearest_40 rfl (fun c40 => ?_) (fun c40 => ?_)
      · refine wp_iinc6 (pc := 82) d_Stemma_joinNearest_82 rfl (by omega) (by omega) ?_
        refine wp_goto (tgt := 23) (pc := 85) d_Stemma_joinNearest_85 rfl ?_
        first
        | (refine ih (k + 1) (v + 1) (qDs M u v, u, v) (by omega) (by omega) (by omega) ?_
           simp only [qSv]
           rw [if_pos ⟨c40, by rw [← g1]; exact Decidable.of_not_not c51, by rw [← g3, ← g1]; omega⟩, ← g1])
        | (refine ih (k + 1) (v + 1) w (by omega) (by omega) (by omega) ?_
           simp only [qSv]
           rw [if_neg (by
             rw [← g3, ← g1]
             intro z
             first | exact z.1 c40 | exact c51 z.2.1 | exact absurd z.2.2 (by omega))]
           exact g3)
      · refine wp_aload_n (pc := 43) d_Stemma_joinNearest_43 rfl ?_
        refine wp_getR (pc := 44) d_Stemma_joinNearest_44 rfl (zk_132 L) zx_132_6 ?_
        refine wp_iload (pc := 47) d_Stemma_joinNearest_47 rfl ?_
        refine wp_iald (pc := 49) d_Stemma_joinNearest_49 (zk_145 L) (by omega) (by omega) ?_
        refine wp_iconst (pc := 50) d_Stemma_joinNearest_50 rfl ?_
        refine wp_icmp_ne (tgt := 82) (pc := 51) d_Stemma_joinNearest_51 rfl (fun c51 => ?_) (fun c51 => ?_)
        · refine wp_iinc6 (pc := 82) d_Stemma_joinNearest_82 rfl (by omega) (by omega) ?_
          refine wp_goto (tgt := 23) (pc := 85) d_Stemma_joinNearest_85 rfl ?_
          first
          | (refine ih (k + 1) (v + 1) (qDs M u v, u, v) (by omega) (by omega) (by omega) ?_
             simp only [qSv]
             rw [if_pos ⟨c40, by rw [← g1]; exact Decidable.of_not_not c51, by rw [← g3, ← g1]; omega⟩, ← g1])
          | (refine ih (k + 1) (v + 1) w (by omega) (by omega) (by omega) ?_
             simp only [qSv]
             rw [if_neg (by
               rw [← g3, ← g1]
               intro z
               first | exact z.1 c40 | exact c51 z.2.1 | exact absurd z.2.2 (by omega))]
             exact g3)
        · refine wp_aload_n (pc := 54) d_Stemma_joinNearest_54 rfl ?_
          refine wp_iload (pc := 55) d_Stemma_joinNearest_55 rfl ?_
          refine wp_iload (pc := 57) d_Stemma_joinNearest_57 rfl ?_
          refine wp_callV2f (pc := 59) d_Stemma_joinNearest_59 rfl rfl (zk_132 L) rfl rfl (c_Sm_ds h0 hp hs6) ?_
          refine wp_iload_n (pc := 62) d_Stemma_joinNearest_62 rfl ?_
          refine wp_icmp_ge (tgt := 82) (pc := 63) d_Stemma_joinNearest_63 rfl (fun c63 => ?_) (fun c63 => ?_)
          · refine wp_iinc6 (pc := 82) d_Stemma_joinNearest_82 rfl (by omega) (by omega) ?_
            refine wp_goto (tgt := 23) (pc := 85) d_Stemma_joinNearest_85 rfl ?_
            first
            | (refine ih (k + 1) (v + 1) (qDs M u v, u, v) (by omega) (by omega) (by omega) ?_
               simp only [qSv]
               rw [if_pos ⟨c40, by rw [← g1]; exact Decidable.of_not_not c51, by rw [← g3, ← g1]; omega⟩, ← g1])
            | (refine ih (k + 1) (v + 1) w (by omega) (by omega) (by omega) ?_
               simp only [qSv]
               rw [if_neg (by
                 rw [← g3, ← g1]
                 intro z
                 first | exact z.1 c40 | exact c51 z.2.1 | exact absurd z.2.2 (by omega))]
               exact g3)
          · refine wp_aload_n (pc := 66) d_Stemma_joinNearest_66 rfl ?_
            refine wp_iload (pc := 67) d_Stemma_joinNearest_67 rfl ?_
            refine wp_iload (pc := 69) d_Stemma_joinNearest_69 rfl ?_
            refine wp_callV2f (pc := 71) d_Stemma_joinNearest_71 rfl rfl (zk_132 L) rfl rfl (c_Sm_ds h0 hp hs6) ?_
            refine wp_ist2 (pc := 74) d_Stemma_joinNearest_74 rfl ?_
            refine wp_iload (pc := 75) d_Stemma_joinNearest_75 rfl ?_
            refine wp_ist3 (pc := 77) d_Stemma_joinNearest_77 rfl ?_
            refine wp_iload (pc := 78) d_Stemma_joinNearest_78 rfl ?_
            refine wp_ist4 (pc := 80) d_Stemma_joinNearest_80 rfl ?_
            refine wp_iinc6 (pc := 82) d_Stemma_joinNearest_82 rfl (by omega) (by omega) ?_
            refine wp_goto (tgt := 23) (pc := 85) d_Stemma_joinNearest_85 rfl ?_
            first
            | (refine ih (k + 1) (v + 1) (qDs M u v, u, v) (by omega) (by omega) (by omega) ?_
               simp only [qSv]
               rw [if_pos ⟨c40, by rw [← g1]; exact Decidable.of_not_not c51, by rw [← g3, ← g1]; omega⟩, ← g1])
            | (refine ih (k + 1) (v + 1) w (by omega) (by omega) (by omega) ?_
               simp only [qSv]
               rw [if_neg (by
                 rw [← g3, ← g1]
                 intro z
                 first | exact z.1 c40 | exact c51 z.2.1 | exact absurd z.2.2 (by omega))]
               exact g3)
theorem lp_Sm_jn (h8 : 0 ≤ M 132 8) (hs6 : M 132 8 ≤ 6) (h0 : 0 ≤ M 132 9) (hp : M 132 9 ≤ 24) : ∀ (n9 : Nat) (k : Nat) (u : Int) (w : Int × Int × Int) (v9 : zV), M 132 8 - u < n9 → u = k → u ≤ M 132 8 → w = qSu (qJo M) (qDs M) (M 132 8).toNat k (25, -1, -1) → wp L 3 zm_Stemma_joinNearest 11 [rV 132, iV x, iV w.1, iV w.2.1, iV w.2.2, iV u, v9] [] M (fun r M' => r = none ∧ (if (qSu (qJo M) (qDs M) (M 132 8).toNat (M 132 8).toNat (25, -1, -1)).2.2 < 0 then M' = M else M' = zU (zU (zU M 143 (qSu (qJo M) (qDs M) (M 132 8).toNat (M 132 8).toNat (25, -1, -1)).2.2.toNat (qSu (qJo M) (qDs M) (M 132 8).toNat (M 132 8).toNat (25, -1, -1)).2.1) 144 (qSu (qJo M) (qDs M) (M 132 8).toNat (M 132 8).toNat (25, -1, -1)).2.2.toNat (qSu (qJo M) (qDs M) (M 132 8).toNat (M 132 8).toNat (25, -1, -1)).1) 145 (qSu (qJo M) (qDs M) (M 132 8).toNat (M 132 8).toNat (25, -1, -1)).2.2.toNat x)) := by
  intro n9
  induction n9 with
  | zero =>
    intro k  u  w  v9  h9 g1 g2 g3
    exact absurd h9 (by omega)
  | succ n9 ih =>
    intro k  u  w  v9  h9 g1 g2 g3
    have hb := qSu_b (jo := qJo M) (D := qDs M) (n := (M 132 8).toNat) k (25, -1, -1) (by omega) (by simp only; omega) (by simp only; omega)
    rw [← g3] at hb
    refine wp_iload (pc := 11) d_Stemma_joinNearest_11 rfl ?_
    refine wp_aload_n (pc := 13) d_Stemma_joinNearest_13 rfl ?_
    refine wp_getI (pc := 14) d_Stemma_joinNearest_14 rfl (by decide) (zk_132 L) ?_
    refine wp_icmp_ge (tgt := 94) (pc := 17) d_Stemma_joinNearest_17 rfl (fun c17 => ?_) (fun c17 => ?_)
    · refine wp_iload (pc := 94) d_Stemma_joinNearest_94 rfl ?_
      refine wp_if_lt (tgt := 123) (pc := 96) d_Stemma_joinNearest_96 rfl (fun c96 => ?_) (fun c96 => ?_)
      · refine wp_return_ (pc := 123) d_Stemma_joinNearest_123 rfl ?_
        have hk : (M 132 8).toNat = k := by omega
        refine ⟨rfl, ?_⟩
        rw [hk] at g3 ⊢
        rw [← g3]
        first | rw [if_pos c96] | rw [if_neg c96]
      · refine wp_aload_n (pc := 99) d_Stemma_joinNearest_99 rfl ?_
        refine wp_getR (pc := 100) d_Stemma_joinNearest_100 rfl (zk_132 L) zx_132_4 ?_
        refine wp_iload (pc := 103) d_Stemma_joinNearest_103 rfl ?_
        refine wp_iload_n (pc := 105) d_Stemma_joinNearest_105 rfl ?_
        refine wp_iast (pc := 106) d_Stemma_joinNearest_106 (zk_143 L) (by decide) (by omega) (by omega) ?_
        refine wp_aload_n (pc := 107) d_Stemma_joinNearest_107 rfl ?_
        refine wp_getR (pc := 108) d_Stemma_joinNearest_108 rfl (zk_132 L) zx_132_5 ?_
        refine wp_iload (pc := 111) d_Stemma_joinNearest_111 rfl ?_
        refine wp_iload_n (pc := 113) d_Stemma_joinNearest_113 rfl ?_
        refine wp_iast (pc := 114) d_Stemma_joinNearest_114 (zk_144 L) (by decide) (by omega) (by omega) ?_
        refine wp_aload_n (pc := 115) d_Stemma_joinNearest_115 rfl ?_
        refine wp_getR (pc := 116) d_Stemma_joinNearest_116 rfl (zk_132 L) zx_132_6 ?_
        refine wp_iload (pc := 119) d_Stemma_joinNearest_119 rfl ?_
        refine wp_iload_n (pc := 121) d_Stemma_joinNearest_121 rfl ?_
        refine wp_iast (pc := 122) d_Stemma_joinNearest_122 (zk_145 L) (by decide) (by omega) (by omega) ?_
        refine wp_return_ (pc := 123) d_Stemma_joinNearest_123 rfl ?_
        have hk : (M 132 8).toNat = k := by omega
        refine ⟨rfl, ?_⟩
        rw [hk] at g3 ⊢
        rw [← g3]
        first | rw [if_pos c96] | rw [if_neg c96]
    · refine wp_iconst (pc := 20) d_Stemma_joinNearest_20 rfl ?_
      refine wp_ist6 (pc := 21) d_Stemma_joinNearest_21 rfl ?_
      refine lp_Sm_jn1 (x := x) h8 hs6 h0 hp (s0 := w) (u := u) ⟨by omega, by omega⟩ (fun w2 v9 hw => ih (k + 1) (u + 1) w2 _ (by omega) (by omega) (by omega) ?_) 100 0 0 w (by omega) rfl (by omega) rfl
      rw [hw, g3, g1]
      rfl
theorem c_Sm_jn (h8 : 0 ≤ M 132 8) (hs6 : M 132 8 ≤ 6) (h0 : 0 ≤ M 132 9) (hp : M 132 9 ≤ 24) : wpc L 3 zm_Stemma_joinNearest [rV 132, iV x] M (fun r M' => r = none ∧ (if (qSu (qJo M) (qDs M) (M 132 8).toNat (M 132 8).toNat (25, -1, -1)).2.2 < 0 then M' = M else M' = zU (zU (zU M 143 (qSu (qJo M) (qDs M) (M 132 8).toNat (M 132 8).toNat (25, -1, -1)).2.2.toNat (qSu (qJo M) (qDs M) (M 132 8).toNat (M 132 8).toNat (25, -1, -1)).2.1) 144 (qSu (qJo M) (qDs M) (M 132 8).toNat (M 132 8).toNat (25, -1, -1)).2.2.toNat (qSu (qJo M) (qDs M) (M 132 8).toNat (M 132 8).toNat (25, -1, -1)).1) 145 (qSu (qJo M) (qDs M) (M 132 8).toNat (M 132 8).toNat (25, -1, -1)).2.2.toNat x)) := by
  show wp L _ zm_Stemma_joinNearest 0 [rV 132, iV x, uV, uV, uV, uV, uV] [] M _
  refine wp_bipush (pc := 0) d_Stemma_joinNearest_0 rfl ?_
  refine wp_ist2 (pc := 2) d_Stemma_joinNearest_2 rfl ?_
  refine wp_iconst (pc := 3) d_Stemma_joinNearest_3 rfl ?_
  refine wp_ist3 (pc := 4) d_Stemma_joinNearest_4 rfl ?_
  refine wp_iconst (pc := 5) d_Stemma_joinNearest_5 rfl ?_
  refine wp_ist4 (pc := 6) d_Stemma_joinNearest_6 rfl ?_
  refine wp_iconst (pc := 8) d_Stemma_joinNearest_8 rfl ?_
  refine wp_ist5 (pc := 9) d_Stemma_joinNearest_9 rfl ?_
  exact lp_Sm_jn h8 hs6 h0 hp 100 0 0 (25, -1, -1) _ (by omega) rfl (by omega) rfl
/-- the rows that read writes: the first places of the copy's row -/
theorem qPs_st (f g : Int → Int) (n1 n2 b : Int) (k : Nat) : (qPs f g n1 n2 b (k + 1)).1 = (qPs f g n1 n2 b k).1 + (if qSt f g n1 n2 b k = 2 then 0 else 1) ∧ (qPs f g n1 n2 b (k + 1)).2 = (qPs f g n1 n2 b k).2 + (if qSt f g n1 n2 b k = 1 then 0 else 1) := ⟨rfl, rfl⟩
theorem qSt_in (f g : Int → Int) (n1 n2 b : Int) (k : Nat) : qSt f g n1 n2 b k = 0 ∨ qSt f g n1 n2 b k = 1 ∨ qSt f g n1 n2 b k = 2 := qDc_in _ _
theorem lp_Sm_read {M0 : zM} {f : Int → Int} {b : Int} {K : Nat} (hr : zAn L r) (ht : zTx L t) (x0 : 0 ≤ x) (x1 : x < 6) (hrt : t ≠ 134 + x.toNat ∧ t + 1 ≠ 134 + x.toNat ∧ r ≠ 134 + x.toNat ∧ r + 1 ≠ 134 + x.toNat ∧ r + 2 ≠ 134 + x.toNat) (n10 : 0 ≤ M0 132 9) (n11 : M0 132 9 ≤ 24) (n20 : 0 ≤ M0 t 1) (n21 : M0 t 1 ≤ 24) (hb0 : 0 ≤ b) (he : M0 132 9 - M0 t 1 ≤ b ∧ M0 t 1 - M0 132 9 ≤ b) (hfo : M0 r 3 = 1) (hK : qEn f (qTx M0 t) (M0 132 9) (M0 t 1) b K) (hK48 : K ≤ 48) (hl : M0 (r + 2) 1 = K) (hs : ∀ q, q < K → M0 (r + 1) q = qSt f (qTx M0 t) (M0 132 9) (M0 t 1) b q) : ∀ (n9 : Nat) (k : Nat) (i : Int) (j : Int) (v : Int) (M : zM) (u : zV), K - v < n9 → v ≤ K → v = k → i = (qPs f (qTx M0 t) (M0 132 9) (M0 t 1) b k).1 → j = (qPs f (qTx M0 t) (M0 132 9) (M0 t 1) b k).2 → zSm (fun a => a = 134 + x.toNat) M0 M → (∀ p : Int, 0 ≤ p → p < i → M (134 + x.toNat) p.toNat = qRf f (qTx M0 t) (M0 132 9) (M0 t 1) b k p) → wp L 3 zm_Stemma_read 9 [rV 132, iV x, rV t, rV r, iV i, iV j, iV v, u] [] M (fun r9 M' => r9 = none ∧ (zSm (fun a => a = 134 + x.toNat) M0 M' ∧ ∀ p : Int, 0 ≤ p → p < M0 132 9 → M' (134 + x.toNat) p.toNat = qRf f (qTx M0 t) (M0 132 9) (M0 t 1) b K p)) := by
  intro n9
  induction n9 with
  | zero =>
    intro k  i  j  v  M  u  h9 g0 g1 g2 g3 g4 g5
    exact absurd h9 (by omega)
  | succ n9 ih =>
    intro k  i  j  v  M  u  h9 g0 g1 g2 g3 g4 g5
    have hr4 := hr.2.2.2.2.2
    have e1 : M r 3 = 1 := (g4 r (by omega) 3).trans hfo
    have e2 : M (r + 2) 1 = K := (g4 (r + 2) (by omega) 1).trans hl
    have e3 : M 132 9 = M0 132 9 := g4 132 (by omega) 9
    have e4 : qTx M t = qTx M0 t := qTx_eq (g4 t (by omega) 1) (g4 (t + 1) (by omega))
    have e5 : M t 1 = M0 t 1 := g4 t (by omega) 1
    obtain ⟨p1, p2, p3, p4, p5, p6, p7, p8⟩ := qPs_ok (f := f) (g := qTx M0 t) he n11 n21 n10 n20 hb0 k (fun t9 h9 => hK.2 t9 (by omega))
    have hstp := qPs_st f (qTx M0 t) (M0 132 9) (M0 t 1) b k
    refine wp_iload (pc := 9) d_Stemma_read_9 rfl ?_
    refine wp_aload_n (pc := 11) d_Stemma_read_11 rfl ?_
    refine wp_callV0f (pc := 12) d_Stemma_read_12 rfl rfl hr.1 rfl rfl (c_An_length hr) ?_
    rw [if_neg (by omega)]
    refine wp_icmp_ge (tgt := 83) (pc := 15) d_Stemma_read_15 rfl (fun c15 => ?_) (fun c15 => ?_)
    · refine wp_return_ (pc := 83) d_Stemma_read_83 rfl ?_
      have hk : k = K := by omega
      subst hk
      exact ⟨rfl, g4, fun p a1 a2 => g5 p a1 (by rw [g2, hK.1.1]; exact a2)⟩
    · refine wp_aload_n (pc := 18) d_Stemma_read_18 rfl ?_
      refine wp_iload (pc := 19) d_Stemma_read_19 rfl ?_
      refine wp_callV1f (pc := 21) d_Stemma_read_21 rfl rfl hr.1 rfl rfl (c_An_stepAt hr (by omega)) ?_
      rw [if_pos (by rw [if_neg (by omega)]; omega), show v.toNat = k by omega, (g4 (r + 1) (by omega) k).trans (hs k (by omega))]
      have hst9 := qSt_in f (qTx M0 t) (M0 132 9) (M0 t 1) b k
      have hdo := qDc_ok (f := f) (g := qTx M0 t) he n11 n21 p1 p3 p2 p4 p5 p6 (hK.2 k (by omega))
      rw [show qDc f (qTx M0 t) (M0 132 9) (M0 t 1) b (qPs f (qTx M0 t) (M0 132 9) (M0 t 1) b k).1 (qPs f (qTx M0 t) (M0 132 9) (M0 t 1) b k).2 = qSt f (qTx M0 t) (M0 132 9) (M0 t 1) b k from rfl] at hdo
      refine wp_ist7 (pc := 24) d_Stemma_read_24 rfl ?_
      refine wp_iload (pc := 26) d_Stemma_read_26 rfl ?_
      refine wp_iconst (pc := 28) d_Stemma_read_28 rfl ?_
      refine wp_icmp_eq (tgt := 68) (pc := 29) d_Stemma_read_29 rfl (fun c29 => ?_) (fun c29 => ?_)
      · refine wp_iload (pc := 68) d_Stemma_read_68 rfl ?_
        refine wp_iconst (pc := 70) d_Stemma_read_70 rfl ?_
        refine wp_icmp_eq (tgt := 77) (pc := 71) d_Stemma_read_71 rfl (fun c71 => ?_) (fun c71 => ?_)
        · refine wp_iinc6 (pc := 77) d_Stemma_read_77 rfl (by omega) (by omega) ?_
          refine wp_goto (tgt := 9) (pc := 80) d_Stemma_read_80 rfl ?_
          have hk1 : v + 1 = ((k + 1 : Nat) : Int) := by omega
          first
          | (refine ih (k + 1) _ _ _ _ _ (by omega) (by omega) hk1 (by rw [hstp.1, ← g2]; (first | rw [if_neg c29] | rw [if_pos c29, Int.add_zero])) (by rw [hstp.2, ← g3]; (first | rw [if_neg c71] | rw [if_pos c71, Int.add_zero])) (g4.u rfl) (fun p a1 a2 => ?_)
             simp only [qRf]
             by_cases e9 : p = i
             · rw [e9, zU_eq, if_pos ⟨c29, g2⟩]
               first | rw [if_pos (Decidable.of_not_not c51), g3] | rw [if_neg c51]
             · rw [zU_nk (by omega), if_neg (fun z => e9 (by rw [g2]; exact z.2))]
               exact g5 p a1 (by omega))
          | (refine ih (k + 1) _ _ _ _ _ (by omega) (by omega) hk1 (by rw [hstp.1, ← g2]; (first | rw [if_neg c29] | rw [if_pos c29, Int.add_zero])) (by rw [hstp.2, ← g3]; (first | rw [if_neg c71] | rw [if_pos c71, Int.add_zero])) g4 (fun p a1 a2 => ?_)
             simp only [qRf]
             rw [if_neg (fun z => z.1 c29)]
             exact g5 p a1 a2)
        · refine wp_iinc5 (pc := 74) d_Stemma_read_74 rfl (by omega) (by omega) ?_
          refine wp_iinc6 (pc := 77) d_Stemma_read_77 rfl (by omega) (by omega) ?_
          refine wp_goto (tgt := 9) (pc := 80) d_Stemma_read_80 rfl ?_
          have hk1 : v + 1 = ((k + 1 : Nat) : Int) := by omega
          first
          | (refine ih (k + 1) _ _ _ _ _ (by omega) (by omega) hk1 (by rw [hstp.1, ← g2]; (first | rw [if_neg c29] | rw [if_pos c29, Int.add_zero])) (by rw [hstp.2, ← g3]; (first | rw [if_neg c71] | rw [if_pos c71, Int.add_zero])) (g4.u rfl) (fun p a1 a2 => ?_)
             simp only [qRf]
             by_cases e9 : p = i
             · rw [e9, zU_eq, if_pos ⟨c29, g2⟩]
               first | rw [if_pos (Decidable.of_not_not c51), g3] | rw [if_neg c51]
             · rw [zU_nk (by omega), if_neg (fun z => e9 (by rw [g2]; exact z.2))]
               exact g5 p a1 (by omega))
          | (refine ih (k + 1) _ _ _ _ _ (by omega) (by omega) hk1 (by rw [hstp.1, ← g2]; (first | rw [if_neg c29] | rw [if_pos c29, Int.add_zero])) (by rw [hstp.2, ← g3]; (first | rw [if_neg c71] | rw [if_pos c71, Int.add_zero])) g4 (fun p a1 a2 => ?_)
             simp only [qRf]
             rw [if_neg (fun z => z.1 c29)]
             exact g5 p a1 a2)
      · refine wp_iload (pc := 32) d_Stemma_read_32 rfl ?_
        refine wp_aload_n (pc := 34) d_Stemma_read_34 rfl ?_
        refine wp_getI (pc := 35) d_Stemma_read_35 rfl (by decide) (zk_132 L) ?_
        refine wp_icmp_ge (tgt := 68) (pc := 38) d_Stemma_read_38 rfl (fun c38 => ?_) (fun c38 => ?_)
        · exact absurd c38 (by omega)
        · refine wp_aload_n (pc := 41) d_Stemma_read_41 rfl ?_
          refine wp_getR (pc := 42) d_Stemma_read_42 rfl (zk_132 L) zx_132_0 ?_
          refine wp_iload_n (pc := 45) d_Stemma_read_45 rfl ?_
          refine wp_aald (b := 134 + (x).toNat) (pc := 46) d_Stemma_read_46 (zk_133 L) (by decide) (by omega) (by omega) (zx_rd (show (x).toNat < 6 by omega)) ?_
          refine wp_iload (pc := 47) d_Stemma_read_47 rfl ?_
          refine wp_iload (pc := 49) d_Stemma_read_49 rfl ?_
          refine wp_if_ne (tgt := 63) (pc := 51) d_Stemma_read_51 rfl (fun c51 => ?_) (fun c51 => ?_)
          · refine wp_iconst (pc := 63) d_Stemma_read_63 rfl ?_
            refine wp_iast (pc := 64) d_Stemma_read_64 (zk_rd L (show (x).toNat < 6 by omega)) (by omega) (by omega) (by omega) ?_
            refine wp_iinc4 (pc := 65) d_Stemma_read_65 rfl (by omega) (by omega) ?_
            refine wp_iload (pc := 68) d_Stemma_read_68 rfl ?_
            refine wp_iconst (pc := 70) d_Stemma_read_70 rfl ?_
            refine wp_icmp_eq (tgt := 77) (pc := 71) d_Stemma_read_71 rfl (fun c71 => ?_) (fun c71 => ?_)
            · refine wp_iinc6 (pc := 77) d_Stemma_read_77 rfl (by omega) (by omega) ?_
              refine wp_goto (tgt := 9) (pc := 80) d_Stemma_read_80 rfl ?_
              have hk1 : v + 1 = ((k + 1 : Nat) : Int) := by omega
              first
              | (refine ih (k + 1) _ _ _ _ _ (by omega) (by omega) hk1 (by rw [hstp.1, ← g2]; (first | rw [if_neg c29] | rw [if_pos c29, Int.add_zero])) (by rw [hstp.2, ← g3]; (first | rw [if_neg c71] | rw [if_pos c71, Int.add_zero])) (g4.u rfl) (fun p a1 a2 => ?_)
                 simp only [qRf]
                 by_cases e9 : p = i
                 · rw [e9, zU_eq, if_pos ⟨c29, g2⟩]
                   first | rw [if_pos (Decidable.of_not_not c51), g3] | rw [if_neg c51]
                 · rw [zU_nk (by omega), if_neg (fun z => e9 (by rw [g2]; exact z.2))]
                   exact g5 p a1 (by omega))
              | (refine ih (k + 1) _ _ _ _ _ (by omega) (by omega) hk1 (by rw [hstp.1, ← g2]; (first | rw [if_neg c29] | rw [if_pos c29, Int.add_zero])) (by rw [hstp.2, ← g3]; (first | rw [if_neg c71] | rw [if_pos c71, Int.add_zero])) g4 (fun p a1 a2 => ?_)
                 simp only [qRf]
                 rw [if_neg (fun z => z.1 c29)]
                 exact g5 p a1 a2)
            · refine wp_iinc5 (pc := 74) d_Stemma_read_74 rfl (by omega) (by omega) ?_
              refine wp_iinc6 (pc := 77) d_Stemma_read_77 rfl (by omega) (by omega) ?_
              refine wp_goto (tgt := 9) (pc := 80) d_Stemma_read_80 rfl ?_
              have hk1 : v + 1 = ((k + 1 : Nat) : Int) := by omega
              first
              | (refine ih (k + 1) _ _ _ _ _ (by omega) (by omega) hk1 (by rw [hstp.1, ← g2]; (first | rw [if_neg c29] | rw [if_pos c29, Int.add_zero])) (by rw [hstp.2, ← g3]; (first | rw [if_neg c71] | rw [if_pos c71, Int.add_zero])) (g4.u rfl) (fun p a1 a2 => ?_)
                 simp only [qRf]
                 by_cases e9 : p = i
                 · rw [e9, zU_eq, if_pos ⟨c29, g2⟩]
                   first | rw [if_pos (Decidable.of_not_not c51), g3] | rw [if_neg c51]
                 · rw [zU_nk (by omega), if_neg (fun z => e9 (by rw [g2]; exact z.2))]
                   exact g5 p a1 (by omega))
              | (refine ih (k + 1) _ _ _ _ _ (by omega) (by omega) hk1 (by rw [hstp.1, ← g2]; (first | rw [if_neg c29] | rw [if_pos c29, Int.add_zero])) (by rw [hstp.2, ← g3]; (first | rw [if_neg c71] | rw [if_pos c71, Int.add_zero])) g4 (fun p a1 a2 => ?_)
                 simp only [qRf]
                 rw [if_neg (fun z => z.1 c29)]
                 exact g5 p a1 a2)
          · refine wp_aload_n (pc := 54) d_Stemma_read_54 rfl ?_
            refine wp_iload (pc := 55) d_Stemma_read_55 rfl ?_
            refine wp_callV1f (pc := 57) d_Stemma_read_57 rfl rfl ht.1 rfl rfl (c_Text_at ht (by omega)) ?_
            rw [show (if 0 ≤ j ∧ j < M t 1 then M (t + 1) j.toNat else -1) = qTx M0 t j from congrFun e4 j]
            refine wp_goto (tgt := 64) (pc := 60) d_Stemma_read_60 rfl ?_
            refine wp_iast (pc := 64) d_Stemma_read_64 (zk_rd L (show (x).toNat < 6 by omega)) (by omega) (by omega) (by omega) ?_
            refine wp_iinc4 (pc := 65) d_Stemma_read_65 rfl (by omega) (by omega) ?_
            refine wp_iload (pc := 68) d_Stemma_read_68 rfl ?_
            refine wp_iconst (pc := 70) d_Stemma_read_70 rfl ?_
            refine wp_icmp_eq (tgt := 77) (pc := 71) d_Stemma_read_71 rfl (fun c71 => ?_) (fun c71 => ?_)
            · refine wp_iinc6 (pc := 77) d_Stemma_read_77 rfl (by omega) (by omega) ?_
              refine wp_goto (tgt := 9) (pc := 80) d_Stemma_read_80 rfl ?_
              have hk1 : v + 1 = ((k + 1 : Nat) : Int) := by omega
              first
              | (refine ih (k + 1) _ _ _ _ _ (by omega) (by omega) hk1 (by rw [hstp.1, ← g2]; (first | rw [if_neg c29] | rw [if_pos c29, Int.add_zero])) (by rw [hstp.2, ← g3]; (first | rw [if_neg c71] | rw [if_pos c71, Int.add_zero])) (g4.u rfl) (fun p a1 a2 => ?_)
                 simp only [qRf]
                 by_cases e9 : p = i
                 · rw [e9, zU_eq, if_pos ⟨c29, g2⟩]
                   first | rw [if_pos (Decidable.of_not_not c51), g3] | rw [if_neg c51]
                 · rw [zU_nk (by omega), if_neg (fun z => e9 (by rw [g2]; exact z.2))]
                   exact g5 p a1 (by omega))
              | (refine ih (k + 1) _ _ _ _ _ (by omega) (by omega) hk1 (by rw [hstp.1, ← g2]; (first | rw [if_neg c29] | rw [if_pos c29, Int.add_zero])) (by rw [hstp.2, ← g3]; (first | rw [if_neg c71] | rw [if_pos c71, Int.add_zero])) g4 (fun p a1 a2 => ?_)
                 simp only [qRf]
                 rw [if_neg (fun z => z.1 c29)]
                 exact g5 p a1 a2)
            · refine wp_iinc5 (pc := 74) d_Stemma_read_74 rfl (by omega) (by omega) ?_
              refine wp_iinc6 (pc := 77) d_Stemma_read_77 rfl (by omega) (by omega) ?_
              refine wp_goto (tgt := 9) (pc := 80) d_Stemma_read_80 rfl ?_
              have hk1 : v + 1 = ((k + 1 : Nat) : Int) := by omega
              first
              | (refine ih (k + 1) _ _ _ _ _ (by omega) (by omega) hk1 (by rw [hstp.1, ← g2]; (first | rw [if_neg c29] | rw [if_pos c29, Int.add_zero])) (by rw [hstp.2, ← g3]; (first | rw [if_neg c71] | rw [if_pos c71, Int.add_zero])) (g4.u rfl) (fun p a1 a2 => ?_)
                 simp only [qRf]
                 by_cases e9 : p = i
                 · rw [e9, zU_eq, if_pos ⟨c29, g2⟩]
                   first | rw [if_pos (Decidable.of_not_not c51), g3] | rw [if_neg c51]
                 · rw [zU_nk (by omega), if_neg (fun z => e9 (by rw [g2]; exact z.2))]
                   exact g5 p a1 (by omega))
              | (refine ih (k + 1) _ _ _ _ _ (by omega) (by omega) hk1 (by rw [hstp.1, ← g2]; (first | rw [if_neg c29] | rw [if_pos c29, Int.add_zero])) (by rw [hstp.2, ← g3]; (first | rw [if_neg c71] | rw [if_pos c71, Int.add_zero])) g4 (fun p a1 a2 => ?_)
                 simp only [qRf]
                 rw [if_neg (fun z => z.1 c29)]
                 exact g5 p a1 a2)
end ZSt4
