/-! StopPress: what is asked of copies and states -/
def xOf (D : qDt) (c w : Int) : Int := if 0 ≤ c ∧ c < D.2.2.2 then (if 0 ≤ w ∧ w ≤ 4 then uCp D c w else -102) else -101
def xSg (D : qDt) (c p : Int) : Int := if (0 ≤ c ∧ c < D.2.2.2) ∧ 0 ≤ p ∧ p < D.2.1 c then D.1 c p else -101
def xCo (D : qDt) (x y w : Int) : Int := if (0 ≤ x ∧ x < D.2.2.2) ∧ 0 ≤ y ∧ y < D.2.2.2 then (if 0 ≤ w ∧ w ≤ 6 then uTa D x y w else -102) else -101
def xSp (D : qDt) (x y p : Int) : Int := if (0 ≤ x ∧ x < D.2.2.2) ∧ 0 ≤ y ∧ y < D.2.2.2 then (if uIn D x y ∧ 0 ≤ p ∧ p < (uK D x y : Int) then qSt (D.1 x) (D.1 y) (D.2.1 x) (D.2.1 y) D.2.2.1 p.toNat else -101) else -101
def xRd (D : qDt) (c p : Int) : Int := if (0 ≤ c ∧ c < D.2.2.2) ∧ 0 ≤ p ∧ p < uPl D then (if uIn D 0 c then uRd D c p else -103) else -101
def xSs (D : qDt) (w : Int) : Int := if 0 ≤ w ∧ w ≤ 5 then uDa D w else -102
def xSe (D : qDt) (s w : Int) : Int := if 0 ≤ s ∧ s < uN D then (if 0 ≤ w ∧ w ≤ 6 then uDe D s w else -102) else -101
def xFa (D : qDt) (u v : Int) : Int := if (0 ≤ u ∧ u < uN D) ∧ 0 ≤ v ∧ v < uN D then uDs D u v else -101
def xTu (D : qDt) (s p : Int) : Int := if (0 ≤ s ∧ s < uN D) ∧ 0 ≤ p ∧ p < uPl D then (if uGb D s p = 0 then 0 else 1) else -101
theorem qBu_i {M : zM} {D : qDt} {x : Int} (h : qBu M D) (hb : 0 ≤ D.2.2.1) (h6 : D.2.2.2 ≤ 6) (hp0 : 0 ≤ uPl D) (hp : uPl D ≤ 24) : qWf M ∧ M 132 8 = uN D ∧ M 132 9 = uPl D ∧ (0 ≤ uN D ∧ uN D ≤ 6) := ⟨qBu_wf h hb h6 hp0 hp, h.1.2.1, h.1.1, uN_b hb h6⟩
section ZPc
variable {L : Nat} {M : zM} {D : qDt} {x y c s w p : Int}
theorem qN_pos {M : zM} (hb : 0 ≤ (qDC M).2.2.1) (h0 : 0 ≤ (qDC M).2.2.2) (h : 0 < uN (qDC M)) : 0 < M 7 3 := by
  have := (uG_b (qDC M) hb (qDC M).2.2.2.toNat).1
  have e : (qDC M).2.2.2 = M 7 3 := rfl
  unfold uN at h
  omega
theorem c_P_dc (h : qIC M) (hB : qBu M (qDC M)) (cZ : 0 ≤ c) (cN : c < M 7 3) : Ci L 4 zm_P_describeCopy [rV 4, iV c, iV w] M (fun z M' => z = uCp (qDC M) c w ∧ zSm (fun a => a = 11 ∨ (24 ≤ a ∧ a < 147)) M M' ∧ qIC M' ∧ qDC M' = qDC M ∧ qBu M' (qDC M)) := by
  show wp L _ zm_P_describeCopy 0 [rV 4, iV c, iV w] [] M _
  have hci := h.1
  obtain ⟨a1, a2, a3, a4, a5, a6⟩ := hci
  have hd := h.d
  have hpl := qDC_pl h.1
  have eN : (qDC M).2.2.2 = M 7 3 := rfl
  have hso := qBu_so hB hd.1 hd.2.1 hpl.1 hpl.2.1 (c := c) (by omega) (by omega)
  have hw := qBu_wf hB hd.1 hd.2.1 hpl.1 hpl.2.1
  refine wp_iload_n (pc := 0) d_P_describeCopy_0 rfl ?_
  refine wp_if_ne (tgt := 16) (pc := 1) d_P_describeCopy_1 rfl (fun c1 => ?_) (fun c1 => ?_)
  · refine wp_aload_n (pc := 16) d_P_describeCopy_16 rfl ?_
    refine wp_getR (pc := 17) d_P_describeCopy_17 rfl (zk_4 L) zx_4_2 ?_
    refine wp_iload_n (pc := 20) d_P_describeCopy_20 rfl ?_
    refine wp_callV1f (pc := 21) d_P_describeCopy_21 rfl rfl (zk_132 L) rfl rfl c_Sm_isExcl ?_
    rw [if_pos (show 0 ≤ c ∧ c < 6 by omega)]
    refine wp_if_eq (tgt := 29) (pc := 24) d_P_describeCopy_24 rfl (fun c24 => ?_) (fun c24 => ?_)
    · have hin : uIn (qDC M) 0 c := Decidable.of_not_not (fun z => zb_eq0 c24 (hso.2.2 z))
      refine wp_iload_n (pc := 29) d_P_describeCopy_29 rfl ?_
      rcases zsw3 1 w with c30 | c30 | c30 | c30
      · refine wp_tableO (tgt := 94) (pc := 30) d_P_describeCopy_30 (by omega) rfl ?_
        refine wp_aload_n (pc := 94) d_P_describeCopy_94 rfl ?_
        refine wp_getR (pc := 95) d_P_describeCopy_95 rfl (zk_4 L) zx_4_2 ?_
        refine wp_iconst (pc := 98) d_P_describeCopy_98 rfl ?_
        refine wp_iload_n (pc := 99) d_P_describeCopy_99 rfl ?_
        refine wp_callV2f (pc := 100) d_P_describeCopy_100 rfl rfl (zk_132 L) rfl rfl (c_Sm_diff hw.2.1.1 hw.2.1.2) ?_
        refine wp_ireturn (pc := 103) d_P_describeCopy_103 rfl ?_
        refine ⟨_, rfl, ?_, zSm.rf, h, rfl, hB⟩
        unfold uCp
        rw [if_neg c1, if_neg (fun z => z hin), if_neg (by omega), if_neg (by omega), if_neg (by omega)]
        exact qBu_df hB hd.1 hd.2.1 hpl.1 hpl.2.1 (by decide) (by omega) (by unfold uIn; omega) (by omega) (by omega) hin
      · refine wp_tableI (tgt := 56) (off := 26) (pc := 30) d_P_describeCopy_30 (by omega) (by omega) (by rw [c30]; rfl) rfl ?_
        refine wp_aload_n (pc := 56) d_P_describeCopy_56 rfl ?_
        refine wp_getR (pc := 57) d_P_describeCopy_57 rfl (zk_4 L) zx_4_2 ?_
        refine wp_iload_n (pc := 60) d_P_describeCopy_60 rfl ?_
        refine wp_callV1f (pc := 61) d_P_describeCopy_61 rfl rfl (zk_132 L) rfl rfl c_Sm_stateOf ?_
        rw [if_pos (show 0 ≤ c ∧ c < 6 by omega)]
        refine wp_ireturn (pc := 64) d_P_describeCopy_64 rfl ?_
        refine ⟨_, rfl, ?_, zSm.rf, h, rfl, hB⟩
        unfold uCp
        rw [if_neg c1, if_neg (fun z => z hin), if_pos c30, hso.1]
      · refine wp_tableI (tgt := 65) (off := 35) (pc := 30) d_P_describeCopy_30 (by omega) (by omega) (by rw [c30]; rfl) rfl ?_
        refine wp_aload_n (pc := 65) d_P_describeCopy_65 rfl ?_
        refine wp_getR (pc := 66) d_P_describeCopy_66 rfl (zk_4 L) zx_4_1 ?_
        refine wp_iconst (pc := 69) d_P_describeCopy_69 rfl ?_
        refine wp_iload_n (pc := 70) d_P_describeCopy_70 rfl ?_
        refine wp_callV2r (pc := 71) d_P_describeCopy_71 rfl rfl (zk_7 L) rfl rfl (c_Co_bestJ (x := 0) (y := c) h (by decide) (by omega) (by omega) (by omega)) (fun M71 h71 => ?_)
        obtain ⟨p1, p2, p3, p4⟩ := h71
        have e7 : ∀ k, M71 7 k = M 7 k := p1 7 (by omega)
        refine wp_iconst (pc := 74) d_P_describeCopy_74 rfl ?_
        refine wp_callV1f (pc := 75) d_P_describeCopy_75 rfl rfl (zAn_i L ((0 : Int) * 6 + c).toNat (by omega)).1 rfl rfl (c_An_tally (zAn_i L ((0 : Int) * 6 + c).toNat (by omega))) ?_
        rw [if_pos (by decide)]
        refine wp_ireturn (pc := 78) d_P_describeCopy_78 rfl ?_
        have ht := qKm_ta (w := 0) p4 (by decide) (by rw [e7]; omega) (by omega) (by rw [e7]; omega) (by decide) (by decide)
        rw [p3] at ht
        refine ⟨_, rfl, ?_, p1.up (fun a ha => by omega), p2, p3, hB.keep hd.2.1 p1 (fun a b1 b2 => by omega)⟩
        unfold uCp
        rw [c30, if_neg (by decide), if_neg (fun z => z hin), if_neg (by decide)]
        first
        | (rw [if_pos (by decide)]; exact ht)
        | (rw [if_neg (by decide), if_pos (by decide)]; exact ht)
      · refine wp_tableI (tgt := 79) (off := 49) (pc := 30) d_P_describeCopy_30 (by omega) (by omega) (by rw [c30]; rfl) rfl ?_
        refine wp_aload_n (pc := 79) d_P_describeCopy_79 rfl ?_
        refine wp_getR (pc := 80) d_P_describeCopy_80 rfl (zk_4 L) zx_4_1 ?_
        refine wp_iconst (pc := 83) d_P_describeCopy_83 rfl ?_
        refine wp_iload_n (pc := 84) d_P_describeCopy_84 rfl ?_
        refine wp_callV2r (pc := 85) d_P_describeCopy_85 rfl rfl (zk_7 L) rfl rfl (c_Co_bestJ (x := 0) (y := c) h (by decide) (by omega) (by omega) (by omega)) (fun M85 h85 => ?_)
        obtain ⟨p1, p2, p3, p4⟩ := h85
        have e7 : ∀ k, M85 7 k = M 7 k := p1 7 (by omega)
        refine wp_bipush (pc := 88) d_P_describeCopy_88 rfl ?_
        refine wp_callV1f (pc := 90) d_P_describeCopy_90 rfl rfl (zAn_i L ((0 : Int) * 6 + c).toNat (by omega)).1 rfl rfl (c_An_tally (zAn_i L ((0 : Int) * 6 + c).toNat (by omega))) ?_
        rw [if_pos (by decide)]
        refine wp_ireturn (pc := 93) d_P_describeCopy_93 rfl ?_
        have ht := qKm_ta (w := 6) p4 (by decide) (by rw [e7]; omega) (by omega) (by rw [e7]; omega) (by decide) (by decide)
        rw [p3] at ht
        refine ⟨_, rfl, ?_, p1.up (fun a ha => by omega), p2, p3, hB.keep hd.2.1 p1 (fun a b1 b2 => by omega)⟩
        unfold uCp
        rw [c30, if_neg (by decide), if_neg (fun z => z hin), if_neg (by decide)]
        first
        | (rw [if_pos (by decide)]; exact ht)
        | (rw [if_neg (by decide), if_pos (by decide)]; exact ht)
    · have hin : ¬ uIn (qDC M) 0 c := hso.2.1 (zb_ne0 c24)
      refine wp_iconst (pc := 27) d_P_describeCopy_27 rfl ?_
      refine wp_ireturn (pc := 28) d_P_describeCopy_28 rfl ?_
      refine ⟨_, rfl, ?_, zSm.rf, h, rfl, hB⟩
      unfold uCp
      rw [if_neg c1, if_pos hin]
  · refine wp_aload_n (pc := 4) d_P_describeCopy_4 rfl ?_
    refine wp_getR (pc := 5) d_P_describeCopy_5 rfl (zk_4 L) zx_4_1 ?_
    refine wp_iload_n (pc := 8) d_P_describeCopy_8 rfl ?_
    refine wp_callV1f (pc := 9) d_P_describeCopy_9 rfl rfl (zk_7 L) rfl rfl (c_Co_text (by omega)) ?_
    rw [if_pos (by omega)]
    refine wp_callV0f (pc := 12) d_P_describeCopy_12 rfl rfl (zTx_i L (show c.toNat < 6 by omega)).1 rfl rfl (c_Text_size (zTx_i L (show c.toNat < 6 by omega))) ?_
    refine wp_ireturn (pc := 15) d_P_describeCopy_15 rfl ?_
    refine ⟨_, rfl, ?_, zSm.rf, h, rfl, hB⟩
    unfold uCp
    rw [if_pos (Decidable.of_not_not c1), qDC_2 (by omega) (by omega)]
theorem c_P_of (h : qIC M) : Ci L 6 zm_P_of [rV 4, iV c, iV w] M (fun z M' => z = xOf (qDC M) c w ∧ zSm (fun a => a = 11 ∨ (24 ≤ a ∧ a < 147)) M M' ∧ qIC M' ∧ qDC M' = qDC M) := by
  show wp L _ zm_P_of 0 [rV 4, iV c, iV w] [] M _
  have hci := h.1
  obtain ⟨a1, a2, a3, a4, a5, a6⟩ := hci
  have hd := h.d
  have hpl := qDC_pl h.1
  have eN : (qDC M).2.2.2 = M 7 3 := rfl
  refine wp_aload_n (pc := 0) d_P_of_0 rfl ?_
  refine wp_getR (pc := 1) d_P_of_1 rfl (zk_4 L) zx_4_1 ?_
  refine wp_iload_n (pc := 4) d_P_of_4 rfl ?_
  refine wp_callV1f (pc := 5) d_P_of_5 rfl rfl (zk_7 L) rfl rfl c_Co_has ?_
  refine wp_if_ne (tgt := 14) (pc := 8) d_P_of_8 rfl (fun c8 => ?_) (fun c8 => ?_)
  · have c8 := zb_ne0 c8
    refine wp_iload_n (pc := 14) d_P_of_14 rfl ?_
    refine wp_if_lt (tgt := 23) (pc := 15) d_P_of_15 rfl (fun c15 => ?_) (fun c15 => ?_)
    · refine wp_bipush (pc := 23) d_P_of_23 rfl ?_
      refine wp_ireturn (pc := 25) d_P_of_25 rfl ?_
      exact ⟨_, rfl, by unfold xOf; rw [if_pos (by omega), if_neg (by omega)], zSm.rf, h, rfl⟩
    · refine wp_iload_n (pc := 18) d_P_of_18 rfl ?_
      refine wp_iconst (pc := 19) d_P_of_19 rfl ?_
      refine wp_icmp_le (tgt := 26) (pc := 20) d_P_of_20 rfl (fun c20 => ?_) (fun c20 => ?_)
      · refine wp_aload_n (pc := 26) d_P_of_26 rfl ?_
        refine wp_getR (pc := 27) d_P_of_27 rfl (zk_4 L) zx_4_2 ?_
        refine wp_aload_n (pc := 30) d_P_of_30 rfl ?_
        refine wp_getR (pc := 31) d_P_of_31 rfl (zk_4 L) zx_4_1 ?_
        refine wp_callV1v (pc := 34) d_P_of_34 rfl rfl (zk_132 L) rfl rfl (c_Sm_buildI h) (fun M34 h34 => ?_)
        obtain ⟨z1, z2, z3, z4⟩ := h34
        have z5 : ∀ k, M34 7 k = M 7 k := z1 7 (by omega)
        have hq := qBu_i (x := 0) z4 hd.1 hd.2.1 hpl.1 hpl.2.1
        refine wp_aload_n (pc := 37) d_P_of_37 rfl ?_
        refine wp_iload_n (pc := 38) d_P_of_38 rfl ?_
        refine wp_iload_n (pc := 39) d_P_of_39 rfl ?_
        refine wp_callV2i (pc := 40) d_P_of_40 rfl rfl (zk_4 L) rfl rfl (c_P_dc z2 (by rw [z3]; exact z4) (by omega) (by rw [z5]; omega)) (fun x40 M40 h40 => ?_)
        refine wp_ireturn (pc := 43) d_P_of_43 rfl ?_
        obtain ⟨y1, y2, y3, y4, y5⟩ := h40
        refine ⟨_, rfl, ?_, z1.tr y2, y3, y4.trans z3⟩
        rw [y1, z3]
        unfold xOf
        rw [if_pos (by omega), if_pos (by omega)]
      · refine wp_bipush (pc := 23) d_P_of_23 rfl ?_
        refine wp_ireturn (pc := 25) d_P_of_25 rfl ?_
        exact ⟨_, rfl, by unfold xOf; rw [if_pos (by omega), if_neg (by omega)], zSm.rf, h, rfl⟩
  · have c8 := zb_eq0 (Decidable.of_not_not c8)
    refine wp_bipush (pc := 11) d_P_of_11 rfl ?_
    refine wp_ireturn (pc := 13) d_P_of_13 rfl ?_
    exact ⟨_, rfl, by unfold xOf; rw [if_neg (by omega)], zSm.rf, h, rfl⟩
theorem c_P_sign (h : qIC M) : Cf L 2 zm_P_sign [rV 4, iV c, iV p] M (iV (xSg (qDC M) c p)) M := by
  show wp L _ zm_P_sign 0 [rV 4, iV c, iV p] [] M _
  have hci := h.1
  obtain ⟨a1, a2, a3, a4, a5, a6⟩ := hci
  have hd := h.d
  have hpl := qDC_pl h.1
  have eN : (qDC M).2.2.2 = M 7 3 := rfl
  refine wp_aload_n (pc := 0) d_P_sign_0 rfl ?_
  refine wp_getR (pc := 1) d_P_sign_1 rfl (zk_4 L) zx_4_1 ?_
  refine wp_iload_n (pc := 4) d_P_sign_4 rfl ?_
  refine wp_callV1f (pc := 5) d_P_sign_5 rfl rfl (zk_7 L) rfl rfl c_Co_has ?_
  refine wp_if_eq (tgt := 26) (pc := 8) d_P_sign_8 rfl (fun c8 => ?_) (fun c8 => ?_)
  · have c8 := zb_eq0 c8
    refine wp_bipush (pc := 26) d_P_sign_26 rfl ?_
    refine wp_ireturn (pc := 28) d_P_sign_28 rfl ?_
    refine ⟨?_, rfl⟩
    unfold xSg
    first
    | rw [if_neg (fun z => c8 z.1)]
    | (have e2 := qDC_2 (M := M) c8.1 c8.2
       rw [if_neg (fun z => c23 (by rw [← e2]; exact z.2))])
  · have c8 := zb_ne0 c8
    refine wp_aload_n (pc := 11) d_P_sign_11 rfl ?_
    refine wp_getR (pc := 12) d_P_sign_12 rfl (zk_4 L) zx_4_1 ?_
    refine wp_iload_n (pc := 15) d_P_sign_15 rfl ?_
    refine wp_callV1f (pc := 16) d_P_sign_16 rfl rfl (zk_7 L) rfl rfl (c_Co_text (by omega)) ?_
    rw [if_pos (by omega)]
    refine wp_iload_n (pc := 19) d_P_sign_19 rfl ?_
    refine wp_callV1f (pc := 20) d_P_sign_20 rfl rfl (zTx_i L (show c.toNat < 6 by omega)).1 rfl rfl (c_Text_has (zTx_i L (show c.toNat < 6 by omega))) ?_
    refine wp_if_ne (tgt := 29) (pc := 23) d_P_sign_23 rfl (fun c23 => ?_) (fun c23 => ?_)
    · have c23 := zb_ne0 c23
      refine wp_aload_n (pc := 29) d_P_sign_29 rfl ?_
      refine wp_getR (pc := 30) d_P_sign_30 rfl (zk_4 L) zx_4_1 ?_
      refine wp_iload_n (pc := 33) d_P_sign_33 rfl ?_
      refine wp_callV1f (pc := 34) d_P_sign_34 rfl rfl (zk_7 L) rfl rfl (c_Co_text (by omega)) ?_
      rw [if_pos (by omega)]
      refine wp_iload_n (pc := 37) d_P_sign_37 rfl ?_
      refine wp_callV1f (pc := 38) d_P_sign_38 rfl rfl (zTx_i L (show c.toNat < 6 by omega)).1 rfl rfl (c_Text_at (zTx_i L (show c.toNat < 6 by omega)) (a4 c.toNat (by omega)).2.1) ?_
      refine wp_ireturn (pc := 41) d_P_sign_41 rfl ?_
      refine ⟨?_, rfl⟩
      have e2 := qDC_2 (M := M) c8.1 c8.2
      have hx : xSg (qDC M) c p = (qDC M).1 c p := if_pos ⟨c8, by rw [e2]; exact c23⟩
      rw [hx, qDC_1 c8.1 c8.2]
      rfl
    · have c23 := zb_eq0 (Decidable.of_not_not c23)
      refine wp_bipush (pc := 26) d_P_sign_26 rfl ?_
      refine wp_ireturn (pc := 28) d_P_sign_28 rfl ?_
      refine ⟨?_, rfl⟩
      unfold xSg
      first
      | rw [if_neg (fun z => c8 z.1)]
      | (have e2 := qDC_2 (M := M) c8.1 c8.2
         rw [if_neg (fun z => c23 (by rw [← e2]; exact z.2))])
theorem c_P_collate (h : qIC M) : Ci L 4 zm_P_collate [rV 4, iV x, iV y, iV w] M (fun z M' => z = xCo (qDC M) x y w ∧ zSm (fun a => a = 11 ∨ (24 ≤ a ∧ a < 147)) M M' ∧ qIC M' ∧ qDC M' = qDC M) := by
  show wp L _ zm_P_collate 0 [rV 4, iV x, iV y, iV w] [] M _
  have hci := h.1
  obtain ⟨a1, a2, a3, a4, a5, a6⟩ := hci
  have hd := h.d
  have hpl := qDC_pl h.1
  have eN : (qDC M).2.2.2 = M 7 3 := rfl
  refine wp_aload_n (pc := 0) d_P_collate_0 rfl ?_
  refine wp_getR (pc := 1) d_P_collate_1 rfl (zk_4 L) zx_4_1 ?_
  refine wp_iload_n (pc := 4) d_P_collate_4 rfl ?_
  refine wp_callV1f (pc := 5) d_P_collate_5 rfl rfl (zk_7 L) rfl rfl c_Co_has ?_
  refine wp_if_eq (tgt := 22) (pc := 8) d_P_collate_8 rfl (fun c8 => ?_) (fun c8 => ?_)
  · have c8 := zb_eq0 c8
    refine wp_bipush (pc := 22) d_P_collate_22 rfl ?_
    refine wp_ireturn (pc := 24) d_P_collate_24 rfl ?_
    exact ⟨_, rfl, by unfold xCo; rw [if_neg (by omega)], zSm.rf, h, rfl⟩
  · have c8 := zb_ne0 c8
    refine wp_aload_n (pc := 11) d_P_collate_11 rfl ?_
    refine wp_getR (pc := 12) d_P_collate_12 rfl (zk_4 L) zx_4_1 ?_
    refine wp_iload_n (pc := 15) d_P_collate_15 rfl ?_
    refine wp_callV1f (pc := 16) d_P_collate_16 rfl rfl (zk_7 L) rfl rfl c_Co_has ?_
    refine wp_if_ne (tgt := 25) (pc := 19) d_P_collate_19 rfl (fun c19 => ?_) (fun c19 => ?_)
    · have c19 := zb_ne0 c19
      refine wp_iload_n (pc := 25) d_P_collate_25 rfl ?_
      refine wp_if_lt (tgt := 35) (pc := 26) d_P_collate_26 rfl (fun c26 => ?_) (fun c26 => ?_)
      · refine wp_bipush (pc := 35) d_P_collate_35 rfl ?_
        refine wp_ireturn (pc := 37) d_P_collate_37 rfl ?_
        exact ⟨_, rfl, by unfold xCo; rw [if_pos (by omega), if_neg (by omega)], zSm.rf, h, rfl⟩
      · refine wp_iload_n (pc := 29) d_P_collate_29 rfl ?_
        refine wp_bipush (pc := 30) d_P_collate_30 rfl ?_
        refine wp_icmp_lt (tgt := 38) (pc := 32) d_P_collate_32 rfl (fun c32 => ?_) (fun c32 => ?_)
        · refine wp_aload_n (pc := 38) d_P_collate_38 rfl ?_
          refine wp_getR (pc := 39) d_P_collate_39 rfl (zk_4 L) zx_4_1 ?_
          refine wp_iload_n (pc := 42) d_P_collate_42 rfl ?_
          refine wp_iload_n (pc := 43) d_P_collate_43 rfl ?_
          refine wp_callV2r (pc := 44) d_P_collate_44 rfl rfl (zk_7 L) rfl rfl (c_Co_bestJ (x := x) (y := y) h (by omega) (by omega) (by omega) (by omega)) (fun M44 h44 => ?_)
          obtain ⟨p1, p2, p3, p4⟩ := h44
          have e7 : ∀ k, M44 7 k = M 7 k := p1 7 (by omega)
          refine wp_iload_n (pc := 47) d_P_collate_47 rfl ?_
          refine wp_callV1f (pc := 48) d_P_collate_48 rfl rfl (zAn_i L (x * 6 + y).toNat (by omega)).1 rfl rfl (c_An_tally (zAn_i L (x * 6 + y).toNat (by omega))) ?_
          rw [if_pos (by omega)]
          refine wp_ireturn (pc := 51) d_P_collate_51 rfl ?_
          have ht := qKm_ta (w := w) p4 (by omega) (by rw [e7]; omega) (by omega) (by rw [e7]; omega) (by omega) (by omega)
          rw [p3] at ht
          refine ⟨_, rfl, ?_, p1.up (fun a ha => by omega), p2, p3⟩
          unfold xCo
          rw [if_pos (by omega), if_pos (by omega), ht]
        · refine wp_bipush (pc := 35) d_P_collate_35 rfl ?_
          refine wp_ireturn (pc := 37) d_P_collate_37 rfl ?_
          exact ⟨_, rfl, by unfold xCo; rw [if_pos (by omega), if_neg (by omega)], zSm.rf, h, rfl⟩
    · have c19 := zb_eq0 (Decidable.of_not_not c19)
      refine wp_bipush (pc := 22) d_P_collate_22 rfl ?_
      refine wp_ireturn (pc := 24) d_P_collate_24 rfl ?_
      exact ⟨_, rfl, by unfold xCo; rw [if_neg (by omega)], zSm.rf, h, rfl⟩
theorem c_P_step (h : qIC M) : Ci L 4 zm_P_step [rV 4, iV x, iV y, iV p] M (fun z M' => z = xSp (qDC M) x y p ∧ zSm (fun a => a = 11 ∨ (24 ≤ a ∧ a < 147)) M M' ∧ qIC M' ∧ qDC M' = qDC M) := by
  show wp L _ zm_P_step 0 [rV 4, iV x, iV y, iV p, uV] [] M _
  have hci := h.1
  obtain ⟨a1, a2, a3, a4, a5, a6⟩ := hci
  have hd := h.d
  have hpl := qDC_pl h.1
  have eN : (qDC M).2.2.2 = M 7 3 := rfl
  refine wp_aload_n (pc := 0) d_P_step_0 rfl ?_
  refine wp_getR (pc := 1) d_P_step_1 rfl (zk_4 L) zx_4_1 ?_
  refine wp_iload_n (pc := 4) d_P_step_4 rfl ?_
  refine wp_callV1f (pc := 5) d_P_step_5 rfl rfl (zk_7 L) rfl rfl c_Co_has ?_
  refine wp_if_eq (tgt := 22) (pc := 8) d_P_step_8 rfl (fun c8 => ?_) (fun c8 => ?_)
  · have c8 := zb_eq0 c8
    refine wp_bipush (pc := 22) d_P_step_22 rfl ?_
    refine wp_ireturn (pc := 24) d_P_step_24 rfl ?_
    exact ⟨_, rfl, by unfold xSp; rw [if_neg (by omega)], zSm.rf, h, rfl⟩
  · have c8 := zb_ne0 c8
    refine wp_aload_n (pc := 11) d_P_step_11 rfl ?_
    refine wp_getR (pc := 12) d_P_step_12 rfl (zk_4 L) zx_4_1 ?_
    refine wp_iload_n (pc := 15) d_P_step_15 rfl ?_
    refine wp_callV1f (pc := 16) d_P_step_16 rfl rfl (zk_7 L) rfl rfl c_Co_has ?_
    refine wp_if_ne (tgt := 25) (pc := 19) d_P_step_19 rfl (fun c19 => ?_) (fun c19 => ?_)
    · have c19 := zb_ne0 c19
      refine wp_aload_n (pc := 25) d_P_step_25 rfl ?_
      refine wp_getR (pc := 26) d_P_step_26 rfl (zk_4 L) zx_4_1 ?_
      refine wp_iload_n (pc := 29) d_P_step_29 rfl ?_
      refine wp_iload_n (pc := 30) d_P_step_30 rfl ?_
      refine wp_callV2r (pc := 31) d_P_step_31 rfl rfl (zk_7 L) rfl rfl (c_Co_bestJ (x := x) (y := y) h (by omega) (by omega) (by omega) (by omega)) (fun M31 h31 => ?_)
      obtain ⟨p1, p2, p3, p4⟩ := h31
      have e7 : ∀ k, M31 7 k = M 7 k := p1 7 (by omega)
      have hfo := qKm_fo p4 (by omega) (by rw [e7]; omega) (by omega) (by rw [e7]; omega)
      have hta := qKm_ta (w := 1) p4 (by omega) (by rw [e7]; omega) (by omega) (by rw [e7]; omega) (by decide) (by decide)
      have hst := qKm_st p4 (by omega) (by rw [e7]; omega) (by omega) (by rw [e7]; omega)
      rw [p3] at hfo hta hst
      have hle : M31 (24 + 3 * (x * 6 + y).toNat + 2) 1 ≤ 48 := by
        by_cases hi : uIn (qDC M) x y
        · have := hst hi; omega
        · have h9 : M31 (24 + 3 * (x * 6 + y).toNat + 2) 1 = uTa (qDC M) x y 1 := hta
          rw [h9]; unfold uTa; rw [if_neg hi]; decide
      refine wp_ast4 (pc := 34) d_P_step_34 rfl ?_
      refine wp_aload (pc := 36) d_P_step_36 rfl ?_
      refine wp_iload_n (pc := 38) d_P_step_38 rfl ?_
      refine wp_callV1f (pc := 39) d_P_step_39 rfl rfl (zAn_i L (x * 6 + y).toNat (by omega)).1 rfl rfl (c_An_hasStep (zAn_i L (x * 6 + y).toNat (by omega))) ?_
      refine wp_if_eq (tgt := 54) (pc := 42) d_P_step_42 rfl (fun c42 => ?_) (fun c42 => ?_)
      · have c42 := zb_eq0 c42
        refine wp_bipush (pc := 54) d_P_step_54 rfl ?_
        refine wp_ireturn (pc := 56) d_P_step_56 rfl ?_
        refine ⟨_, rfl, ?_, p1.up (fun a ha => by omega), p2, p3⟩
        have hx : xSp (qDC M) x y p = if uIn (qDC M) x y ∧ 0 ≤ p ∧ p < (uK (qDC M) x y : Int) then qSt ((qDC M).1 x) ((qDC M).1 y) ((qDC M).2.1 x) ((qDC M).2.1 y) (qDC M).2.2.1 p.toNat else -101 := if_pos ⟨c8, c19⟩
        rw [hx]
        by_cases hi : uIn (qDC M) x y
        · have q1 := hst hi
          have q2 := hfo.1 hi
          rw [q2, if_neg (by decide), q1.2.2.1] at c42
          first
          | (rw [if_neg (fun z => c42 z.2)])
          | (have q3 : (0 ≤ p ∧ p < if M31 (24 + 3 * (x * 6 + y).toNat) 3 = 0 then 0 else M31 (24 + 3 * (x * 6 + y).toNat + 2) 1) := by rw [q2, if_neg (by decide), q1.2.2.1]; exact c42
             rw [if_pos q3, if_pos ⟨hi, c42⟩, q1.2.2.2 _ (by omega)]
             rw [qDC_1 c8.1 c8.2, qDC_1 c19.1 c19.2, qDC_2 c8.1 c8.2, qDC_2 c19.1 c19.2]
             rw [qTx_eq (M := M) (M' := M31) (p1 (12 + 2 * x.toNat) (by omega) 1) (p1 _ (by omega)), qTx_eq (M := M) (M' := M31) (p1 (12 + 2 * y.toNat) (by omega) 1) (p1 _ (by omega)), p1 (12 + 2 * x.toNat) (by omega) 1, p1 (12 + 2 * y.toNat) (by omega) 1, p1 7 (by omega) 4]
             rfl)
        · have q2 := hfo.2 hi
          rw [q2, if_pos rfl] at c42
          first
          | exact absurd c42 (by omega)
          | (rw [if_neg (fun z => hi z.1)])
      · have c42 := zb_ne0 c42
        refine wp_aload (pc := 45) d_P_step_45 rfl ?_
        refine wp_iload_n (pc := 47) d_P_step_47 rfl ?_
        refine wp_callV1f (pc := 48) d_P_step_48 rfl rfl (zAn_i L (x * 6 + y).toNat (by omega)).1 rfl rfl (c_An_stepAt (zAn_i L (x * 6 + y).toNat (by omega)) hle) ?_
        refine wp_goto (tgt := 56) (pc := 51) d_P_step_51 rfl ?_
        refine wp_ireturn (pc := 56) d_P_step_56 rfl ?_
        refine ⟨_, rfl, ?_, p1.up (fun a ha => by omega), p2, p3⟩
        have hx : xSp (qDC M) x y p = if uIn (qDC M) x y ∧ 0 ≤ p ∧ p < (uK (qDC M) x y : Int) then qSt ((qDC M).1 x) ((qDC M).1 y) ((qDC M).2.1 x) ((qDC M).2.1 y) (qDC M).2.2.1 p.toNat else -101 := if_pos ⟨c8, c19⟩
        rw [hx]
        by_cases hi : uIn (qDC M) x y
        · have q1 := hst hi
          have q2 := hfo.1 hi
          rw [q2, if_neg (by decide), q1.2.2.1] at c42
          first
          | (rw [if_neg (fun z => c42 z.2)])
          | (have q3 : (0 ≤ p ∧ p < if M31 (24 + 3 * (x * 6 + y).toNat) 3 = 0 then 0 else M31 (24 + 3 * (x * 6 + y).toNat + 2) 1) := by rw [q2, if_neg (by decide), q1.2.2.1]; exact c42
             rw [if_pos q3, if_pos ⟨hi, c42⟩, q1.2.2.2 _ (by omega)]
             rw [qDC_1 c8.1 c8.2, qDC_1 c19.1 c19.2, qDC_2 c8.1 c8.2, qDC_2 c19.1 c19.2]
             rw [qTx_eq (M := M) (M' := M31) (p1 (12 + 2 * x.toNat) (by omega) 1) (p1 _ (by omega)), qTx_eq (M := M) (M' := M31) (p1 (12 + 2 * y.toNat) (by omega) 1) (p1 _ (by omega)), p1 (12 + 2 * x.toNat) (by omega) 1, p1 (12 + 2 * y.toNat) (by omega) 1, p1 7 (by omega) 4]
             rfl)
        · have q2 := hfo.2 hi
          rw [q2, if_pos rfl] at c42
          first
          | exact absurd c42 (by omega)
          | (rw [if_neg (fun z => hi z.1)])
    · have c19 := zb_eq0 (Decidable.of_not_not c19)
      refine wp_bipush (pc := 22) d_P_step_22 rfl ?_
      refine wp_ireturn (pc := 24) d_P_step_24 rfl ?_
      exact ⟨_, rfl, by unfold xSp; rw [if_neg (by omega)], zSm.rf, h, rfl⟩
theorem c_P_reading (h : qIC M) : Ci L 6 zm_P_reading [rV 4, iV c, iV p] M (fun z M' => z = xRd (qDC M) c p ∧ zSm (fun a => a = 11 ∨ (24 ≤ a ∧ a < 147)) M M' ∧ qIC M' ∧ qDC M' = qDC M) := by
  show wp L _ zm_P_reading 0 [rV 4, iV c, iV p] [] M _
  have hci := h.1
  obtain ⟨a1, a2, a3, a4, a5, a6⟩ := hci
  have hd := h.d
  have hpl := qDC_pl h.1
  have eN : (qDC M).2.2.2 = M 7 3 := rfl
  refine wp_aload_n (pc := 0) d_P_reading_0 rfl ?_
  refine wp_getR (pc := 1) d_P_reading_1 rfl (zk_4 L) zx_4_1 ?_
  refine wp_iload_n (pc := 4) d_P_reading_4 rfl ?_
  refine wp_callV1f (pc := 5) d_P_reading_5 rfl rfl (zk_7 L) rfl rfl c_Co_has ?_
  refine wp_if_eq (tgt := 26) (pc := 8) d_P_reading_8 rfl (fun c8 => ?_) (fun c8 => ?_)
  · have c8 := zb_eq0 c8
    refine wp_bipush (pc := 26) d_P_reading_26 rfl ?_
    refine wp_ireturn (pc := 28) d_P_reading_28 rfl ?_
    refine ⟨_, rfl, ?_, zSm.rf, h, rfl⟩
    unfold xRd
    first
    | rw [if_neg (fun z => c8 z.1)]
    | rw [if_neg (fun z => c23 z.2)]
  · have c8 := zb_ne0 c8
    refine wp_aload_n (pc := 11) d_P_reading_11 rfl ?_
    refine wp_getR (pc := 12) d_P_reading_12 rfl (zk_4 L) zx_4_1 ?_
    refine wp_iconst (pc := 15) d_P_reading_15 rfl ?_
    refine wp_callV1f (pc := 16) d_P_reading_16 rfl rfl (zk_7 L) rfl rfl (c_Co_text (by omega)) ?_
    rw [if_pos (by omega)]
    refine wp_iload_n (pc := 19) d_P_reading_19 rfl ?_
    refine wp_callV1f (pc := 20) d_P_reading_20 rfl rfl (zTx_i L (show 0 < 6 by decide)).1 rfl rfl (c_Text_has (zTx_i L (show 0 < 6 by decide))) ?_
    have ep : M (12 + 2 * (0 : Int).toNat) 1 = uPl (qDC M) := (hpl.2.2 (by omega)).symm
    rw [ep]
    refine wp_if_ne (tgt := 29) (pc := 23) d_P_reading_23 rfl (fun c23 => ?_) (fun c23 => ?_)
    · have c23 := zb_ne0 c23
      refine wp_aload_n (pc := 29) d_P_reading_29 rfl ?_
      refine wp_getR (pc := 30) d_P_reading_30 rfl (zk_4 L) zx_4_2 ?_
      refine wp_aload_n (pc := 33) d_P_reading_33 rfl ?_
      refine wp_getR (pc := 34) d_P_reading_34 rfl (zk_4 L) zx_4_1 ?_
      refine wp_callV1v (pc := 37) d_P_reading_37 rfl rfl (zk_132 L) rfl rfl (c_Sm_buildI h) (fun M37 h37 => ?_)
      obtain ⟨z1, z2, z3, z4⟩ := h37
      have z5 : ∀ k, M37 7 k = M 7 k := z1 7 (by omega)
      have hq := qBu_i (x := 0) z4 hd.1 hd.2.1 hpl.1 hpl.2.1
      refine wp_aload_n (pc := 40) d_P_reading_40 rfl ?_
      refine wp_getR (pc := 41) d_P_reading_41 rfl (zk_4 L) zx_4_2 ?_
      refine wp_iload_n (pc := 44) d_P_reading_44 rfl ?_
      refine wp_callV1f (pc := 45) d_P_reading_45 rfl rfl (zk_132 L) rfl rfl c_Sm_isExcl ?_
      have hso := qBu_so z4 hd.1 hd.2.1 hpl.1 hpl.2.1 (c := c) (by omega) (by omega)
      rw [if_pos (show 0 ≤ c ∧ c < 6 by omega)]
      refine wp_if_eq (tgt := 54) (pc := 48) d_P_reading_48 rfl (fun c48 => ?_) (fun c48 => ?_)
      · have hin : uIn (qDC M) 0 c := Decidable.of_not_not (fun z => zb_eq0 c48 (hso.2.2 z))
        refine wp_aload_n (pc := 54) d_P_reading_54 rfl ?_
        refine wp_getR (pc := 55) d_P_reading_55 rfl (zk_4 L) zx_4_2 ?_
        refine wp_iload_n (pc := 58) d_P_reading_58 rfl ?_
        refine wp_iload_n (pc := 59) d_P_reading_59 rfl ?_
        refine wp_callV2f (pc := 60) d_P_reading_60 rfl rfl (zk_132 L) rfl rfl (c_Sm_readingAt hq.1.2.1.2) ?_
        refine wp_ireturn (pc := 63) d_P_reading_63 rfl ?_
        refine ⟨_, rfl, ?_, z1, z2, z3⟩
        unfold xRd
        rw [if_pos ⟨c8, c23⟩, if_pos hin]
        exact qBu_rd z4 hd.1 hd.2.1 hpl.1 hpl.2.1 c8.1 c8.2 hin c23.1 c23.2
      · have hin : ¬ uIn (qDC M) 0 c := hso.2.1 (zb_ne0 c48)
        refine wp_bipush (pc := 51) d_P_reading_51 rfl ?_
        refine wp_ireturn (pc := 53) d_P_reading_53 rfl ?_
        refine ⟨_, rfl, ?_, z1, z2, z3⟩
        unfold xRd
        rw [if_pos ⟨c8, c23⟩, if_neg hin]
    · have c23 := zb_eq0 (Decidable.of_not_not c23)
      refine wp_bipush (pc := 26) d_P_reading_26 rfl ?_
      refine wp_ireturn (pc := 28) d_P_reading_28 rfl ?_
      refine ⟨_, rfl, ?_, zSm.rf, h, rfl⟩
      unfold xRd
      first
      | rw [if_neg (fun z => c8 z.1)]
      | rw [if_neg (fun z => c23 z.2)]
theorem c_P_states (h : qIC M) : Ci L 6 zm_P_states [rV 4, iV w] M (fun z M' => z = xSs (qDC M) w ∧ zSm (fun a => a = 11 ∨ (24 ≤ a ∧ a < 147)) M M' ∧ qIC M' ∧ qDC M' = qDC M) := by
  show wp L _ zm_P_states 0 [rV 4, iV w] [] M _
  have hci := h.1
  obtain ⟨a1, a2, a3, a4, a5, a6⟩ := hci
  have hd := h.d
  have hpl := qDC_pl h.1
  have eN : (qDC M).2.2.2 = M 7 3 := rfl
  refine wp_iload_n (pc := 0) d_P_states_0 rfl ?_
  refine wp_if_lt (tgt := 9) (pc := 1) d_P_states_1 rfl (fun c1 => ?_) (fun c1 => ?_)
  · refine wp_bipush (pc := 9) d_P_states_9 rfl ?_
    refine wp_ireturn (pc := 11) d_P_states_11 rfl ?_
    exact ⟨_, rfl, by unfold xSs; rw [if_neg (by omega)], zSm.rf, h, rfl⟩
  · refine wp_iload_n (pc := 4) d_P_states_4 rfl ?_
    refine wp_iconst (pc := 5) d_P_states_5 rfl ?_
    refine wp_icmp_le (tgt := 12) (pc := 6) d_P_states_6 rfl (fun c6 => ?_) (fun c6 => ?_)
    · refine wp_aload_n (pc := 12) d_P_states_12 rfl ?_
      refine wp_getR (pc := 13) d_P_states_13 rfl (zk_4 L) zx_4_2 ?_
      refine wp_aload_n (pc := 16) d_P_states_16 rfl ?_
      refine wp_getR (pc := 17) d_P_states_17 rfl (zk_4 L) zx_4_1 ?_
      refine wp_callV1v (pc := 20) d_P_states_20 rfl rfl (zk_132 L) rfl rfl (c_Sm_buildI h) (fun M20 h20 => ?_)
      obtain ⟨z1, z2, z3, z4⟩ := h20
      have z5 : ∀ k, M20 7 k = M 7 k := z1 7 (by omega)
      have hq := qBu_i (x := 0) z4 hd.1 hd.2.1 hpl.1 hpl.2.1
      refine wp_aload_n (pc := 23) d_P_states_23 rfl ?_
      refine wp_getR (pc := 24) d_P_states_24 rfl (zk_4 L) zx_4_2 ?_
      refine wp_iload_n (pc := 27) d_P_states_27 rfl ?_
      refine wp_callV1f (pc := 28) d_P_states_28 rfl rfl (zk_132 L) rfl rfl (c_Sm_da hq.1) ?_
      refine wp_ireturn (pc := 31) d_P_states_31 rfl ?_
      refine ⟨_, rfl, ?_, z1, z2, z3⟩
      unfold xSs
      rw [if_pos (by omega)]
      exact qBu_da z4 hd.1 hd.2.1 hpl.1 hpl.2.1
    · refine wp_bipush (pc := 9) d_P_states_9 rfl ?_
      refine wp_ireturn (pc := 11) d_P_states_11 rfl ?_
      exact ⟨_, rfl, by unfold xSs; rw [if_neg (by omega)], zSm.rf, h, rfl⟩
theorem c_P_state (h : qIC M) : Ci L 6 zm_P_state [rV 4, iV s, iV w] M (fun z M' => z = xSe (qDC M) s w ∧ zSm (fun a => a = 11 ∨ (24 ≤ a ∧ a < 147)) M M' ∧ qIC M' ∧ qDC M' = qDC M) := by
  show wp L _ zm_P_state 0 [rV 4, iV s, iV w] [] M _
  have hci := h.1
  obtain ⟨a1, a2, a3, a4, a5, a6⟩ := hci
  have hd := h.d
  have hpl := qDC_pl h.1
  have eN : (qDC M).2.2.2 = M 7 3 := rfl
  refine wp_aload_n (pc := 0) d_P_state_0 rfl ?_
  refine wp_getR (pc := 1) d_P_state_1 rfl (zk_4 L) zx_4_2 ?_
  refine wp_aload_n (pc := 4) d_P_state_4 rfl ?_
  refine wp_getR (pc := 5) d_P_state_5 rfl (zk_4 L) zx_4_1 ?_
  refine wp_callV1v (pc := 8) d_P_state_8 rfl rfl (zk_132 L) rfl rfl (c_Sm_buildI h) (fun M8 h8 => ?_)
  obtain ⟨z1, z2, z3, z4⟩ := h8
  have z5 : ∀ k, M8 7 k = M 7 k := z1 7 (by omega)
  have hq := qBu_i (x := 0) z4 hd.1 hd.2.1 hpl.1 hpl.2.1
  refine wp_aload_n (pc := 11) d_P_state_11 rfl ?_
  refine wp_getR (pc := 12) d_P_state_12 rfl (zk_4 L) zx_4_2 ?_
  refine wp_iload_n (pc := 15) d_P_state_15 rfl ?_
  refine wp_callV1f (pc := 16) d_P_state_16 rfl rfl (zk_132 L) rfl rfl c_Sm_has ?_
  rw [hq.2.1]
  refine wp_if_ne (tgt := 25) (pc := 19) d_P_state_19 rfl (fun c19 => ?_) (fun c19 => ?_)
  · have c19 := zb_ne0 c19
    refine wp_iload_n (pc := 25) d_P_state_25 rfl ?_
    refine wp_if_lt (tgt := 35) (pc := 26) d_P_state_26 rfl (fun c26 => ?_) (fun c26 => ?_)
    · refine wp_bipush (pc := 35) d_P_state_35 rfl ?_
      refine wp_ireturn (pc := 37) d_P_state_37 rfl ?_
      exact ⟨_, rfl, by unfold xSe; rw [if_pos c19, if_neg (by omega)], z1, z2, z3⟩
    · refine wp_iload_n (pc := 29) d_P_state_29 rfl ?_
      refine wp_bipush (pc := 30) d_P_state_30 rfl ?_
      refine wp_icmp_le (tgt := 38) (pc := 32) d_P_state_32 rfl (fun c32 => ?_) (fun c32 => ?_)
      · refine wp_aload_n (pc := 38) d_P_state_38 rfl ?_
        refine wp_getR (pc := 39) d_P_state_39 rfl (zk_4 L) zx_4_2 ?_
        refine wp_iload_n (pc := 42) d_P_state_42 rfl ?_
        refine wp_iload_n (pc := 43) d_P_state_43 rfl ?_
        refine wp_callV2f (pc := 44) d_P_state_44 rfl rfl (zk_132 L) rfl rfl (c_Sm_de hq.1 (by omega) (by rw [hq.2.1]; omega)) ?_
        refine wp_ireturn (pc := 47) d_P_state_47 rfl ?_
        refine ⟨_, rfl, ?_, z1, z2, z3⟩
        unfold xSe
        rw [if_pos c19, if_pos (by omega)]
        exact qBu_de z4 hd.1 hd.2.1 hpl.1 hpl.2.1 c19.1 c19.2
      · refine wp_bipush (pc := 35) d_P_state_35 rfl ?_
        refine wp_ireturn (pc := 37) d_P_state_37 rfl ?_
        exact ⟨_, rfl, by unfold xSe; rw [if_pos c19, if_neg (by omega)], z1, z2, z3⟩
  · have c19 := zb_eq0 (Decidable.of_not_not c19)
    refine wp_bipush (pc := 22) d_P_state_22 rfl ?_
    refine wp_ireturn (pc := 24) d_P_state_24 rfl ?_
    exact ⟨_, rfl, by unfold xSe; rw [if_neg c19], z1, z2, z3⟩
theorem c_P_far (h : qIC M) : Ci L 6 zm_P_far [rV 4, iV x, iV y] M (fun z M' => z = xFa (qDC M) x y ∧ zSm (fun a => a = 11 ∨ (24 ≤ a ∧ a < 147)) M M' ∧ qIC M' ∧ qDC M' = qDC M) := by
  show wp L _ zm_P_far 0 [rV 4, iV x, iV y] [] M _
  have hci := h.1
  obtain ⟨a1, a2, a3, a4, a5, a6⟩ := hci
  have hd := h.d
  have hpl := qDC_pl h.1
  have eN : (qDC M).2.2.2 = M 7 3 := rfl
  refine wp_aload_n (pc := 0) d_P_far_0 rfl ?_
  refine wp_getR (pc := 1) d_P_far_1 rfl (zk_4 L) zx_4_2 ?_
  refine wp_aload_n (pc := 4) d_P_far_4 rfl ?_
  refine wp_getR (pc := 5) d_P_far_5 rfl (zk_4 L) zx_4_1 ?_
  refine wp_callV1v (pc := 8) d_P_far_8 rfl rfl (zk_132 L) rfl rfl (c_Sm_buildI h) (fun M8 h8 => ?_)
  obtain ⟨z1, z2, z3, z4⟩ := h8
  have z5 : ∀ k, M8 7 k = M 7 k := z1 7 (by omega)
  have hq := qBu_i (x := 0) z4 hd.1 hd.2.1 hpl.1 hpl.2.1
  refine wp_aload_n (pc := 11) d_P_far_11 rfl ?_
  refine wp_getR (pc := 12) d_P_far_12 rfl (zk_4 L) zx_4_2 ?_
  refine wp_iload_n (pc := 15) d_P_far_15 rfl ?_
  refine wp_callV1f (pc := 16) d_P_far_16 rfl rfl (zk_132 L) rfl rfl c_Sm_has ?_
  rw [hq.2.1]
  refine wp_if_eq (tgt := 33) (pc := 19) d_P_far_19 rfl (fun c19 => ?_) (fun c19 => ?_)
  · have c19 := zb_eq0 c19
    refine wp_bipush (pc := 33) d_P_far_33 rfl ?_
    refine wp_ireturn (pc := 35) d_P_far_35 rfl ?_
    exact ⟨_, rfl, by unfold xFa; rw [if_neg (by omega)], z1, z2, z3⟩
  · have c19 := zb_ne0 c19
    refine wp_aload_n (pc := 22) d_P_far_22 rfl ?_
    refine wp_getR (pc := 23) d_P_far_23 rfl (zk_4 L) zx_4_2 ?_
    refine wp_iload_n (pc := 26) d_P_far_26 rfl ?_
    refine wp_callV1f (pc := 27) d_P_far_27 rfl rfl (zk_132 L) rfl rfl c_Sm_has ?_
    rw [hq.2.1]
    refine wp_if_ne (tgt := 36) (pc := 30) d_P_far_30 rfl (fun c30 => ?_) (fun c30 => ?_)
    · have c30 := zb_ne0 c30
      refine wp_aload_n (pc := 36) d_P_far_36 rfl ?_
      refine wp_getR (pc := 37) d_P_far_37 rfl (zk_4 L) zx_4_2 ?_
      refine wp_iload_n (pc := 40) d_P_far_40 rfl ?_
      refine wp_iload_n (pc := 41) d_P_far_41 rfl ?_
      refine wp_callV2f (pc := 42) d_P_far_42 rfl rfl (zk_132 L) rfl rfl (c_Sm_ds hq.1.2.1.1 hq.1.2.1.2 hq.1.1.2) ?_
      refine wp_ireturn (pc := 45) d_P_far_45 rfl ?_
      refine ⟨_, rfl, ?_, z1, z2, z3⟩
      unfold xFa
      rw [if_pos ⟨c19, c30⟩, qGm_ds hd.1 hd.2.1 z4.1]
    · have c30 := zb_eq0 (Decidable.of_not_not c30)
      refine wp_bipush (pc := 33) d_P_far_33 rfl ?_
      refine wp_ireturn (pc := 35) d_P_far_35 rfl ?_
      exact ⟨_, rfl, by unfold xFa; rw [if_neg (by omega)], z1, z2, z3⟩
theorem c_P_turned (h : qIC M) : Ci L 6 zm_P_turned [rV 4, iV s, iV p] M (fun z M' => z = xTu (qDC M) s p ∧ zSm (fun a => a = 11 ∨ (24 ≤ a ∧ a < 147)) M M' ∧ qIC M' ∧ qDC M' = qDC M) := by
  show wp L _ zm_P_turned 0 [rV 4, iV s, iV p] [] M _
  have hci := h.1
  obtain ⟨a1, a2, a3, a4, a5, a6⟩ := hci
  have hd := h.d
  have hpl := qDC_pl h.1
  have eN : (qDC M).2.2.2 = M 7 3 := rfl
  refine wp_aload_n (pc := 0) d_P_turned_0 rfl ?_
  refine wp_getR (pc := 1) d_P_turned_1 rfl (zk_4 L) zx_4_2 ?_
  refine wp_aload_n (pc := 4) d_P_turned_4 rfl ?_
  refine wp_getR (pc := 5) d_P_turned_5 rfl (zk_4 L) zx_4_1 ?_
  refine wp_callV1v (pc := 8) d_P_turned_8 rfl rfl (zk_132 L) rfl rfl (c_Sm_buildI h) (fun M8 h8 => ?_)
  obtain ⟨z1, z2, z3, z4⟩ := h8
  have z5 : ∀ k, M8 7 k = M 7 k := z1 7 (by omega)
  have hq := qBu_i (x := 0) z4 hd.1 hd.2.1 hpl.1 hpl.2.1
  refine wp_aload_n (pc := 11) d_P_turned_11 rfl ?_
  refine wp_getR (pc := 12) d_P_turned_12 rfl (zk_4 L) zx_4_2 ?_
  refine wp_iload_n (pc := 15) d_P_turned_15 rfl ?_
  refine wp_callV1f (pc := 16) d_P_turned_16 rfl rfl (zk_132 L) rfl rfl c_Sm_has ?_
  rw [hq.2.1]
  refine wp_if_eq (tgt := 37) (pc := 19) d_P_turned_19 rfl (fun c19 => ?_) (fun c19 => ?_)
  · have c19 := zb_eq0 c19
    refine wp_bipush (pc := 37) d_P_turned_37 rfl ?_
    refine wp_ireturn (pc := 39) d_P_turned_39 rfl ?_
    exact ⟨_, rfl, by unfold xTu; rw [if_neg (by omega)], z1, z2, z3⟩
  · have c19 := zb_ne0 c19
    have hN : 0 < M 7 3 := qN_pos hd.1 hd.2.2 (by omega)
    refine wp_aload_n (pc := 22) d_P_turned_22 rfl ?_
    refine wp_getR (pc := 23) d_P_turned_23 rfl (zk_4 L) zx_4_1 ?_
    refine wp_iconst (pc := 26) d_P_turned_26 rfl ?_
    refine wp_callV1f (pc := 27) d_P_turned_27 rfl rfl (zk_7 L) rfl rfl (c_Co_text (by rw [z5]; omega)) ?_
    rw [if_pos (by rw [z5]; omega)]
    refine wp_iload_n (pc := 30) d_P_turned_30 rfl ?_
    refine wp_callV1f (pc := 31) d_P_turned_31 rfl rfl (zTx_i L (show 0 < 6 by decide)).1 rfl rfl (c_Text_has (zTx_i L (show 0 < 6 by decide))) ?_
    have ep : M8 (12 + 2 * (0 : Int).toNat) 1 = uPl (qDC M) := (z1 12 (by omega) 1).trans (hpl.2.2 hN).symm
    rw [ep]
    refine wp_if_ne (tgt := 40) (pc := 34) d_P_turned_34 rfl (fun c34 => ?_) (fun c34 => ?_)
    · have c34 := zb_ne0 c34
      refine wp_aload_n (pc := 40) d_P_turned_40 rfl ?_
      refine wp_getR (pc := 41) d_P_turned_41 rfl (zk_4 L) zx_4_2 ?_
      refine wp_iload_n (pc := 44) d_P_turned_44 rfl ?_
      refine wp_iload_n (pc := 45) d_P_turned_45 rfl ?_
      refine wp_callV2f (pc := 46) d_P_turned_46 rfl rfl (zk_132 L) rfl rfl (c_Sm_isRev hq.1.1.2) ?_
      rw [hq.2.1, hq.2.2.1]
      refine wp_if_eq (tgt := 56) (pc := 49) d_P_turned_49 rfl (fun c49 => ?_) (fun c49 => ?_)
      · have c49 := zb_eq0 c49
        refine wp_iconst (pc := 56) d_P_turned_56 rfl ?_
        refine wp_ireturn (pc := 57) d_P_turned_57 rfl ?_
        refine ⟨_, rfl, ?_, z1, z2, z3⟩
        have hbit := qBu_bit z4 hd.1 hd.2.1 hpl.1 hpl.2.1 c19.1 c19.2 c34.1 c34.2
        unfold xTu
        rw [if_pos ⟨c19, c34⟩]
        first
        | (rw [if_neg (hbit.1 c49.2)])
        | (rw [if_pos (Decidable.of_not_not (fun z => c49 ⟨⟨c19, c34⟩, hbit.2 z⟩))])
      · have c49 := zb_ne0 c49
        refine wp_iconst (pc := 52) d_P_turned_52 rfl ?_
        refine wp_goto (tgt := 57) (pc := 53) d_P_turned_53 rfl ?_
        refine wp_ireturn (pc := 57) d_P_turned_57 rfl ?_
        refine ⟨_, rfl, ?_, z1, z2, z3⟩
        have hbit := qBu_bit z4 hd.1 hd.2.1 hpl.1 hpl.2.1 c19.1 c19.2 c34.1 c34.2
        unfold xTu
        rw [if_pos ⟨c19, c34⟩]
        first
        | (rw [if_neg (hbit.1 c49.2)])
        | (rw [if_pos (Decidable.of_not_not (fun z => c49 ⟨⟨c19, c34⟩, hbit.2 z⟩))])
    · have c34 := zb_eq0 (Decidable.of_not_not c34)
      refine wp_bipush (pc := 37) d_P_turned_37 rfl ?_
      refine wp_ireturn (pc := 39) d_P_turned_39 rfl ?_
      exact ⟨_, rfl, by unfold xTu; rw [if_neg (by omega)], z1, z2, z3⟩
end ZPc
