/-! the model's alignments -/
theorem zsw21 (lo a : Int) : (a < lo ∨ lo + 20 < a) ∨ a = lo ∨ a = lo + 1 ∨ a = lo + 2 ∨ a = lo + 3 ∨ a = lo + 4 ∨ a = lo + 5 ∨ a = lo + 6 ∨ a = lo + 7 ∨ a = lo + 8 ∨ a = lo + 9 ∨ a = lo + 10 ∨ a = lo + 11 ∨ a = lo + 12 ∨ a = lo + 13 ∨ a = lo + 14 ∨ a = lo + 15 ∨ a = lo + 16 ∨ a = lo + 17 ∨ a = lo + 18 ∨ a = lo + 19 ∨ a = lo + 20 := by omega
theorem mDi.l {D : qDt} (h : mDi D) {c : Int} (c0 : 0 ≤ c) (c1 : c < D.2.2.2) : 1 ≤ D.2.1 c ∧ D.2.1 c ≤ 24 := (h.2.2 c c0 c1).1
section ZM2
variable {L : Nat} {M : zM} {D : qDt} {Y : qYt} {g : qPt} {x y z w c p s i j : Int}
theorem c_M_family  : Cf L 0 zm_M_family [iV x] M (iV (mFm x)) M := by
  show wp L _ zm_M_family 0 [iV x] [] M _
  refine wp_iload_n (pc := 0) d_M_family_0 rfl ?_
  rcases zsw21 98 x with c1 | c1 | c1 | c1 | c1 | c1 | c1 | c1 | c1 | c1 | c1 | c1 | c1 | c1 | c1 | c1 | c1 | c1 | c1 | c1 | c1 | c1
  · refine wp_tableO (tgt := 118) (pc := 1) d_M_family_1 (by omega) rfl ?_
    refine wp_iload_n (pc := 118) d_M_family_118 rfl ?_
    refine wp_ireturn (pc := 119) d_M_family_119 rfl ?_
    first | (refine ⟨?_, rfl⟩; rw [c1]; rfl) | (refine ⟨?_, rfl⟩; unfold mFm; rw [if_neg (by omega)])
  · refine wp_tableI (tgt := 112) (off := 111) (pc := 1) d_M_family_1 (by omega) (by omega) (by rw [c1]; rfl) rfl ?_
    refine wp_bipush (pc := 112) d_M_family_112 rfl ?_
    refine wp_ireturn (pc := 114) d_M_family_114 rfl ?_
    first | (refine ⟨?_, rfl⟩; rw [c1]; rfl) | (refine ⟨?_, rfl⟩; unfold mFm; rw [if_neg (by omega)])
  · refine wp_tableI (tgt := 109) (off := 108) (pc := 1) d_M_family_1 (by omega) (by omega) (by rw [c1]; rfl) rfl ?_
    refine wp_bipush (pc := 109) d_M_family_109 rfl ?_
    refine wp_ireturn (pc := 111) d_M_family_111 rfl ?_
    first | (refine ⟨?_, rfl⟩; rw [c1]; rfl) | (refine ⟨?_, rfl⟩; unfold mFm; rw [if_neg (by omega)])
  · refine wp_tableI (tgt := 118) (off := 117) (pc := 1) d_M_family_1 (by omega) (by omega) (by rw [c1]; rfl) rfl ?_
    refine wp_iload_n (pc := 118) d_M_family_118 rfl ?_
    refine wp_ireturn (pc := 119) d_M_family_119 rfl ?_
    first | (refine ⟨?_, rfl⟩; rw [c1]; rfl) | (refine ⟨?_, rfl⟩; unfold mFm; rw [if_neg (by omega)])
  · refine wp_tableI (tgt := 109) (off := 108) (pc := 1) d_M_family_1 (by omega) (by omega) (by rw [c1]; rfl) rfl ?_
    refine wp_bipush (pc := 109) d_M_family_109 rfl ?_
    refine wp_ireturn (pc := 111) d_M_family_111 rfl ?_
    first | (refine ⟨?_, rfl⟩; rw [c1]; rfl) | (refine ⟨?_, rfl⟩; unfold mFm; rw [if_neg (by omega)])
  · refine wp_tableI (tgt := 106) (off := 105) (pc := 1) d_M_family_1 (by omega) (by omega) (by rw [c1]; rfl) rfl ?_
    refine wp_bipush (pc := 106) d_M_family_106 rfl ?_
    refine wp_ireturn (pc := 108) d_M_family_108 rfl ?_
    first | (refine ⟨?_, rfl⟩; rw [c1]; rfl) | (refine ⟨?_, rfl⟩; unfold mFm; rw [if_neg (by omega)])
  · refine wp_tableI (tgt := 118) (off := 117) (pc := 1) d_M_family_1 (by omega) (by omega) (by rw [c1]; rfl) rfl ?_
    refine wp_iload_n (pc := 118) d_M_family_118 rfl ?_
    refine wp_ireturn (pc := 119) d_M_family_119 rfl ?_
    first | (refine ⟨?_, rfl⟩; rw [c1]; rfl) | (refine ⟨?_, rfl⟩; unfold mFm; rw [if_neg (by omega)])
  · refine wp_tableI (tgt := 112) (off := 111) (pc := 1) d_M_family_1 (by omega) (by omega) (by rw [c1]; rfl) rfl ?_
    refine wp_bipush (pc := 112) d_M_family_112 rfl ?_
    refine wp_ireturn (pc := 114) d_M_family_114 rfl ?_
    first | (refine ⟨?_, rfl⟩; rw [c1]; rfl) | (refine ⟨?_, rfl⟩; unfold mFm; rw [if_neg (by omega)])
  · refine wp_tableI (tgt := 100) (off := 99) (pc := 1) d_M_family_1 (by omega) (by omega) (by rw [c1]; rfl) rfl ?_
    refine wp_bipush (pc := 100) d_M_family_100 rfl ?_
    refine wp_ireturn (pc := 102) d_M_family_102 rfl ?_
    first | (refine ⟨?_, rfl⟩; rw [c1]; rfl) | (refine ⟨?_, rfl⟩; unfold mFm; rw [if_neg (by omega)])
  · refine wp_tableI (tgt := 100) (off := 99) (pc := 1) d_M_family_1 (by omega) (by omega) (by rw [c1]; rfl) rfl ?_
    refine wp_bipush (pc := 100) d_M_family_100 rfl ?_
    refine wp_ireturn (pc := 102) d_M_family_102 rfl ?_
    first | (refine ⟨?_, rfl⟩; rw [c1]; rfl) | (refine ⟨?_, rfl⟩; unfold mFm; rw [if_neg (by omega)])
  · refine wp_tableI (tgt := 118) (off := 117) (pc := 1) d_M_family_1 (by omega) (by omega) (by rw [c1]; rfl) rfl ?_
    refine wp_iload_n (pc := 118) d_M_family_118 rfl ?_
    refine wp_ireturn (pc := 119) d_M_family_119 rfl ?_
    first | (refine ⟨?_, rfl⟩; rw [c1]; rfl) | (refine ⟨?_, rfl⟩; unfold mFm; rw [if_neg (by omega)])
  · refine wp_tableI (tgt := 100) (off := 99) (pc := 1) d_M_family_1 (by omega) (by omega) (by rw [c1]; rfl) rfl ?_
    refine wp_bipush (pc := 100) d_M_family_100 rfl ?_
    refine wp_ireturn (pc := 102) d_M_family_102 rfl ?_
    first | (refine ⟨?_, rfl⟩; rw [c1]; rfl) | (refine ⟨?_, rfl⟩; unfold mFm; rw [if_neg (by omega)])
  · refine wp_tableI (tgt := 118) (off := 117) (pc := 1) d_M_family_1 (by omega) (by omega) (by rw [c1]; rfl) rfl ?_
    refine wp_iload_n (pc := 118) d_M_family_118 rfl ?_
    refine wp_ireturn (pc := 119) d_M_family_119 rfl ?_
    first | (refine ⟨?_, rfl⟩; rw [c1]; rfl) | (refine ⟨?_, rfl⟩; unfold mFm; rw [if_neg (by omega)])
  · refine wp_tableI (tgt := 103) (off := 102) (pc := 1) d_M_family_1 (by omega) (by omega) (by rw [c1]; rfl) rfl ?_
    refine wp_bipush (pc := 103) d_M_family_103 rfl ?_
    refine wp_ireturn (pc := 105) d_M_family_105 rfl ?_
    first | (refine ⟨?_, rfl⟩; rw [c1]; rfl) | (refine ⟨?_, rfl⟩; unfold mFm; rw [if_neg (by omega)])
  · refine wp_tableI (tgt := 109) (off := 108) (pc := 1) d_M_family_1 (by omega) (by omega) (by rw [c1]; rfl) rfl ?_
    refine wp_bipush (pc := 109) d_M_family_109 rfl ?_
    refine wp_ireturn (pc := 111) d_M_family_111 rfl ?_
    first | (refine ⟨?_, rfl⟩; rw [c1]; rfl) | (refine ⟨?_, rfl⟩; unfold mFm; rw [if_neg (by omega)])
  · refine wp_tableI (tgt := 118) (off := 117) (pc := 1) d_M_family_1 (by omega) (by omega) (by rw [c1]; rfl) rfl ?_
    refine wp_iload_n (pc := 118) d_M_family_118 rfl ?_
    refine wp_ireturn (pc := 119) d_M_family_119 rfl ?_
    first | (refine ⟨?_, rfl⟩; rw [c1]; rfl) | (refine ⟨?_, rfl⟩; unfold mFm; rw [if_neg (by omega)])
  · refine wp_tableI (tgt := 118) (off := 117) (pc := 1) d_M_family_1 (by omega) (by omega) (by rw [c1]; rfl) rfl ?_
    refine wp_iload_n (pc := 118) d_M_family_118 rfl ?_
    refine wp_ireturn (pc := 119) d_M_family_119 rfl ?_
    first | (refine ⟨?_, rfl⟩; rw [c1]; rfl) | (refine ⟨?_, rfl⟩; unfold mFm; rw [if_neg (by omega)])
  · refine wp_tableI (tgt := 115) (off := 114) (pc := 1) d_M_family_1 (by omega) (by omega) (by rw [c1]; rfl) rfl ?_
    refine wp_bipush (pc := 115) d_M_family_115 rfl ?_
    refine wp_ireturn (pc := 117) d_M_family_117 rfl ?_
    first | (refine ⟨?_, rfl⟩; rw [c1]; rfl) | (refine ⟨?_, rfl⟩; unfold mFm; rw [if_neg (by omega)])
  · refine wp_tableI (tgt := 106) (off := 105) (pc := 1) d_M_family_1 (by omega) (by omega) (by rw [c1]; rfl) rfl ?_
    refine wp_bipush (pc := 106) d_M_family_106 rfl ?_
    refine wp_ireturn (pc := 108) d_M_family_108 rfl ?_
    first | (refine ⟨?_, rfl⟩; rw [c1]; rfl) | (refine ⟨?_, rfl⟩; unfold mFm; rw [if_neg (by omega)])
  · refine wp_tableI (tgt := 115) (off := 114) (pc := 1) d_M_family_1 (by omega) (by omega) (by rw [c1]; rfl) rfl ?_
    refine wp_bipush (pc := 115) d_M_family_115 rfl ?_
    refine wp_ireturn (pc := 117) d_M_family_117 rfl ?_
    first | (refine ⟨?_, rfl⟩; rw [c1]; rfl) | (refine ⟨?_, rfl⟩; unfold mFm; rw [if_neg (by omega)])
  · refine wp_tableI (tgt := 103) (off := 102) (pc := 1) d_M_family_1 (by omega) (by omega) (by rw [c1]; rfl) rfl ?_
    refine wp_bipush (pc := 103) d_M_family_103 rfl ?_
    refine wp_ireturn (pc := 105) d_M_family_105 rfl ?_
    first | (refine ⟨?_, rfl⟩; rw [c1]; rfl) | (refine ⟨?_, rfl⟩; unfold mFm; rw [if_neg (by omega)])
  · refine wp_tableI (tgt := 103) (off := 102) (pc := 1) d_M_family_1 (by omega) (by omega) (by rw [c1]; rfl) rfl ?_
    refine wp_bipush (pc := 103) d_M_family_103 rfl ?_
    refine wp_ireturn (pc := 105) d_M_family_105 rfl ?_
    first | (refine ⟨?_, rfl⟩; rw [c1]; rfl) | (refine ⟨?_, rfl⟩; unfold mFm; rw [if_neg (by omega)])
theorem c_M_pairCost (hx : 97 ≤ x ∧ x ≤ 122) (hy : 97 ≤ y ∧ y ≤ 122) : Cf L 1 zm_M_pairCost [iV x, iV y] M (iV (zKc (zKp x y))) M := by
  show wp L _ zm_M_pairCost 0 [iV x, iV y] [] M _
  have hp := mPc hx hy
  refine wp_iload_n (pc := 0) d_M_pairCost_0 rfl ?_
  refine wp_iload_n (pc := 1) d_M_pairCost_1 rfl ?_
  refine wp_icmp_ne (tgt := 9) (pc := 2) d_M_pairCost_2 rfl (fun c2 => ?_) (fun c2 => ?_)
  · refine wp_iload_n (pc := 9) d_M_pairCost_9 rfl ?_
    refine wp_callS1f (pc := 10) d_M_pairCost_10 rfl rfl rfl rfl rfl c_M_family ?_
    refine wp_iload_n (pc := 13) d_M_pairCost_13 rfl ?_
    refine wp_callS1f (pc := 14) d_M_pairCost_14 rfl rfl rfl rfl rfl c_M_family ?_
    refine wp_icmp_ne (tgt := 24) (pc := 17) d_M_pairCost_17 rfl (fun c17 => ?_) (fun c17 => ?_)
    · refine wp_iconst (pc := 24) d_M_pairCost_24 rfl ?_
      refine wp_ireturn (pc := 25) d_M_pairCost_25 rfl ?_
      refine ⟨?_, rfl⟩
      rw [← hp]
      first
      | rw [if_pos (Decidable.of_not_not c2)]
      | rw [if_neg c2, if_pos (Decidable.of_not_not c17)]
      | rw [if_neg c2, if_neg c17]
    · refine wp_iconst (pc := 20) d_M_pairCost_20 rfl ?_
      refine wp_goto (tgt := 25) (pc := 21) d_M_pairCost_21 rfl ?_
      refine wp_ireturn (pc := 25) d_M_pairCost_25 rfl ?_
      refine ⟨?_, rfl⟩
      rw [← hp]
      first
      | rw [if_pos (Decidable.of_not_not c2)]
      | rw [if_neg c2, if_pos (Decidable.of_not_not c17)]
      | rw [if_neg c2, if_neg c17]
  · refine wp_iconst (pc := 5) d_M_pairCost_5 rfl ?_
    refine wp_goto (tgt := 25) (pc := 6) d_M_pairCost_6 rfl ?_
    refine wp_ireturn (pc := 25) d_M_pairCost_25 rfl ?_
    refine ⟨?_, rfl⟩
    rw [← hp]
    first
    | rw [if_pos (Decidable.of_not_not c2)]
    | rw [if_neg c2, if_pos (Decidable.of_not_not c17)]
    | rw [if_neg c2, if_neg c17]
theorem c_M_letterAt (h : mH M D) (hd : mDi D) (c0 : 0 ≤ c) (c1 : c < D.2.2.2) (p0 : 0 ≤ p) (p1 : p < D.2.1 c) : Cf L 0 zm_M_letterAt [rV 174, iV c, iV p] M (iV (D.1 c p)) M := by
  show wp L _ zm_M_letterAt 0 [rV 174, iV c, iV p] [] M _
  have hl := hd.l c0 c1
  have hd1 := hd.1
  have e := (h.2.2 c c0 c1).2 p p0 p1
  refine wp_aload_n (pc := 0) d_M_letterAt_0 rfl ?_
  refine wp_getR (pc := 1) d_M_letterAt_1 rfl (zk_174 L) zx_174_4 ?_
  refine wp_bipush (pc := 4) d_M_letterAt_4 rfl ?_
  refine wp_iload_n (pc := 6) d_M_letterAt_6 rfl ?_
  refine wp_imul (pc := 7) d_M_letterAt_7 (by omega) (by omega) ?_
  refine wp_iload_n (pc := 8) d_M_letterAt_8 rfl ?_
  refine wp_iadd (pc := 9) d_M_letterAt_9 (by omega) (by omega) ?_
  refine wp_iald (pc := 10) d_M_letterAt_10 (zk_177 L) (by omega) (by omega) ?_
  refine wp_ireturn (pc := 11) d_M_letterAt_11 rfl ?_
  exact ⟨by rw [e], rfl⟩
theorem c_M_costBy (h : mH M D) (hd : mDi D) (x0 : 0 ≤ x) (x1 : x < D.2.2.2) (y0 : 0 ≤ y) (y1 : y < D.2.2.2) (e16 : M 174 16 = x) (e17 : M 174 17 = y) (i0 : 0 ≤ i) (i1 : i ≤ D.2.1 x) (j0 : 0 ≤ j) (j1 : j ≤ D.2.1 y) (s0 : 0 ≤ s) (s2 : s ≤ 2) (hT : ∀ i' j' : Int, (i' = i + 1 ∧ (j' = j ∨ j' = j + 1) ∨ i' = i ∧ j' = j + 1) → i' ≤ D.2.1 x → j' ≤ D.2.1 y → M 182 (25 * i' + j').toNat = mVl (D.1 x) (D.1 y) (D.2.1 x) (D.2.1 y) D.2.2.1 i' j') : Cf L 2 zm_M_costBy [rV 174, iV i, iV j, iV s] M (iV (mBy (D.1 x) (D.1 y) (D.2.1 x) (D.2.1 y) D.2.2.1 i j s)) M := by
  show wp L _ zm_M_costBy 0 [rV 174, iV i, iV j, iV s, uV] [] M _
  have hd1 := hd.1
  have lx := hd.l x0 x1
  have ly := hd.l y0 y1
  have nx := (h.2.2 x x0 x1).1
  have ny := (h.2.2 y y0 y1).1
  refine wp_iload_n (pc := 0) d_M_costBy_0 rfl ?_
  refine wp_aload_n (pc := 1) d_M_costBy_1 rfl ?_
  refine wp_getR (pc := 2) d_M_costBy_2 rfl (zk_174 L) zx_174_3 ?_
  refine wp_aload_n (pc := 5) d_M_costBy_5 rfl ?_
  refine wp_getI (pc := 6) d_M_costBy_6 rfl (by decide) (zk_174 L) ?_
  rw [e16]
  refine wp_iald (pc := 9) d_M_costBy_9 (zk_176 L) (by omega) (by omega) ?_
  rw [nx]
  refine wp_icmp_lt (tgt := 18) (pc := 10) d_M_costBy_10 rfl (fun c10 => ?_) (fun c10 => ?_)
  · refine wp_iconst (pc := 18) d_M_costBy_18 rfl ?_
    refine wp_goto (tgt := 23) (pc := 19) d_M_costBy_19 rfl ?_
    refine wp_ist4 (pc := 23) d_M_costBy_23 rfl ?_
    refine wp_iload (pc := 25) d_M_costBy_25 rfl ?_
    refine wp_if_eq (tgt := 52) (pc := 27) d_M_costBy_27 rfl (fun c27 => ?_) (fun c27 => ?_)
    · exact absurd c27 (by decide)
    · refine wp_iload_n (pc := 30) d_M_costBy_30 rfl ?_
      refine wp_aload_n (pc := 31) d_M_costBy_31 rfl ?_
      refine wp_getR (pc := 32) d_M_costBy_32 rfl (zk_174 L) zx_174_3 ?_
      refine wp_aload_n (pc := 35) d_M_costBy_35 rfl ?_
      refine wp_getI (pc := 36) d_M_costBy_36 rfl (by decide) (zk_174 L) ?_
      rw [e17]
      refine wp_iald (pc := 39) d_M_costBy_39 (zk_176 L) (by omega) (by omega) ?_
      rw [ny]
      refine wp_icmp_lt (tgt := 48) (pc := 40) d_M_costBy_40 rfl (fun c40 => ?_) (fun c40 => ?_)
      · refine wp_iconst (pc := 48) d_M_costBy_48 rfl ?_
        refine wp_goto (tgt := 53) (pc := 49) d_M_costBy_49 rfl ?_
        refine wp_ist4 (pc := 53) d_M_costBy_53 rfl ?_
        refine wp_iload (pc := 55) d_M_costBy_55 rfl ?_
        refine wp_if_eq (tgt := 96) (pc := 57) d_M_costBy_57 rfl (fun c57 => ?_) (fun c57 => ?_)
        · exact absurd c57 (by decide)
        · refine wp_iload_n (pc := 60) d_M_costBy_60 rfl ?_
          refine wp_iconst (pc := 61) d_M_costBy_61 rfl ?_
          refine wp_icmp_ne (tgt := 78) (pc := 62) d_M_costBy_62 rfl (fun c62 => ?_) (fun c62 => ?_)
          · refine wp_iload_n (pc := 78) d_M_costBy_78 rfl ?_
            refine wp_iconst (pc := 79) d_M_costBy_79 rfl ?_
            refine wp_icmp_ne (tgt := 99) (pc := 80) d_M_costBy_80 rfl (fun c80 => ?_) (fun c80 => ?_)
            · refine wp_iload_n (pc := 99) d_M_costBy_99 rfl ?_
              refine wp_if_ne (tgt := 141) (pc := 100) d_M_costBy_100 rfl (fun c100 => ?_) (fun c100 => ?_)
              · refine wp_iconst (pc := 141) d_M_costBy_141 rfl ?_
                refine wp_iload_n (pc := 142) d_M_costBy_142 rfl ?_
                refine wp_iconst (pc := 143) d_M_costBy_143 rfl ?_
                refine wp_icmp_ne (tgt := 163) (pc := 144) d_M_costBy_144 rfl (fun c144 => ?_) (fun c144 => ?_)
                · refine wp_aload_n (pc := 163) d_M_costBy_163 rfl ?_
                  refine wp_getR (pc := 164) d_M_costBy_164 rfl (zk_174 L) zx_174_13 ?_
                  refine wp_bipush (pc := 167) d_M_costBy_167 rfl ?_
                  refine wp_iload_n (pc := 169) d_M_costBy_169 rfl ?_
                  refine wp_imul (pc := 170) d_M_costBy_170 (by omega) (by omega) ?_
                  refine wp_iload_n (pc := 171) d_M_costBy_171 rfl ?_
                  refine wp_iadd (pc := 172) d_M_costBy_172 (by omega) (by omega) ?_
                  refine wp_iconst (pc := 173) d_M_costBy_173 rfl ?_
                  refine wp_iadd (pc := 174) d_M_costBy_174 (by omega) (by omega) ?_
                  refine wp_iald (pc := 175) d_M_costBy_175 (zk_182 L) (by omega) (by omega) ?_
                  rw [show (25 * i + j + 1).toNat = (25 * i + (j + 1)).toNat by omega, hT i (j + 1) (by omega) (by omega) (by omega)]
                  have b01 := mVl_b (f := D.1 x) (g := D.1 y) (n1 := D.2.1 x) (n2 := D.2.1 y) (b := D.2.2.1) lx.2 ly.2 i0 (show 0 ≤ j + 1 by omega)
                  refine wp_iadd (pc := 176) d_M_costBy_176 (by omega) (by omega) ?_
                  refine wp_ireturn (pc := 177) d_M_costBy_177 rfl ?_
                  refine ⟨?_, rfl⟩
                  unfold mBy
                  first | (exfalso; omega) | rw [if_neg (show ¬ s = 0 by omega), if_pos (show s = 1 by omega), if_pos (by omega)] | rw [if_neg (show ¬ s = 0 by omega), if_neg (show ¬ s = 1 by omega), if_pos (by omega)]
                · refine wp_aload_n (pc := 147) d_M_costBy_147 rfl ?_
                  refine wp_getR (pc := 148) d_M_costBy_148 rfl (zk_174 L) zx_174_13 ?_
                  refine wp_bipush (pc := 151) d_M_costBy_151 rfl ?_
                  refine wp_iload_n (pc := 153) d_M_costBy_153 rfl ?_
                  refine wp_iconst (pc := 154) d_M_costBy_154 rfl ?_
                  refine wp_iadd (pc := 155) d_M_costBy_155 (by omega) (by omega) ?_
                  refine wp_imul (pc := 156) d_M_costBy_156 (by omega) (by omega) ?_
                  refine wp_iload_n (pc := 157) d_M_costBy_157 rfl ?_
                  refine wp_iadd (pc := 158) d_M_costBy_158 (by omega) (by omega) ?_
                  refine wp_iald (pc := 159) d_M_costBy_159 (zk_182 L) (by omega) (by omega) ?_
                  rw [hT (i + 1) j (by omega) (by omega) (by omega)]
                  have b10 := mVl_b (f := D.1 x) (g := D.1 y) (n1 := D.2.1 x) (n2 := D.2.1 y) (b := D.2.2.1) lx.2 ly.2 (show 0 ≤ i + 1 by omega) j0
                  refine wp_goto (tgt := 176) (pc := 160) d_M_costBy_160 rfl ?_
                  refine wp_iadd (pc := 176) d_M_costBy_176 (by omega) (by omega) ?_
                  refine wp_ireturn (pc := 177) d_M_costBy_177 rfl ?_
                  refine ⟨?_, rfl⟩
                  unfold mBy
                  first | (exfalso; omega) | rw [if_neg (show ¬ s = 0 by omega), if_pos (show s = 1 by omega), if_pos (by omega)] | rw [if_neg (show ¬ s = 0 by omega), if_neg (show ¬ s = 1 by omega), if_pos (by omega)]
              · refine wp_aload_n (pc := 103) d_M_costBy_103 rfl ?_
                refine wp_getR (pc := 104) d_M_costBy_104 rfl (zk_174 L) zx_174_13 ?_
                refine wp_bipush (pc := 107) d_M_costBy_107 rfl ?_
                refine wp_iload_n (pc := 109) d_M_costBy_109 rfl ?_
                refine wp_iconst (pc := 110) d_M_costBy_110 rfl ?_
                refine wp_iadd (pc := 111) d_M_costBy_111 (by omega) (by omega) ?_
                refine wp_imul (pc := 112) d_M_costBy_112 (by omega) (by omega) ?_
                refine wp_iload_n (pc := 113) d_M_costBy_113 rfl ?_
                refine wp_iadd (pc := 114) d_M_costBy_114 (by omega) (by omega) ?_
                refine wp_iconst (pc := 115) d_M_costBy_115 rfl ?_
                refine wp_iadd (pc := 116) d_M_costBy_116 (by omega) (by omega) ?_
                refine wp_iald (pc := 117) d_M_costBy_117 (zk_182 L) (by omega) (by omega) ?_
                refine wp_aload_n (pc := 118) d_M_costBy_118 rfl ?_
                refine wp_aload_n (pc := 119) d_M_costBy_119 rfl ?_
                refine wp_getI (pc := 120) d_M_costBy_120 rfl (by decide) (zk_174 L) ?_
                rw [e16]
                refine wp_iload_n (pc := 123) d_M_costBy_123 rfl ?_
                refine wp_callV2f (pc := 124) d_M_costBy_124 rfl rfl (zk_174 L) rfl rfl (c_M_letterAt h hd x0 x1 (by omega) (by omega)) ?_
                refine wp_aload_n (pc := 127) d_M_costBy_127 rfl ?_
                refine wp_aload_n (pc := 128) d_M_costBy_128 rfl ?_
                refine wp_getI (pc := 129) d_M_costBy_129 rfl (by decide) (zk_174 L) ?_
                rw [e17]
                refine wp_iload_n (pc := 132) d_M_costBy_132 rfl ?_
                refine wp_callV2f (pc := 133) d_M_costBy_133 rfl rfl (zk_174 L) rfl rfl (c_M_letterAt h hd y0 y1 (by omega) (by omega)) ?_
                have t11 := hT (i + 1) (j + 1) (by omega) (by omega) (by omega)
                have b11 := mVl_b (f := D.1 x) (g := D.1 y) (n1 := D.2.1 x) (n2 := D.2.1 y) (b := D.2.2.1) lx.2 ly.2 (show 0 ≤ i + 1 by omega) (show 0 ≤ j + 1 by omega)
                have k11 := zKc_p (D.1 x i) (D.1 y j)
                rw [show (25 * (i + 1) + j + 1).toNat = (25 * (i + 1) + (j + 1)).toNat by omega, t11]
                refine wp_callS2f (pc := 136) d_M_costBy_136 rfl rfl rfl rfl rfl (c_M_pairCost ((hd.2.2 x x0 x1).2 i (by omega) (by omega)) ((hd.2.2 y y0 y1).2 j (by omega) (by omega))) ?_
                refine wp_iadd (pc := 139) d_M_costBy_139 (by omega) (by omega) ?_
                have q9 := True.intro
                refine wp_ireturn (pc := 140) d_M_costBy_140 rfl ?_
                refine ⟨?_, rfl⟩
                unfold mBy
                first | (exfalso; omega) | rw [if_pos (show s = 0 by omega), if_pos (by omega)]
            · refine wp_iload_n (pc := 83) d_M_costBy_83 rfl ?_
              refine wp_aload_n (pc := 84) d_M_costBy_84 rfl ?_
              refine wp_getR (pc := 85) d_M_costBy_85 rfl (zk_174 L) zx_174_3 ?_
              refine wp_aload_n (pc := 88) d_M_costBy_88 rfl ?_
              refine wp_getI (pc := 89) d_M_costBy_89 rfl (by decide) (zk_174 L) ?_
              rw [e17]
              refine wp_iald (pc := 92) d_M_costBy_92 (zk_176 L) (by omega) (by omega) ?_
              rw [ny]
              refine wp_icmp_ne (tgt := 99) (pc := 93) d_M_costBy_93 rfl (fun c93 => ?_) (fun c93 => ?_)
              · refine wp_iload_n (pc := 99) d_M_costBy_99 rfl ?_
                refine wp_if_ne (tgt := 141) (pc := 100) d_M_costBy_100 rfl (fun c100 => ?_) (fun c100 => ?_)
                · refine wp_iconst (pc := 141) d_M_costBy_141 rfl ?_
                  refine wp_iload_n (pc := 142) d_M_costBy_142 rfl ?_
                  refine wp_iconst (pc := 143) d_M_costBy_143 rfl ?_
                  refine wp_icmp_ne (tgt := 163) (pc := 144) d_M_costBy_144 rfl (fun c144 => ?_) (fun c144 => ?_)
                  · refine wp_aload_n (pc := 163) d_M_costBy_163 rfl ?_
                    refine wp_getR (pc := 164) d_M_costBy_164 rfl (zk_174 L) zx_174_13 ?_
                    refine wp_bipush (pc := 167) d_M_costBy_167 rfl ?_
                    refine wp_iload_n (pc := 169) d_M_costBy_169 rfl ?_
                    refine wp_imul (pc := 170) d_M_costBy_170 (by omega) (by omega) ?_
                    refine wp_iload_n (pc := 171) d_M_costBy_171 rfl ?_
                    refine wp_iadd (pc := 172) d_M_costBy_172 (by omega) (by omega) ?_
                    refine wp_iconst (pc := 173) d_M_costBy_173 rfl ?_
                    refine wp_iadd (pc := 174) d_M_costBy_174 (by omega) (by omega) ?_
                    refine wp_iald (pc := 175) d_M_costBy_175 (zk_182 L) (by omega) (by omega) ?_
                    rw [show (25 * i + j + 1).toNat = (25 * i + (j + 1)).toNat by omega, hT i (j + 1) (by omega) (by omega) (by omega)]
                    have b01 := mVl_b (f := D.1 x) (g := D.1 y) (n1 := D.2.1 x) (n2 := D.2.1 y) (b := D.2.2.1) lx.2 ly.2 i0 (show 0 ≤ j + 1 by omega)
                    refine wp_iadd (pc := 176) d_M_costBy_176 (by omega) (by omega) ?_
                    refine wp_ireturn (pc := 177) d_M_costBy_177 rfl ?_
                    refine ⟨?_, rfl⟩
                    unfold mBy
                    first | (exfalso; omega) | rw [if_neg (show ¬ s = 0 by omega), if_pos (show s = 1 by omega), if_pos (by omega)] | rw [if_neg (show ¬ s = 0 by omega), if_neg (show ¬ s = 1 by omega), if_pos (by omega)]
                  · refine wp_aload_n (pc := 147) d_M_costBy_147 rfl ?_
                    refine wp_getR (pc := 148) d_M_costBy_148 rfl (zk_174 L) zx_174_13 ?_
                    refine wp_bipush (pc := 151) d_M_costBy_151 rfl ?_
                    refine wp_iload_n (pc := 153) d_M_costBy_153 rfl ?_
                    refine wp_iconst (pc := 154) d_M_costBy_154 rfl ?_
                    refine wp_iadd (pc := 155) d_M_costBy_155 (by omega) (by omega) ?_
                    refine wp_imul (pc := 156) d_M_costBy_156 (by omega) (by omega) ?_
                    refine wp_iload_n (pc := 157) d_M_costBy_157 rfl ?_
                    refine wp_iadd (pc := 158) d_M_costBy_158 (by omega) (by omega) ?_
                    refine wp_iald (pc := 159) d_M_costBy_159 (zk_182 L) (by omega) (by omega) ?_
                    rw [hT (i + 1) j (by omega) (by omega) (by omega)]
                    have b10 := mVl_b (f := D.1 x) (g := D.1 y) (n1 := D.2.1 x) (n2 := D.2.1 y) (b := D.2.2.1) lx.2 ly.2 (show 0 ≤ i + 1 by omega) j0
                    refine wp_goto (tgt := 176) (pc := 160) d_M_costBy_160 rfl ?_
                    refine wp_iadd (pc := 176) d_M_costBy_176 (by omega) (by omega) ?_
                    refine wp_ireturn (pc := 177) d_M_costBy_177 rfl ?_
                    refine ⟨?_, rfl⟩
                    unfold mBy
                    first | (exfalso; omega) | rw [if_neg (show ¬ s = 0 by omega), if_pos (show s = 1 by omega), if_pos (by omega)] | rw [if_neg (show ¬ s = 0 by omega), if_neg (show ¬ s = 1 by omega), if_pos (by omega)]
                · refine wp_aload_n (pc := 103) d_M_costBy_103 rfl ?_
                  refine wp_getR (pc := 104) d_M_costBy_104 rfl (zk_174 L) zx_174_13 ?_
                  refine wp_bipush (pc := 107) d_M_costBy_107 rfl ?_
                  refine wp_iload_n (pc := 109) d_M_costBy_109 rfl ?_
                  refine wp_iconst (pc := 110) d_M_costBy_110 rfl ?_
                  refine wp_iadd (pc := 111) d_M_costBy_111 (by omega) (by omega) ?_
                  refine wp_imul (pc := 112) d_M_costBy_112 (by omega) (by omega) ?_
                  refine wp_iload_n (pc := 113) d_M_costBy_113 rfl ?_
                  refine wp_iadd (pc := 114) d_M_costBy_114 (by omega) (by omega) ?_
                  refine wp_iconst (pc := 115) d_M_costBy_115 rfl ?_
                  refine wp_iadd (pc := 116) d_M_costBy_116 (by omega) (by omega) ?_
                  refine wp_iald (pc := 117) d_M_costBy_117 (zk_182 L) (by omega) (by omega) ?_
                  refine wp_aload_n (pc := 118) d_M_costBy_118 rfl ?_
                  refine wp_aload_n (pc := 119) d_M_costBy_119 rfl ?_
                  refine wp_getI (pc := 120) d_M_costBy_120 rfl (by decide) (zk_174 L) ?_
                  rw [e16]
                  refine wp_iload_n (pc := 123) d_M_costBy_123 rfl ?_
                  refine wp_callV2f (pc := 124) d_M_costBy_124 rfl rfl (zk_174 L) rfl rfl (c_M_letterAt h hd x0 x1 (by omega) (by omega)) ?_
                  refine wp_aload_n (pc := 127) d_M_costBy_127 rfl ?_
                  refine wp_aload_n (pc := 128) d_M_costBy_128 rfl ?_
                  refine wp_getI (pc := 129) d_M_costBy_129 rfl (by decide) (zk_174 L) ?_
                  rw [e17]
                  refine wp_iload_n (pc := 132) d_M_costBy_132 rfl ?_
                  refine wp_callV2f (pc := 133) d_M_costBy_133 rfl rfl (zk_174 L) rfl rfl (c_M_letterAt h hd y0 y1 (by omega) (by omega)) ?_
                  have t11 := hT (i + 1) (j + 1) (by omega) (by omega) (by omega)
                  have b11 := mVl_b (f := D.1 x) (g := D.1 y) (n1 := D.2.1 x) (n2 := D.2.1 y) (b := D.2.2.1) lx.2 ly.2 (show 0 ≤ i + 1 by omega) (show 0 ≤ j + 1 by omega)
                  have k11 := zKc_p (D.1 x i) (D.1 y j)
                  rw [show (25 * (i + 1) + j + 1).toNat = (25 * (i + 1) + (j + 1)).toNat by omega, t11]
                  refine wp_callS2f (pc := 136) d_M_costBy_136 rfl rfl rfl rfl rfl (c_M_pairCost ((hd.2.2 x x0 x1).2 i (by omega) (by omega)) ((hd.2.2 y y0 y1).2 j (by omega) (by omega))) ?_
                  refine wp_iadd (pc := 139) d_M_costBy_139 (by omega) (by omega) ?_
                  have q9 := True.intro
                  refine wp_ireturn (pc := 140) d_M_costBy_140 rfl ?_
                  refine ⟨?_, rfl⟩
                  unfold mBy
                  first | (exfalso; omega) | rw [if_pos (show s = 0 by omega), if_pos (by omega)]
              · refine wp_ldc (pc := 96) d_M_costBy_96 rfl ?_
                refine wp_ireturn (pc := 98) d_M_costBy_98 rfl ?_
                refine ⟨?_, rfl⟩
                rcases (show s = 0 ∨ s = 1 ∨ s = 2 by omega) with e | e | e
                · first | (exfalso; omega) | rw [e, mBy_0, if_neg (by omega)]
                · first | (exfalso; omega) | rw [e, mBy_1, if_neg (by omega)]
                · first | (exfalso; omega) | rw [e, mBy_2, if_neg (by omega)]
          · refine wp_iload_n (pc := 65) d_M_costBy_65 rfl ?_
            refine wp_aload_n (pc := 66) d_M_costBy_66 rfl ?_
            refine wp_getR (pc := 67) d_M_costBy_67 rfl (zk_174 L) zx_174_3 ?_
            refine wp_aload_n (pc := 70) d_M_costBy_70 rfl ?_
            refine wp_getI (pc := 71) d_M_costBy_71 rfl (by decide) (zk_174 L) ?_
            rw [e16]
            refine wp_iald (pc := 74) d_M_costBy_74 (zk_176 L) (by omega) (by omega) ?_
            rw [nx]
            refine wp_icmp_eq (tgt := 96) (pc := 75) d_M_costBy_75 rfl (fun c75 => ?_) (fun c75 => ?_)
            · refine wp_ldc (pc := 96) d_M_costBy_96 rfl ?_
              refine wp_ireturn (pc := 98) d_M_costBy_98 rfl ?_
              refine ⟨?_, rfl⟩
              rcases (show s = 0 ∨ s = 1 ∨ s = 2 by omega) with e | e | e
              · first | (exfalso; omega) | rw [e, mBy_0, if_neg (by omega)]
              · first | (exfalso; omega) | rw [e, mBy_1, if_neg (by omega)]
              · first | (exfalso; omega) | rw [e, mBy_2, if_neg (by omega)]
            · refine wp_iload_n (pc := 78) d_M_costBy_78 rfl ?_
              refine wp_iconst (pc := 79) d_M_costBy_79 rfl ?_
              refine wp_icmp_ne (tgt := 99) (pc := 80) d_M_costBy_80 rfl (fun c80 => ?_) (fun c80 => ?_)
              · refine wp_iload_n (pc := 99) d_M_costBy_99 rfl ?_
                refine wp_if_ne (tgt := 141) (pc := 100) d_M_costBy_100 rfl (fun c100 => ?_) (fun c100 => ?_)
                · refine wp_iconst (pc := 141) d_M_costBy_141 rfl ?_
                  refine wp_iload_n (pc := 142) d_M_costBy_142 rfl ?_
                  refine wp_iconst (pc := 143) d_M_costBy_143 rfl ?_
                  refine wp_icmp_ne (tgt := 163) (pc := 144) d_M_costBy_144 rfl (fun c144 => ?_) (fun c144 => ?_)
                  · refine wp_aload_n (pc := 163) d_M_costBy_163 rfl ?_
                    refine wp_getR (pc := 164) d_M_costBy_164 rfl (zk_174 L) zx_174_13 ?_
                    refine wp_bipush (pc := 167) d_M_costBy_167 rfl ?_
                    refine wp_iload_n (pc := 169) d_M_costBy_169 rfl ?_
                    refine wp_imul (pc := 170) d_M_costBy_170 (by omega) (by omega) ?_
                    refine wp_iload_n (pc := 171) d_M_costBy_171 rfl ?_
                    refine wp_iadd (pc := 172) d_M_costBy_172 (by omega) (by omega) ?_
                    refine wp_iconst (pc := 173) d_M_costBy_173 rfl ?_
                    refine wp_iadd (pc := 174) d_M_costBy_174 (by omega) (by omega) ?_
                    refine wp_iald (pc := 175) d_M_costBy_175 (zk_182 L) (by omega) (by omega) ?_
                    rw [show (25 * i + j + 1).toNat = (25 * i + (j + 1)).toNat by omega, hT i (j + 1) (by omega) (by omega) (by omega)]
                    have b01 := mVl_b (f := D.1 x) (g := D.1 y) (n1 := D.2.1 x) (n2 := D.2.1 y) (b := D.2.2.1) lx.2 ly.2 i0 (show 0 ≤ j + 1 by omega)
                    refine wp_iadd (pc := 176) d_M_costBy_176 (by omega) (by omega) ?_
                    refine wp_ireturn (pc := 177) d_M_costBy_177 rfl ?_
                    refine ⟨?_, rfl⟩
                    unfold mBy
                    first | (exfalso; omega) | rw [if_neg (show ¬ s = 0 by omega), if_pos (show s = 1 by omega), if_pos (by omega)] | rw [if_neg (show ¬ s = 0 by omega), if_neg (show ¬ s = 1 by omega), if_pos (by omega)]
                  · refine wp_aload_n (pc := 147) d_M_costBy_147 rfl ?_
                    refine wp_getR (pc := 148) d_M_costBy_148 rfl (zk_174 L) zx_174_13 ?_
                    refine wp_bipush (pc := 151) d_M_costBy_151 rfl ?_
                    refine wp_iload_n (pc := 153) d_M_costBy_153 rfl ?_
                    refine wp_iconst (pc := 154) d_M_costBy_154 rfl ?_
                    refine wp_iadd (pc := 155) d_M_costBy_155 (by omega) (by omega) ?_
                    refine wp_imul (pc := 156) d_M_costBy_156 (by omega) (by omega) ?_
                    refine wp_iload_n (pc := 157) d_M_costBy_157 rfl ?_
                    refine wp_iadd (pc := 158) d_M_costBy_158 (by omega) (by omega) ?_
                    refine wp_iald (pc := 159) d_M_costBy_159 (zk_182 L) (by omega) (by omega) ?_
                    rw [hT (i + 1) j (by omega) (by omega) (by omega)]
                    have b10 := mVl_b (f := D.1 x) (g := D.1 y) (n1 := D.2.1 x) (n2 := D.2.1 y) (b := D.2.2.1) lx.2 ly.2 (show 0 ≤ i + 1 by omega) j0
                    refine wp_goto (tgt := 176) (pc := 160) d_M_costBy_160 rfl ?_
                    refine wp_iadd (pc := 176) d_M_costBy_176 (by omega) (by omega) ?_
                    refine wp_ireturn (pc := 177) d_M_costBy_177 rfl ?_
                    refine ⟨?_, rfl⟩
                    unfold mBy
                    first | (exfalso; omega) | rw [if_neg (show ¬ s = 0 by omega), if_pos (show s = 1 by omega), if_pos (by omega)] | rw [if_neg (show ¬ s = 0 by omega), if_neg (show ¬ s = 1 by omega), if_pos (by omega)]
                · refine wp_aload_n (pc := 103) d_M_costBy_103 rfl ?_
                  refine wp_getR (pc := 104) d_M_costBy_104 rfl (zk_174 L) zx_174_13 ?_
                  refine wp_bipush (pc := 107) d_M_costBy_107 rfl ?_
                  refine wp_iload_n (pc := 109) d_M_costBy_109 rfl ?_
                  refine wp_iconst (pc := 110) d_M_costBy_110 rfl ?_
                  refine wp_iadd (pc := 111) d_M_costBy_111 (by omega) (by omega) ?_
                  refine wp_imul (pc := 112) d_M_costBy_112 (by omega) (by omega) ?_
                  refine wp_iload_n (pc := 113) d_M_costBy_113 rfl ?_
                  refine wp_iadd (pc := 114) d_M_costBy_114 (by omega) (by omega) ?_
                  refine wp_iconst (pc := 115) d_M_costBy_115 rfl ?_
                  refine wp_iadd (pc := 116) d_M_costBy_116 (by omega) (by omega) ?_
                  refine wp_iald (pc := 117) d_M_costBy_117 (zk_182 L) (by omega) (by omega) ?_
                  refine wp_aload_n (pc := 118) d_M_costBy_118 rfl ?_
                  refine wp_aload_n (pc := 119) d_M_costBy_119 rfl ?_
                  refine wp_getI (pc := 120) d_M_costBy_120 rfl (by decide) (zk_174 L) ?_
                  rw [e16]
                  refine wp_iload_n (pc := 123) d_M_costBy_123 rfl ?_
                  refine wp_callV2f (pc := 124) d_M_costBy_124 rfl rfl (zk_174 L) rfl rfl (c_M_letterAt h hd x0 x1 (by omega) (by omega)) ?_
                  refine wp_aload_n (pc := 127) d_M_costBy_127 rfl ?_
                  refine wp_aload_n (pc := 128) d_M_costBy_128 rfl ?_
                  refine wp_getI (pc := 129) d_M_costBy_129 rfl (by decide) (zk_174 L) ?_
                  rw [e17]
                  refine wp_iload_n (pc := 132) d_M_costBy_132 rfl ?_
                  refine wp_callV2f (pc := 133) d_M_costBy_133 rfl rfl (zk_174 L) rfl rfl (c_M_letterAt h hd y0 y1 (by omega) (by omega)) ?_
                  have t11 := hT (i + 1) (j + 1) (by omega) (by omega) (by omega)
                  have b11 := mVl_b (f := D.1 x) (g := D.1 y) (n1 := D.2.1 x) (n2 := D.2.1 y) (b := D.2.2.1) lx.2 ly.2 (show 0 ≤ i + 1 by omega) (show 0 ≤ j + 1 by omega)
                  have k11 := zKc_p (D.1 x i) (D.1 y j)
                  rw [show (25 * (i + 1) + j + 1).toNat = (25 * (i + 1) + (j + 1)).toNat by omega, t11]
                  refine wp_callS2f (pc := 136) d_M_costBy_136 rfl rfl rfl rfl rfl (c_M_pairCost ((hd.2.2 x x0 x1).2 i (by omega) (by omega)) ((hd.2.2 y y0 y1).2 j (by omega) (by omega))) ?_
                  refine wp_iadd (pc := 139) d_M_costBy_139 (by omega) (by omega) ?_
                  have q9 := True.intro
                  refine wp_ireturn (pc := 140) d_M_costBy_140 rfl ?_
                  refine ⟨?_, rfl⟩
                  unfold mBy
                  first | (exfalso; omega) | rw [if_pos (show s = 0 by omega), if_pos (by omega)]
              · refine wp_iload_n (pc := 83) d_M_costBy_83 rfl ?_
                refine wp_aload_n (pc := 84) d_M_costBy_84 rfl ?_
                refine wp_getR (pc := 85) d_M_costBy_85 rfl (zk_174 L) zx_174_3 ?_
                refine wp_aload_n (pc := 88) d_M_costBy_88 rfl ?_
                refine wp_getI (pc := 89) d_M_costBy_89 rfl (by decide) (zk_174 L) ?_
                rw [e17]
                refine wp_iald (pc := 92) d_M_costBy_92 (zk_176 L) (by omega) (by omega) ?_
                rw [ny]
                refine wp_icmp_ne (tgt := 99) (pc := 93) d_M_costBy_93 rfl (fun c93 => ?_) (fun c93 => ?_)
                · refine wp_iload_n (pc := 99) d_M_costBy_99 rfl ?_
                  refine wp_if_ne (tgt := 141) (pc := 100) d_M_costBy_100 rfl (fun c100 => ?_) (fun c100 => ?_)
                  · refine wp_iconst (pc := 141) d_M_costBy_141 rfl ?_
                    refine wp_iload_n (pc := 142) d_M_costBy_142 rfl ?_
                    refine wp_iconst (pc := 143) d_M_costBy_143 rfl ?_
                    refine wp_icmp_ne (tgt := 163) (pc := 144) d_M_costBy_144 rfl (fun c144 => ?_) (fun c144 => ?_)
                    · refine wp_aload_n (pc := 163) d_M_costBy_163 rfl ?_
                      refine wp_getR (pc := 164) d_M_costBy_164 rfl (zk_174 L) zx_174_13 ?_
                      refine wp_bipush (pc := 167) d_M_costBy_167 rfl ?_
                      refine wp_iload_n (pc := 169) d_M_costBy_169 rfl ?_
                      refine wp_imul (pc := 170) d_M_costBy_170 (by omega) (by omega) ?_
                      refine wp_iload_n (pc := 171) d_M_costBy_171 rfl ?_
                      refine wp_iadd (pc := 172) d_M_costBy_172 (by omega) (by omega) ?_
                      refine wp_iconst (pc := 173) d_M_costBy_173 rfl ?_
                      refine wp_iadd (pc := 174) d_M_costBy_174 (by omega) (by omega) ?_
                      refine wp_iald (pc := 175) d_M_costBy_175 (zk_182 L) (by omega) (by omega) ?_
                      rw [show (25 * i + j + 1).toNat = (25 * i + (j + 1)).toNat by omega, hT i (j + 1) (by omega) (by omega) (by omega)]
                      have b01 := mVl_b (f := D.1 x) (g := D.1 y) (n1 := D.2.1 x) (n2 := D.2.1 y) (b := D.2.2.1) lx.2 ly.2 i0 (show 0 ≤ j + 1 by omega)
                      refine wp_iadd (pc := 176) d_M_costBy_176 (by omega) (by omega) ?_
                      refine wp_ireturn (pc := 177) d_M_costBy_177 rfl ?_
                      refine ⟨?_, rfl⟩
                      unfold mBy
                      first | (exfalso; omega) | rw [if_neg (show ¬ s = 0 by omega), if_pos (show s = 1 by omega), if_pos (by omega)] | rw [if_neg (show ¬ s = 0 by omega), if_neg (show ¬ s = 1 by omega), if_pos (by omega)]
                    · refine wp_aload_n (pc := 147) d_M_costBy_147 rfl ?_
                      refine wp_getR (pc := 148) d_M_costBy_148 rfl (zk_174 L) zx_174_13 ?_
                      refine wp_bipush (pc := 151) d_M_costBy_151 rfl ?_
                      refine wp_iload_n (pc := 153) d_M_costBy_153 rfl ?_
                      refine wp_iconst (pc := 154) d_M_costBy_154 rfl ?_
                      refine wp_iadd (pc := 155) d_M_costBy_155 (by omega) (by omega) ?_
                      refine wp_imul (pc := 156) d_M_costBy_156 (by omega) (by omega) ?_
                      refine wp_iload_n (pc := 157) d_M_costBy_157 rfl ?_
                      refine wp_iadd (pc := 158) d_M_costBy_158 (by omega) (by omega) ?_
                      refine wp_iald (pc := 159) d_M_costBy_159 (zk_182 L) (by omega) (by omega) ?_
                      rw [hT (i + 1) j (by omega) (by omega) (by omega)]
                      have b10 := mVl_b (f := D.1 x) (g := D.1 y) (n1 := D.2.1 x) (n2 := D.2.1 y) (b := D.2.2.1) lx.2 ly.2 (show 0 ≤ i + 1 by omega) j0
                      refine wp_goto (tgt := 176) (pc := 160) d_M_costBy_160 rfl ?_
                      refine wp_iadd (pc := 176) d_M_costBy_176 (by omega) (by omega) ?_
                      refine wp_ireturn (pc := 177) d_M_costBy_177 rfl ?_
                      refine ⟨?_, rfl⟩
                      unfold mBy
                      first | (exfalso; omega) | rw [if_neg (show ¬ s = 0 by omega), if_pos (show s = 1 by omega), if_pos (by omega)] | rw [if_neg (show ¬ s = 0 by omega), if_neg (show ¬ s = 1 by omega), if_pos (by omega)]
                  · refine wp_aload_n (pc := 103) d_M_costBy_103 rfl ?_
                    refine wp_getR (pc := 104) d_M_costBy_104 rfl (zk_174 L) zx_174_13 ?_
                    refine wp_bipush (pc := 107) d_M_costBy_107 rfl ?_
                    refine wp_iload_n (pc := 109) d_M_costBy_109 rfl ?_
                    refine wp_iconst (pc := 110) d_M_costBy_110 rfl ?_
                    refine wp_iadd (pc := 111) d_M_costBy_111 (by omega) (by omega) ?_
                    refine wp_imul (pc := 112) d_M_costBy_112 (by omega) (by omega) ?_
                    refine wp_iload_n (pc := 113) d_M_costBy_113 rfl ?_
                    refine wp_iadd (pc := 114) d_M_costBy_114 (by omega) (by omega) ?_
                    refine wp_iconst (pc := 115) d_M_costBy_115 rfl ?_
                    refine wp_iadd (pc := 116) d_M_costBy_116 (by omega) (by omega) ?_
                    refine wp_iald (pc := 117) d_M_costBy_117 (zk_182 L) (by omega) (by omega) ?_
                    refine wp_aload_n (pc := 118) d_M_costBy_118 rfl ?_
                    refine wp_aload_n (pc := 119) d_M_costBy_119 rfl ?_
                    refine wp_getI (pc := 120) d_M_costBy_120 rfl (by decide) (zk_174 L) ?_
                    rw [e16]
                    refine wp_iload_n (pc := 123) d_M_costBy_123 rfl ?_
                    refine wp_callV2f (pc := 124) d_M_costBy_124 rfl rfl (zk_174 L) rfl rfl (c_M_letterAt h hd x0 x1 (by omega) (by omega)) ?_
                    refine wp_aload_n (pc := 127) d_M_costBy_127 rfl ?_
                    refine wp_aload_n (pc := 128) d_M_costBy_128 rfl ?_
                    refine wp_getI (pc := 129) d_M_costBy_129 rfl (by decide) (zk_174 L) ?_
                    rw [e17]
                    refine wp_iload_n (pc := 132) d_M_costBy_132 rfl ?_
                    refine wp_callV2f (pc := 133) d_M_costBy_133 rfl rfl (zk_174 L) rfl rfl (c_M_letterAt h hd y0 y1 (by omega) (by omega)) ?_
                    have t11 := hT (i + 1) (j + 1) (by omega) (by omega) (by omega)
                    have b11 := mVl_b (f := D.1 x) (g := D.1 y) (n1 := D.2.1 x) (n2 := D.2.1 y) (b := D.2.2.1) lx.2 ly.2 (show 0 ≤ i + 1 by omega) (show 0 ≤ j + 1 by omega)
                    have k11 := zKc_p (D.1 x i) (D.1 y j)
                    rw [show (25 * (i + 1) + j + 1).toNat = (25 * (i + 1) + (j + 1)).toNat by omega, t11]
                    refine wp_callS2f (pc := 136) d_M_costBy_136 rfl rfl rfl rfl rfl (c_M_pairCost ((hd.2.2 x x0 x1).2 i (by omega) (by omega)) ((hd.2.2 y y0 y1).2 j (by omega) (by omega))) ?_
                    refine wp_iadd (pc := 139) d_M_costBy_139 (by omega) (by omega) ?_
                    have q9 := True.intro
                    refine wp_ireturn (pc := 140) d_M_costBy_140 rfl ?_
                    refine ⟨?_, rfl⟩
                    unfold mBy
                    first | (exfalso; omega) | rw [if_pos (show s = 0 by omega), if_pos (by omega)]
                · refine wp_ldc (pc := 96) d_M_costBy_96 rfl ?_
                  refine wp_ireturn (pc := 98) d_M_costBy_98 rfl ?_
                  refine ⟨?_, rfl⟩
                  rcases (show s = 0 ∨ s = 1 ∨ s = 2 by omega) with e | e | e
                  · first | (exfalso; omega) | rw [e, mBy_0, if_neg (by omega)]
                  · first | (exfalso; omega) | rw [e, mBy_1, if_neg (by omega)]
                  · first | (exfalso; omega) | rw [e, mBy_2, if_neg (by omega)]
      · refine wp_iload_n (pc := 43) d_M_costBy_43 rfl ?_
        refine wp_iconst (pc := 44) d_M_costBy_44 rfl ?_
        refine wp_icmp_ne (tgt := 52) (pc := 45) d_M_costBy_45 rfl (fun c45 => ?_) (fun c45 => ?_)
        · refine wp_iconst (pc := 52) d_M_costBy_52 rfl ?_
          refine wp_ist4 (pc := 53) d_M_costBy_53 rfl ?_
          refine wp_iload (pc := 55) d_M_costBy_55 rfl ?_
          refine wp_if_eq (tgt := 96) (pc := 57) d_M_costBy_57 rfl (fun c57 => ?_) (fun c57 => ?_)
          · refine wp_ldc (pc := 96) d_M_costBy_96 rfl ?_
            refine wp_ireturn (pc := 98) d_M_costBy_98 rfl ?_
            refine ⟨?_, rfl⟩
            rcases (show s = 0 ∨ s = 1 ∨ s = 2 by omega) with e | e | e
            · first | (exfalso; omega) | rw [e, mBy_0, if_neg (by omega)]
            · first | (exfalso; omega) | rw [e, mBy_1, if_neg (by omega)]
            · first | (exfalso; omega) | rw [e, mBy_2, if_neg (by omega)]
          · exact absurd c57 (by decide)
        · refine wp_iconst (pc := 48) d_M_costBy_48 rfl ?_
          refine wp_goto (tgt := 53) (pc := 49) d_M_costBy_49 rfl ?_
          refine wp_ist4 (pc := 53) d_M_costBy_53 rfl ?_
          refine wp_iload (pc := 55) d_M_costBy_55 rfl ?_
          refine wp_if_eq (tgt := 96) (pc := 57) d_M_costBy_57 rfl (fun c57 => ?_) (fun c57 => ?_)
          · exact absurd c57 (by decide)
          · refine wp_iload_n (pc := 60) d_M_costBy_60 rfl ?_
            refine wp_iconst (pc := 61) d_M_costBy_61 rfl ?_
            refine wp_icmp_ne (tgt := 78) (pc := 62) d_M_costBy_62 rfl (fun c62 => ?_) (fun c62 => ?_)
            · refine wp_iload_n (pc := 78) d_M_costBy_78 rfl ?_
              refine wp_iconst (pc := 79) d_M_costBy_79 rfl ?_
              refine wp_icmp_ne (tgt := 99) (pc := 80) d_M_costBy_80 rfl (fun c80 => ?_) (fun c80 => ?_)
              · refine wp_iload_n (pc := 99) d_M_costBy_99 rfl ?_
                refine wp_if_ne (tgt := 141) (pc := 100) d_M_costBy_100 rfl (fun c100 => ?_) (fun c100 => ?_)
                · refine wp_iconst (pc := 141) d_M_costBy_141 rfl ?_
                  refine wp_iload_n (pc := 142) d_M_costBy_142 rfl ?_
                  refine wp_iconst (pc := 143) d_M_costBy_143 rfl ?_
                  refine wp_icmp_ne (tgt := 163) (pc := 144) d_M_costBy_144 rfl (fun c144 => ?_) (fun c144 => ?_)
                  · refine wp_aload_n (pc := 163) d_M_costBy_163 rfl ?_
                    refine wp_getR (pc := 164) d_M_costBy_164 rfl (zk_174 L) zx_174_13 ?_
                    refine wp_bipush (pc := 167) d_M_costBy_167 rfl ?_
                    refine wp_iload_n (pc := 169) d_M_costBy_169 rfl ?_
                    refine wp_imul (pc := 170) d_M_costBy_170 (by omega) (by omega) ?_
                    refine wp_iload_n (pc := 171) d_M_costBy_171 rfl ?_
                    refine wp_iadd (pc := 172) d_M_costBy_172 (by omega) (by omega) ?_
                    refine wp_iconst (pc := 173) d_M_costBy_173 rfl ?_
                    refine wp_iadd (pc := 174) d_M_costBy_174 (by omega) (by omega) ?_
                    refine wp_iald (pc := 175) d_M_costBy_175 (zk_182 L) (by omega) (by omega) ?_
                    rw [show (25 * i + j + 1).toNat = (25 * i + (j + 1)).toNat by omega, hT i (j + 1) (by omega) (by omega) (by omega)]
                    have b01 := mVl_b (f := D.1 x) (g := D.1 y) (n1 := D.2.1 x) (n2 := D.2.1 y) (b := D.2.2.1) lx.2 ly.2 i0 (show 0 ≤ j + 1 by omega)
                    refine wp_iadd (pc := 176) d_M_costBy_176 (by omega) (by omega) ?_
                    refine wp_ireturn (pc := 177) d_M_costBy_177 rfl ?_
                    refine ⟨?_, rfl⟩
                    unfold mBy
                    first | (exfalso; omega) | rw [if_neg (show ¬ s = 0 by omega), if_pos (show s = 1 by omega), if_pos (by omega)] | rw [if_neg (show ¬ s = 0 by omega), if_neg (show ¬ s = 1 by omega), if_pos (by omega)]
                  · refine wp_aload_n (pc := 147) d_M_costBy_147 rfl ?_
                    refine wp_getR (pc := 148) d_M_costBy_148 rfl (zk_174 L) zx_174_13 ?_
                    refine wp_bipush (pc := 151) d_M_costBy_151 rfl ?_
                    refine wp_iload_n (pc := 153) d_M_costBy_153 rfl ?_
                    refine wp_iconst (pc := 154) d_M_costBy_154 rfl ?_
                    refine wp_iadd (pc := 155) d_M_costBy_155 (by omega) (by omega) ?_
                    refine wp_imul (pc := 156) d_M_costBy_156 (by omega) (by omega) ?_
                    refine wp_iload_n (pc := 157) d_M_costBy_157 rfl ?_
                    refine wp_iadd (pc := 158) d_M_costBy_158 (by omega) (by omega) ?_
                    refine wp_iald (pc := 159) d_M_costBy_159 (zk_182 L) (by omega) (by omega) ?_
                    rw [hT (i + 1) j (by omega) (by omega) (by omega)]
                    have b10 := mVl_b (f := D.1 x) (g := D.1 y) (n1 := D.2.1 x) (n2 := D.2.1 y) (b := D.2.2.1) lx.2 ly.2 (show 0 ≤ i + 1 by omega) j0
                    refine wp_goto (tgt := 176) (pc := 160) d_M_costBy_160 rfl ?_
                    refine wp_iadd (pc := 176) d_M_costBy_176 (by omega) (by omega) ?_
                    refine wp_ireturn (pc := 177) d_M_costBy_177 rfl ?_
                    refine ⟨?_, rfl⟩
                    unfold mBy
                    first | (exfalso; omega) | rw [if_neg (show ¬ s = 0 by omega), if_pos (show s = 1 by omega), if_pos (by omega)] | rw [if_neg (show ¬ s = 0 by omega), if_neg (show ¬ s = 1 by omega), if_pos (by omega)]
                · refine wp_aload_n (pc := 103) d_M_costBy_103 rfl ?_
                  refine wp_getR (pc := 104) d_M_costBy_104 rfl (zk_174 L) zx_174_13 ?_
                  refine wp_bipush (pc := 107) d_M_costBy_107 rfl ?_
                  refine wp_iload_n (pc := 109) d_M_costBy_109 rfl ?_
                  refine wp_iconst (pc := 110) d_M_costBy_110 rfl ?_
                  refine wp_iadd (pc := 111) d_M_costBy_111 (by omega) (by omega) ?_
                  refine wp_imul (pc := 112) d_M_costBy_112 (by omega) (by omega) ?_
                  refine wp_iload_n (pc := 113) d_M_costBy_113 rfl ?_
                  refine wp_iadd (pc := 114) d_M_costBy_114 (by omega) (by omega) ?_
                  refine wp_iconst (pc := 115) d_M_costBy_115 rfl ?_
                  refine wp_iadd (pc := 116) d_M_costBy_116 (by omega) (by omega) ?_
                  refine wp_iald (pc := 117) d_M_costBy_117 (zk_182 L) (by omega) (by omega) ?_
                  refine wp_aload_n (pc := 118) d_M_costBy_118 rfl ?_
                  refine wp_aload_n (pc := 119) d_M_costBy_119 rfl ?_
                  refine wp_getI (pc := 120) d_M_costBy_120 rfl (by decide) (zk_174 L) ?_
                  rw [e16]
                  refine wp_iload_n (pc := 123) d_M_costBy_123 rfl ?_
                  refine wp_callV2f (pc := 124) d_M_costBy_124 rfl rfl (zk_174 L) rfl rfl (c_M_letterAt h hd x0 x1 (by omega) (by omega)) ?_
                  refine wp_aload_n (pc := 127) d_M_costBy_127 rfl ?_
                  refine wp_aload_n (pc := 128) d_M_costBy_128 rfl ?_
                  refine wp_getI (pc := 129) d_M_costBy_129 rfl (by decide) (zk_174 L) ?_
                  rw [e17]
                  refine wp_iload_n (pc := 132) d_M_costBy_132 rfl ?_
                  refine wp_callV2f (pc := 133) d_M_costBy_133 rfl rfl (zk_174 L) rfl rfl (c_M_letterAt h hd y0 y1 (by omega) (by omega)) ?_
                  have t11 := hT (i + 1) (j + 1) (by omega) (by omega) (by omega)
                  have b11 := mVl_b (f := D.1 x) (g := D.1 y) (n1 := D.2.1 x) (n2 := D.2.1 y) (b := D.2.2.1) lx.2 ly.2 (show 0 ≤ i + 1 by omega) (show 0 ≤ j + 1 by omega)
                  have k11 := zKc_p (D.1 x i) (D.1 y j)
                  rw [show (25 * (i + 1) + j + 1).toNat = (25 * (i + 1) + (j + 1)).toNat by omega, t11]
                  refine wp_callS2f (pc := 136) d_M_costBy_136 rfl rfl rfl rfl rfl (c_M_pairCost ((hd.2.2 x x0 x1).2 i (by omega) (by omega)) ((hd.2.2 y y0 y1).2 j (by omega) (by omega))) ?_
                  refine wp_iadd (pc := 139) d_M_costBy_139 (by omega) (by omega) ?_
                  have q9 := True.intro
                  refine wp_ireturn (pc := 140) d_M_costBy_140 rfl ?_
                  refine ⟨?_, rfl⟩
                  unfold mBy
                  first | (exfalso; omega) | rw [if_pos (show s = 0 by omega), if_pos (by omega)]
              · refine wp_iload_n (pc := 83) d_M_costBy_83 rfl ?_
                refine wp_aload_n (pc := 84) d_M_costBy_84 rfl ?_
                refine wp_getR (pc := 85) d_M_costBy_85 rfl (zk_174 L) zx_174_3 ?_
                refine wp_aload_n (pc := 88) d_M_costBy_88 rfl ?_
                refine wp_getI (pc := 89) d_M_costBy_89 rfl (by decide) (zk_174 L) ?_
                rw [e17]
                refine wp_iald (pc := 92) d_M_costBy_92 (zk_176 L) (by omega) (by omega) ?_
                rw [ny]
                refine wp_icmp_ne (tgt := 99) (pc := 93) d_M_costBy_93 rfl (fun c93 => ?_) (fun c93 => ?_)
                · refine wp_iload_n (pc := 99) d_M_costBy_99 rfl ?_
                  refine wp_if_ne (tgt := 141) (pc := 100) d_M_costBy_100 rfl (fun c100 => ?_) (fun c100 => ?_)
                  · refine wp_iconst (pc := 141) d_M_costBy_141 rfl ?_
                    refine wp_iload_n (pc := 142) d_M_costBy_142 rfl ?_
                    refine wp_iconst (pc := 143) d_M_costBy_143 rfl ?_
                    refine wp_icmp_ne (tgt := 163) (pc := 144) d_M_costBy_144 rfl (fun c144 => ?_) (fun c144 => ?_)
                    · refine wp_aload_n (pc := 163) d_M_costBy_163 rfl ?_
                      refine wp_getR (pc := 164) d_M_costBy_164 rfl (zk_174 L) zx_174_13 ?_
                      refine wp_bipush (pc := 167) d_M_costBy_167 rfl ?_
                      refine wp_iload_n (pc := 169) d_M_costBy_169 rfl ?_
                      refine wp_imul (pc := 170) d_M_costBy_170 (by omega) (by omega) ?_
                      refine wp_iload_n (pc := 171) d_M_costBy_171 rfl ?_
                      refine wp_iadd (pc := 172) d_M_costBy_172 (by omega) (by omega) ?_
                      refine wp_iconst (pc := 173) d_M_costBy_173 rfl ?_
                      refine wp_iadd (pc := 174) d_M_costBy_174 (by omega) (by omega) ?_
                      refine wp_iald (pc := 175) d_M_costBy_175 (zk_182 L) (by omega) (by omega) ?_
                      rw [show (25 * i + j + 1).toNat = (25 * i + (j + 1)).toNat by omega, hT i (j + 1) (by omega) (by omega) (by omega)]
                      have b01 := mVl_b (f := D.1 x) (g := D.1 y) (n1 := D.2.1 x) (n2 := D.2.1 y) (b := D.2.2.1) lx.2 ly.2 i0 (show 0 ≤ j + 1 by omega)
                      refine wp_iadd (pc := 176) d_M_costBy_176 (by omega) (by omega) ?_
                      refine wp_ireturn (pc := 177) d_M_costBy_177 rfl ?_
                      refine ⟨?_, rfl⟩
                      unfold mBy
                      first | (exfalso; omega) | rw [if_neg (show ¬ s = 0 by omega), if_pos (show s = 1 by omega), if_pos (by omega)] | rw [if_neg (show ¬ s = 0 by omega), if_neg (show ¬ s = 1 by omega), if_pos (by omega)]
                    · refine wp_aload_n (pc := 147) d_M_costBy_147 rfl ?_
                      refine wp_getR (pc := 148) d_M_costBy_148 rfl (zk_174 L) zx_174_13 ?_
                      refine wp_bipush (pc := 151) d_M_costBy_151 rfl ?_
                      refine wp_iload_n (pc := 153) d_M_costBy_153 rfl ?_
                      refine wp_iconst (pc := 154) d_M_costBy_154 rfl ?_
                      refine wp_iadd (pc := 155) d_M_costBy_155 (by omega) (by omega) ?_
                      refine wp_imul (pc := 156) d_M_costBy_156 (by omega) (by omega) ?_
                      refine wp_iload_n (pc := 157) d_M_costBy_157 rfl ?_
                      refine wp_iadd (pc := 158) d_M_costBy_158 (by omega) (by omega) ?_
                      refine wp_iald (pc := 159) d_M_costBy_159 (zk_182 L) (by omega) (by omega) ?_
                      rw [hT (i + 1) j (by omega) (by omega) (by omega)]
                      have b10 := mVl_b (f := D.1 x) (g := D.1 y) (n1 := D.2.1 x) (n2 := D.2.1 y) (b := D.2.2.1) lx.2 ly.2 (show 0 ≤ i + 1 by omega) j0
                      refine wp_goto (tgt := 176) (pc := 160) d_M_costBy_160 rfl ?_
                      refine wp_iadd (pc := 176) d_M_costBy_176 (by omega) (by omega) ?_
                      refine wp_ireturn (pc := 177) d_M_costBy_177 rfl ?_
                      refine ⟨?_, rfl⟩
                      unfold mBy
                      first | (exfalso; omega) | rw [if_neg (show ¬ s = 0 by omega), if_pos (show s = 1 by omega), if_pos (by omega)] | rw [if_neg (show ¬ s = 0 by omega), if_neg (show ¬ s = 1 by omega), if_pos (by omega)]
                  · refine wp_aload_n (pc := 103) d_M_costBy_103 rfl ?_
                    refine wp_getR (pc := 104) d_M_costBy_104 rfl (zk_174 L) zx_174_13 ?_
                    refine wp_bipush (pc := 107) d_M_costBy_107 rfl ?_
                    refine wp_iload_n (pc := 109) d_M_costBy_109 rfl ?_
                    refine wp_iconst (pc := 110) d_M_costBy_110 rfl ?_
                    refine wp_iadd (pc := 111) d_M_costBy_111 (by omega) (by omega) ?_
                    refine wp_imul (pc := 112) d_M_costBy_112 (by omega) (by omega) ?_
                    refine wp_iload_n (pc := 113) d_M_costBy_113 rfl ?_
                    refine wp_iadd (pc := 114) d_M_costBy_114 (by omega) (by omega) ?_
                    refine wp_iconst (pc := 115) d_M_costBy_115 rfl ?_
                    refine wp_iadd (pc := 116) d_M_costBy_116 (by omega) (by omega) ?_
                    refine wp_iald (pc := 117) d_M_costBy_117 (zk_182 L) (by omega) (by omega) ?_
                    refine wp_aload_n (pc := 118) d_M_costBy_118 rfl ?_
                    refine wp_aload_n (pc := 119) d_M_costBy_119 rfl ?_
                    refine wp_getI (pc := 120) d_M_costBy_120 rfl (by decide) (zk_174 L) ?_
                    rw [e16]
                    refine wp_iload_n (pc := 123) d_M_costBy_123 rfl ?_
                    refine wp_callV2f (pc := 124) d_M_costBy_124 rfl rfl (zk_174 L) rfl rfl (c_M_letterAt h hd x0 x1 (by omega) (by omega)) ?_
                    refine wp_aload_n (pc := 127) d_M_costBy_127 rfl ?_
                    refine wp_aload_n (pc := 128) d_M_costBy_128 rfl ?_
                    refine wp_getI (pc := 129) d_M_costBy_129 rfl (by decide) (zk_174 L) ?_
                    rw [e17]
                    refine wp_iload_n (pc := 132) d_M_costBy_132 rfl ?_
                    refine wp_callV2f (pc := 133) d_M_costBy_133 rfl rfl (zk_174 L) rfl rfl (c_M_letterAt h hd y0 y1 (by omega) (by omega)) ?_
                    have t11 := hT (i + 1) (j + 1) (by omega) (by omega) (by omega)
                    have b11 := mVl_b (f := D.1 x) (g := D.1 y) (n1 := D.2.1 x) (n2 := D.2.1 y) (b := D.2.2.1) lx.2 ly.2 (show 0 ≤ i + 1 by omega) (show 0 ≤ j + 1 by omega)
                    have k11 := zKc_p (D.1 x i) (D.1 y j)
                    rw [show (25 * (i + 1) + j + 1).toNat = (25 * (i + 1) + (j + 1)).toNat by omega, t11]
                    refine wp_callS2f (pc := 136) d_M_costBy_136 rfl rfl rfl rfl rfl (c_M_pairCost ((hd.2.2 x x0 x1).2 i (by omega) (by omega)) ((hd.2.2 y y0 y1).2 j (by omega) (by omega))) ?_
                    refine wp_iadd (pc := 139) d_M_costBy_139 (by omega) (by omega) ?_
                    have q9 := True.intro
                    refine wp_ireturn (pc := 140) d_M_costBy_140 rfl ?_
                    refine ⟨?_, rfl⟩
                    unfold mBy
                    first | (exfalso; omega) | rw [if_pos (show s = 0 by omega), if_pos (by omega)]
                · refine wp_ldc (pc := 96) d_M_costBy_96 rfl ?_
                  refine wp_ireturn (pc := 98) d_M_costBy_98 rfl ?_
                  refine ⟨?_, rfl⟩
                  rcases (show s = 0 ∨ s = 1 ∨ s = 2 by omega) with e | e | e
                  · first | (exfalso; omega) | rw [e, mBy_0, if_neg (by omega)]
                  · first | (exfalso; omega) | rw [e, mBy_1, if_neg (by omega)]
                  · first | (exfalso; omega) | rw [e, mBy_2, if_neg (by omega)]
            · refine wp_iload_n (pc := 65) d_M_costBy_65 rfl ?_
              refine wp_aload_n (pc := 66) d_M_costBy_66 rfl ?_
              refine wp_getR (pc := 67) d_M_costBy_67 rfl (zk_174 L) zx_174_3 ?_
              refine wp_aload_n (pc := 70) d_M_costBy_70 rfl ?_
              refine wp_getI (pc := 71) d_M_costBy_71 rfl (by decide) (zk_174 L) ?_
              rw [e16]
              refine wp_iald (pc := 74) d_M_costBy_74 (zk_176 L) (by omega) (by omega) ?_
              rw [nx]
              refine wp_icmp_eq (tgt := 96) (pc := 75) d_M_costBy_75 rfl (fun c75 => ?_) (fun c75 => ?_)
              · refine wp_ldc (pc := 96) d_M_costBy_96 rfl ?_
                refine wp_ireturn (pc := 98) d_M_costBy_98 rfl ?_
                refine ⟨?_, rfl⟩
                rcases (show s = 0 ∨ s = 1 ∨ s = 2 by omega) with e | e | e
                · first | (exfalso; omega) | rw [e, mBy_0, if_neg (by omega)]
                · first | (exfalso; omega) | rw [e, mBy_1, if_neg (by omega)]
                · first | (exfalso; omega) | rw [e, mBy_2, if_neg (by omega)]
              · refine wp_iload_n (pc := 78) d_M_costBy_78 rfl ?_
                refine wp_iconst (pc := 79) d_M_costBy_79 rfl ?_
                refine wp_icmp_ne (tgt := 99) (pc := 80) d_M_costBy_80 rfl (fun c80 => ?_) (fun c80 => ?_)
                · refine wp_iload_n (pc := 99) d_M_costBy_99 rfl ?_
                  refine wp_if_ne (tgt := 141) (pc := 100) d_M_costBy_100 rfl (fun c100 => ?_) (fun c100 => ?_)
                  · refine wp_iconst (pc := 141) d_M_costBy_141 rfl ?_
                    refine wp_iload_n (pc := 142) d_M_costBy_142 rfl ?_
                    refine wp_iconst (pc := 143) d_M_costBy_143 rfl ?_
                    refine wp_icmp_ne (tgt := 163) (pc := 144) d_M_costBy_144 rfl (fun c144 => ?_) (fun c144 => ?_)
                    · refine wp_aload_n (pc := 163) d_M_costBy_163 rfl ?_
                      refine wp_getR (pc := 164) d_M_costBy_164 rfl (zk_174 L) zx_174_13 ?_
                      refine wp_bipush (pc := 167) d_M_costBy_167 rfl ?_
                      refine wp_iload_n (pc := 169) d_M_costBy_169 rfl ?_
                      refine wp_imul (pc := 170) d_M_costBy_170 (by omega) (by omega) ?_
                      refine wp_iload_n (pc := 171) d_M_costBy_171 rfl ?_
                      refine wp_iadd (pc := 172) d_M_costBy_172 (by omega) (by omega) ?_
                      refine wp_iconst (pc := 173) d_M_costBy_173 rfl ?_
                      refine wp_iadd (pc := 174) d_M_costBy_174 (by omega) (by omega) ?_
                      refine wp_iald (pc := 175) d_M_costBy_175 (zk_182 L) (by omega) (by omega) ?_
                      rw [show (25 * i + j + 1).toNat = (25 * i + (j + 1)).toNat by omega, hT i (j + 1) (by omega) (by omega) (by omega)]
                      have b01 := mVl_b (f := D.1 x) (g := D.1 y) (n1 := D.2.1 x) (n2 := D.2.1 y) (b := D.2.2.1) lx.2 ly.2 i0 (show 0 ≤ j + 1 by omega)
                      refine wp_iadd (pc := 176) d_M_costBy_176 (by omega) (by omega) ?_
                      refine wp_ireturn (pc := 177) d_M_costBy_177 rfl ?_
                      refine ⟨?_, rfl⟩
                      unfold mBy
                      first | (exfalso; omega) | rw [if_neg (show ¬ s = 0 by omega), if_pos (show s = 1 by omega), if_pos (by omega)] | rw [if_neg (show ¬ s = 0 by omega), if_neg (show ¬ s = 1 by omega), if_pos (by omega)]
                    · refine wp_aload_n (pc := 147) d_M_costBy_147 rfl ?_
                      refine wp_getR (pc := 148) d_M_costBy_148 rfl (zk_174 L) zx_174_13 ?_
                      refine wp_bipush (pc := 151) d_M_costBy_151 rfl ?_
                      refine wp_iload_n (pc := 153) d_M_costBy_153 rfl ?_
                      refine wp_iconst (pc := 154) d_M_costBy_154 rfl ?_
                      refine wp_iadd (pc := 155) d_M_costBy_155 (by omega) (by omega) ?_
                      refine wp_imul (pc := 156) d_M_costBy_156 (by omega) (by omega) ?_
                      refine wp_iload_n (pc := 157) d_M_costBy_157 rfl ?_
                      refine wp_iadd (pc := 158) d_M_costBy_158 (by omega) (by omega) ?_
                      refine wp_iald (pc := 159) d_M_costBy_159 (zk_182 L) (by omega) (by omega) ?_
                      rw [hT (i + 1) j (by omega) (by omega) (by omega)]
                      have b10 := mVl_b (f := D.1 x) (g := D.1 y) (n1 := D.2.1 x) (n2 := D.2.1 y) (b := D.2.2.1) lx.2 ly.2 (show 0 ≤ i + 1 by omega) j0
                      refine wp_goto (tgt := 176) (pc := 160) d_M_costBy_160 rfl ?_
                      refine wp_iadd (pc := 176) d_M_costBy_176 (by omega) (by omega) ?_
                      refine wp_ireturn (pc := 177) d_M_costBy_177 rfl ?_
                      refine ⟨?_, rfl⟩
                      unfold mBy
                      first | (exfalso; omega) | rw [if_neg (show ¬ s = 0 by omega), if_pos (show s = 1 by omega), if_pos (by omega)] | rw [if_neg (show ¬ s = 0 by omega), if_neg (show ¬ s = 1 by omega), if_pos (by omega)]
                  · refine wp_aload_n (pc := 103) d_M_costBy_103 rfl ?_
                    refine wp_getR (pc := 104) d_M_costBy_104 rfl (zk_174 L) zx_174_13 ?_
                    refine wp_bipush (pc := 107) d_M_costBy_107 rfl ?_
                    refine wp_iload_n (pc := 109) d_M_costBy_109 rfl ?_
                    refine wp_iconst (pc := 110) d_M_costBy_110 rfl ?_
                    refine wp_iadd (pc := 111) d_M_costBy_111 (by omega) (by omega) ?_
                    refine wp_imul (pc := 112) d_M_costBy_112 (by omega) (by omega) ?_
                    refine wp_iload_n (pc := 113) d_M_costBy_113 rfl ?_
                    refine wp_iadd (pc := 114) d_M_costBy_114 (by omega) (by omega) ?_
                    refine wp_iconst (pc := 115) d_M_costBy_115 rfl ?_
                    refine wp_iadd (pc := 116) d_M_costBy_116 (by omega) (by omega) ?_
                    refine wp_iald (pc := 117) d_M_costBy_117 (zk_182 L) (by omega) (by omega) ?_
                    refine wp_aload_n (pc := 118) d_M_costBy_118 rfl ?_
                    refine wp_aload_n (pc := 119) d_M_costBy_119 rfl ?_
                    refine wp_getI (pc := 120) d_M_costBy_120 rfl (by decide) (zk_174 L) ?_
                    rw [e16]
                    refine wp_iload_n (pc := 123) d_M_costBy_123 rfl ?_
                    refine wp_callV2f (pc := 124) d_M_costBy_124 rfl rfl (zk_174 L) rfl rfl (c_M_letterAt h hd x0 x1 (by omega) (by omega)) ?_
                    refine wp_aload_n (pc := 127) d_M_costBy_127 rfl ?_
                    refine wp_aload_n (pc := 128) d_M_costBy_128 rfl ?_
                    refine wp_getI (pc := 129) d_M_costBy_129 rfl (by decide) (zk_174 L) ?_
                    rw [e17]
                    refine wp_iload_n (pc := 132) d_M_costBy_132 rfl ?_
                    refine wp_callV2f (pc := 133) d_M_costBy_133 rfl rfl (zk_174 L) rfl rfl (c_M_letterAt h hd y0 y1 (by omega) (by omega)) ?_
                    have t11 := hT (i + 1) (j + 1) (by omega) (by omega) (by omega)
                    have b11 := mVl_b (f := D.1 x) (g := D.1 y) (n1 := D.2.1 x) (n2 := D.2.1 y) (b := D.2.2.1) lx.2 ly.2 (show 0 ≤ i + 1 by omega) (show 0 ≤ j + 1 by omega)
                    have k11 := zKc_p (D.1 x i) (D.1 y j)
                    rw [show (25 * (i + 1) + j + 1).toNat = (25 * (i + 1) + (j + 1)).toNat by omega, t11]
                    refine wp_callS2f (pc := 136) d_M_costBy_136 rfl rfl rfl rfl rfl (c_M_pairCost ((hd.2.2 x x0 x1).2 i (by omega) (by omega)) ((hd.2.2 y y0 y1).2 j (by omega) (by omega))) ?_
                    refine wp_iadd (pc := 139) d_M_costBy_139 (by omega) (by omega) ?_
                    have q9 := True.intro
                    refine wp_ireturn (pc := 140) d_M_costBy_140 rfl ?_
                    refine ⟨?_, rfl⟩
                    unfold mBy
                    first | (exfalso; omega) | rw [if_pos (show s = 0 by omega), if_pos (by omega)]
                · refine wp_iload_n (pc := 83) d_M_costBy_83 rfl ?_
                  refine wp_aload_n (pc := 84) d_M_costBy_84 rfl ?_
                  refine wp_getR (pc := 85) d_M_costBy_85 rfl (zk_174 L) zx_174_3 ?_
                  refine wp_aload_n (pc := 88) d_M_costBy_88 rfl ?_
                  refine wp_getI (pc := 89) d_M_costBy_89 rfl (by decide) (zk_174 L) ?_
                  rw [e17]
                  refine wp_iald (pc := 92) d_M_costBy_92 (zk_176 L) (by omega) (by omega) ?_
                  rw [ny]
                  refine wp_icmp_ne (tgt := 99) (pc := 93) d_M_costBy_93 rfl (fun c93 => ?_) (fun c93 => ?_)
                  · refine wp_iload_n (pc := 99) d_M_costBy_99 rfl ?_
                    refine wp_if_ne (tgt := 141) (pc := 100) d_M_costBy_100 rfl (fun c100 => ?_) (fun c100 => ?_)
                    · refine wp_iconst (pc := 141) d_M_costBy_141 rfl ?_
                      refine wp_iload_n (pc := 142) d_M_costBy_142 rfl ?_
                      refine wp_iconst (pc := 143) d_M_costBy_143 rfl ?_
                      refine wp_icmp_ne (tgt := 163) (pc := 144) d_M_costBy_144 rfl (fun c144 => ?_) (fun c144 => ?_)
                      · refine wp_aload_n (pc := 163) d_M_costBy_163 rfl ?_
                        refine wp_getR (pc := 164) d_M_costBy_164 rfl (zk_174 L) zx_174_13 ?_
                        refine wp_bipush (pc := 167) d_M_costBy_167 rfl ?_
                        refine wp_iload_n (pc := 169) d_M_costBy_169 rfl ?_
                        refine wp_imul (pc := 170) d_M_costBy_170 (by omega) (by omega) ?_
                        refine wp_iload_n (pc := 171) d_M_costBy_171 rfl ?_
                        refine wp_iadd (pc := 172) d_M_costBy_172 (by omega) (by omega) ?_
                        refine wp_iconst (pc := 173) d_M_costBy_173 rfl ?_
                        refine wp_iadd (pc := 174) d_M_costBy_174 (by omega) (by omega) ?_
                        refine wp_iald (pc := 175) d_M_costBy_175 (zk_182 L) (by omega) (by omega) ?_
                        rw [show (25 * i + j + 1).toNat = (25 * i + (j + 1)).toNat by omega, hT i (j + 1) (by omega) (by omega) (by omega)]
                        have b01 := mVl_b (f := D.1 x) (g := D.1 y) (n1 := D.2.1 x) (n2 := D.2.1 y) (b := D.2.2.1) lx.2 ly.2 i0 (show 0 ≤ j + 1 by omega)
                        refine wp_iadd (pc := 176) d_M_costBy_176 (by omega) (by omega) ?_
                        refine wp_ireturn (pc := 177) d_M_costBy_177 rfl ?_
                        refine ⟨?_, rfl⟩
                        unfold mBy
                        first | (exfalso; omega) | rw [if_neg (show ¬ s = 0 by omega), if_pos (show s = 1 by omega), if_pos (by omega)] | rw [if_neg (show ¬ s = 0 by omega), if_neg (show ¬ s = 1 by omega), if_pos (by omega)]
                      · refine wp_aload_n (pc := 147) d_M_costBy_147 rfl ?_
                        refine wp_getR (pc := 148) d_M_costBy_148 rfl (zk_174 L) zx_174_13 ?_
                        refine wp_bipush (pc := 151) d_M_costBy_151 rfl ?_
                        refine wp_iload_n (pc := 153) d_M_costBy_153 rfl ?_
                        refine wp_iconst (pc := 154) d_M_costBy_154 rfl ?_
                        refine wp_iadd (pc := 155) d_M_costBy_155 (by omega) (by omega) ?_
                        refine wp_imul (pc := 156) d_M_costBy_156 (by omega) (by omega) ?_
                        refine wp_iload_n (pc := 157) d_M_costBy_157 rfl ?_
                        refine wp_iadd (pc := 158) d_M_costBy_158 (by omega) (by omega) ?_
                        refine wp_iald (pc := 159) d_M_costBy_159 (zk_182 L) (by omega) (by omega) ?_
                        rw [hT (i + 1) j (by omega) (by omega) (by omega)]
                        have b10 := mVl_b (f := D.1 x) (g := D.1 y) (n1 := D.2.1 x) (n2 := D.2.1 y) (b := D.2.2.1) lx.2 ly.2 (show 0 ≤ i + 1 by omega) j0
                        refine wp_goto (tgt := 176) (pc := 160) d_M_costBy_160 rfl ?_
                        refine wp_iadd (pc := 176) d_M_costBy_176 (by omega) (by omega) ?_
                        refine wp_ireturn (pc := 177) d_M_costBy_177 rfl ?_
                        refine ⟨?_, rfl⟩
                        unfold mBy
                        first | (exfalso; omega) | rw [if_neg (show ¬ s = 0 by omega), if_pos (show s = 1 by omega), if_pos (by omega)] | rw [if_neg (show ¬ s = 0 by omega), if_neg (show ¬ s = 1 by omega), if_pos (by omega)]
                    · refine wp_aload_n (pc := 103) d_M_costBy_103 rfl ?_
                      refine wp_getR (pc := 104) d_M_costBy_104 rfl (zk_174 L) zx_174_13 ?_
                      refine wp_bipush (pc := 107) d_M_costBy_107 rfl ?_
                      refine wp_iload_n (pc := 109) d_M_costBy_109 rfl ?_
                      refine wp_iconst (pc := 110) d_M_costBy_110 rfl ?_
                      refine wp_iadd (pc := 111) d_M_costBy_111 (by omega) (by omega) ?_
                      refine wp_imul (pc := 112) d_M_costBy_112 (by omega) (by omega) ?_
                      refine wp_iload_n (pc := 113) d_M_costBy_113 rfl ?_
                      refine wp_iadd (pc := 114) d_M_costBy_114 (by omega) (by omega) ?_
                      refine wp_iconst (pc := 115) d_M_costBy_115 rfl ?_
                      refine wp_iadd (pc := 116) d_M_costBy_116 (by omega) (by omega) ?_
                      refine wp_iald (pc := 117) d_M_costBy_117 (zk_182 L) (by omega) (by omega) ?_
                      refine wp_aload_n (pc := 118) d_M_costBy_118 rfl ?_
                      refine wp_aload_n (pc := 119) d_M_costBy_119 rfl ?_
                      refine wp_getI (pc := 120) d_M_costBy_120 rfl (by decide) (zk_174 L) ?_
                      rw [e16]
                      refine wp_iload_n (pc := 123) d_M_costBy_123 rfl ?_
                      refine wp_callV2f (pc := 124) d_M_costBy_124 rfl rfl (zk_174 L) rfl rfl (c_M_letterAt h hd x0 x1 (by omega) (by omega)) ?_
                      refine wp_aload_n (pc := 127) d_M_costBy_127 rfl ?_
                      refine wp_aload_n (pc := 128) d_M_costBy_128 rfl ?_
                      refine wp_getI (pc := 129) d_M_costBy_129 rfl (by decide) (zk_174 L) ?_
                      rw [e17]
                      refine wp_iload_n (pc := 132) d_M_costBy_132 rfl ?_
                      refine wp_callV2f (pc := 133) d_M_costBy_133 rfl rfl (zk_174 L) rfl rfl (c_M_letterAt h hd y0 y1 (by omega) (by omega)) ?_
                      have t11 := hT (i + 1) (j + 1) (by omega) (by omega) (by omega)
                      have b11 := mVl_b (f := D.1 x) (g := D.1 y) (n1 := D.2.1 x) (n2 := D.2.1 y) (b := D.2.2.1) lx.2 ly.2 (show 0 ≤ i + 1 by omega) (show 0 ≤ j + 1 by omega)
                      have k11 := zKc_p (D.1 x i) (D.1 y j)
                      rw [show (25 * (i + 1) + j + 1).toNat = (25 * (i + 1) + (j + 1)).toNat by omega, t11]
                      refine wp_callS2f (pc := 136) d_M_costBy_136 rfl rfl rfl rfl rfl (c_M_pairCost ((hd.2.2 x x0 x1).2 i (by omega) (by omega)) ((hd.2.2 y y0 y1).2 j (by omega) (by omega))) ?_
                      refine wp_iadd (pc := 139) d_M_costBy_139 (by omega) (by omega) ?_
                      have q9 := True.intro
                      refine wp_ireturn (pc := 140) d_M_costBy_140 rfl ?_
                      refine ⟨?_, rfl⟩
                      unfold mBy
                      first | (exfalso; omega) | rw [if_pos (show s = 0 by omega), if_pos (by omega)]
                  · refine wp_ldc (pc := 96) d_M_costBy_96 rfl ?_
                    refine wp_ireturn (pc := 98) d_M_costBy_98 rfl ?_
                    refine ⟨?_, rfl⟩
                    rcases (show s = 0 ∨ s = 1 ∨ s = 2 by omega) with e | e | e
                    · first | (exfalso; omega) | rw [e, mBy_0, if_neg (by omega)]
                    · first | (exfalso; omega) | rw [e, mBy_1, if_neg (by omega)]
                    · first | (exfalso; omega) | rw [e, mBy_2, if_neg (by omega)]
  · refine wp_iload_n (pc := 13) d_M_costBy_13 rfl ?_
    refine wp_iconst (pc := 14) d_M_costBy_14 rfl ?_
    refine wp_icmp_ne (tgt := 22) (pc := 15) d_M_costBy_15 rfl (fun c15 => ?_) (fun c15 => ?_)
    · refine wp_iconst (pc := 22) d_M_costBy_22 rfl ?_
      refine wp_ist4 (pc := 23) d_M_costBy_23 rfl ?_
      refine wp_iload (pc := 25) d_M_costBy_25 rfl ?_
      refine wp_if_eq (tgt := 52) (pc := 27) d_M_costBy_27 rfl (fun c27 => ?_) (fun c27 => ?_)
      · refine wp_iconst (pc := 52) d_M_costBy_52 rfl ?_
        refine wp_ist4 (pc := 53) d_M_costBy_53 rfl ?_
        refine wp_iload (pc := 55) d_M_costBy_55 rfl ?_
        refine wp_if_eq (tgt := 96) (pc := 57) d_M_costBy_57 rfl (fun c57 => ?_) (fun c57 => ?_)
        · refine wp_ldc (pc := 96) d_M_costBy_96 rfl ?_
          refine wp_ireturn (pc := 98) d_M_costBy_98 rfl ?_
          refine ⟨?_, rfl⟩
          rcases (show s = 0 ∨ s = 1 ∨ s = 2 by omega) with e | e | e
          · first | (exfalso; omega) | rw [e, mBy_0, if_neg (by omega)]
          · first | (exfalso; omega) | rw [e, mBy_1, if_neg (by omega)]
          · first | (exfalso; omega) | rw [e, mBy_2, if_neg (by omega)]
        · exact absurd c57 (by decide)
      · exact absurd c27 (by decide)
    · refine wp_iconst (pc := 18) d_M_costBy_18 rfl ?_
      refine wp_goto (tgt := 23) (pc := 19) d_M_costBy_19 rfl ?_
      refine wp_ist4 (pc := 23) d_M_costBy_23 rfl ?_
      refine wp_iload (pc := 25) d_M_costBy_25 rfl ?_
      refine wp_if_eq (tgt := 52) (pc := 27) d_M_costBy_27 rfl (fun c27 => ?_) (fun c27 => ?_)
      · exact absurd c27 (by decide)
      · refine wp_iload_n (pc := 30) d_M_costBy_30 rfl ?_
        refine wp_aload_n (pc := 31) d_M_costBy_31 rfl ?_
        refine wp_getR (pc := 32) d_M_costBy_32 rfl (zk_174 L) zx_174_3 ?_
        refine wp_aload_n (pc := 35) d_M_costBy_35 rfl ?_
        refine wp_getI (pc := 36) d_M_costBy_36 rfl (by decide) (zk_174 L) ?_
        rw [e17]
        refine wp_iald (pc := 39) d_M_costBy_39 (zk_176 L) (by omega) (by omega) ?_
        rw [ny]
        refine wp_icmp_lt (tgt := 48) (pc := 40) d_M_costBy_40 rfl (fun c40 => ?_) (fun c40 => ?_)
        · refine wp_iconst (pc := 48) d_M_costBy_48 rfl ?_
          refine wp_goto (tgt := 53) (pc := 49) d_M_costBy_49 rfl ?_
          refine wp_ist4 (pc := 53) d_M_costBy_53 rfl ?_
          refine wp_iload (pc := 55) d_M_costBy_55 rfl ?_
          refine wp_if_eq (tgt := 96) (pc := 57) d_M_costBy_57 rfl (fun c57 => ?_) (fun c57 => ?_)
          · exact absurd c57 (by decide)
          · refine wp_iload_n (pc := 60) d_M_costBy_60 rfl ?_
            refine wp_iconst (pc := 61) d_M_costBy_61 rfl ?_
            refine wp_icmp_ne (tgt := 78) (pc := 62) d_M_costBy_62 rfl (fun c62 => ?_) (fun c62 => ?_)
            · refine wp_iload_n (pc := 78) d_M_costBy_78 rfl ?_
              refine wp_iconst (pc := 79) d_M_costBy_79 rfl ?_
              refine wp_icmp_ne (tgt := 99) (pc := 80) d_M_costBy_80 rfl (fun c80 => ?_) (fun c80 => ?_)
              · refine wp_iload_n (pc := 99) d_M_costBy_99 rfl ?_
                refine wp_if_ne (tgt := 141) (pc := 100) d_M_costBy_100 rfl (fun c100 => ?_) (fun c100 => ?_)
                · refine wp_iconst (pc := 141) d_M_costBy_141 rfl ?_
                  refine wp_iload_n (pc := 142) d_M_costBy_142 rfl ?_
                  refine wp_iconst (pc := 143) d_M_costBy_143 rfl ?_
                  refine wp_icmp_ne (tgt := 163) (pc := 144) d_M_costBy_144 rfl (fun c144 => ?_) (fun c144 => ?_)
                  · refine wp_aload_n (pc := 163) d_M_costBy_163 rfl ?_
                    refine wp_getR (pc := 164) d_M_costBy_164 rfl (zk_174 L) zx_174_13 ?_
                    refine wp_bipush (pc := 167) d_M_costBy_167 rfl ?_
                    refine wp_iload_n (pc := 169) d_M_costBy_169 rfl ?_
                    refine wp_imul (pc := 170) d_M_costBy_170 (by omega) (by omega) ?_
                    refine wp_iload_n (pc := 171) d_M_costBy_171 rfl ?_
                    refine wp_iadd (pc := 172) d_M_costBy_172 (by omega) (by omega) ?_
                    refine wp_iconst (pc := 173) d_M_costBy_173 rfl ?_
                    refine wp_iadd (pc := 174) d_M_costBy_174 (by omega) (by omega) ?_
                    refine wp_iald (pc := 175) d_M_costBy_175 (zk_182 L) (by omega) (by omega) ?_
                    rw [show (25 * i + j + 1).toNat = (25 * i + (j + 1)).toNat by omega, hT i (j + 1) (by omega) (by omega) (by omega)]
                    have b01 := mVl_b (f := D.1 x) (g := D.1 y) (n1 := D.2.1 x) (n2 := D.2.1 y) (b := D.2.2.1) lx.2 ly.2 i0 (show 0 ≤ j + 1 by omega)
                    refine wp_iadd (pc := 176) d_M_costBy_176 (by omega) (by omega) ?_
                    refine wp_ireturn (pc := 177) d_M_costBy_177 rfl ?_
                    refine ⟨?_, rfl⟩
                    unfold mBy
                    first | (exfalso; omega) | rw [if_neg (show ¬ s = 0 by omega), if_pos (show s = 1 by omega), if_pos (by omega)] | rw [if_neg (show ¬ s = 0 by omega), if_neg (show ¬ s = 1 by omega), if_pos (by omega)]
                  · refine wp_aload_n (pc := 147) d_M_costBy_147 rfl ?_
                    refine wp_getR (pc := 148) d_M_costBy_148 rfl (zk_174 L) zx_174_13 ?_
                    refine wp_bipush (pc := 151) d_M_costBy_151 rfl ?_
                    refine wp_iload_n (pc := 153) d_M_costBy_153 rfl ?_
                    refine wp_iconst (pc := 154) d_M_costBy_154 rfl ?_
                    refine wp_iadd (pc := 155) d_M_costBy_155 (by omega) (by omega) ?_
                    refine wp_imul (pc := 156) d_M_costBy_156 (by omega) (by omega) ?_
                    refine wp_iload_n (pc := 157) d_M_costBy_157 rfl ?_
                    refine wp_iadd (pc := 158) d_M_costBy_158 (by omega) (by omega) ?_
                    refine wp_iald (pc := 159) d_M_costBy_159 (zk_182 L) (by omega) (by omega) ?_
                    rw [hT (i + 1) j (by omega) (by omega) (by omega)]
                    have b10 := mVl_b (f := D.1 x) (g := D.1 y) (n1 := D.2.1 x) (n2 := D.2.1 y) (b := D.2.2.1) lx.2 ly.2 (show 0 ≤ i + 1 by omega) j0
                    refine wp_goto (tgt := 176) (pc := 160) d_M_costBy_160 rfl ?_
                    refine wp_iadd (pc := 176) d_M_costBy_176 (by omega) (by omega) ?_
                    refine wp_ireturn (pc := 177) d_M_costBy_177 rfl ?_
                    refine ⟨?_, rfl⟩
                    unfold mBy
                    first | (exfalso; omega) | rw [if_neg (show ¬ s = 0 by omega), if_pos (show s = 1 by omega), if_pos (by omega)] | rw [if_neg (show ¬ s = 0 by omega), if_neg (show ¬ s = 1 by omega), if_pos (by omega)]
                · refine wp_aload_n (pc := 103) d_M_costBy_103 rfl ?_
                  refine wp_getR (pc := 104) d_M_costBy_104 rfl (zk_174 L) zx_174_13 ?_
                  refine wp_bipush (pc := 107) d_M_costBy_107 rfl ?_
                  refine wp_iload_n (pc := 109) d_M_costBy_109 rfl ?_
                  refine wp_iconst (pc := 110) d_M_costBy_110 rfl ?_
                  refine wp_iadd (pc := 111) d_M_costBy_111 (by omega) (by omega) ?_
                  refine wp_imul (pc := 112) d_M_costBy_112 (by omega) (by omega) ?_
                  refine wp_iload_n (pc := 113) d_M_costBy_113 rfl ?_
                  refine wp_iadd (pc := 114) d_M_costBy_114 (by omega) (by omega) ?_
                  refine wp_iconst (pc := 115) d_M_costBy_115 rfl ?_
                  refine wp_iadd (pc := 116) d_M_costBy_116 (by omega) (by omega) ?_
                  refine wp_iald (pc := 117) d_M_costBy_117 (zk_182 L) (by omega) (by omega) ?_
                  refine wp_aload_n (pc := 118) d_M_costBy_118 rfl ?_
                  refine wp_aload_n (pc := 119) d_M_costBy_119 rfl ?_
                  refine wp_getI (pc := 120) d_M_costBy_120 rfl (by decide) (zk_174 L) ?_
                  rw [e16]
                  refine wp_iload_n (pc := 123) d_M_costBy_123 rfl ?_
                  refine wp_callV2f (pc := 124) d_M_costBy_124 rfl rfl (zk_174 L) rfl rfl (c_M_letterAt h hd x0 x1 (by omega) (by omega)) ?_
                  refine wp_aload_n (pc := 127) d_M_costBy_127 rfl ?_
                  refine wp_aload_n (pc := 128) d_M_costBy_128 rfl ?_
                  refine wp_getI (pc := 129) d_M_costBy_129 rfl (by decide) (zk_174 L) ?_
                  rw [e17]
                  refine wp_iload_n (pc := 132) d_M_costBy_132 rfl ?_
                  refine wp_callV2f (pc := 133) d_M_costBy_133 rfl rfl (zk_174 L) rfl rfl (c_M_letterAt h hd y0 y1 (by omega) (by omega)) ?_
                  have t11 := hT (i + 1) (j + 1) (by omega) (by omega) (by omega)
                  have b11 := mVl_b (f := D.1 x) (g := D.1 y) (n1 := D.2.1 x) (n2 := D.2.1 y) (b := D.2.2.1) lx.2 ly.2 (show 0 ≤ i + 1 by omega) (show 0 ≤ j + 1 by omega)
                  have k11 := zKc_p (D.1 x i) (D.1 y j)
                  rw [show (25 * (i + 1) + j + 1).toNat = (25 * (i + 1) + (j + 1)).toNat by omega, t11]
                  refine wp_callS2f (pc := 136) d_M_costBy_136 rfl rfl rfl rfl rfl (c_M_pairCost ((hd.2.2 x x0 x1).2 i (by omega) (by omega)) ((hd.2.2 y y0 y1).2 j (by omega) (by omega))) ?_
                  refine wp_iadd (pc := 139) d_M_costBy_139 (by omega) (by omega) ?_
                  have q9 := True.intro
                  refine wp_ireturn (pc := 140) d_M_costBy_140 rfl ?_
                  refine ⟨?_, rfl⟩
                  unfold mBy
                  first | (exfalso; omega) | rw [if_pos (show s = 0 by omega), if_pos (by omega)]
              · refine wp_iload_n (pc := 83) d_M_costBy_83 rfl ?_
                refine wp_aload_n (pc := 84) d_M_costBy_84 rfl ?_
                refine wp_getR (pc := 85) d_M_costBy_85 rfl (zk_174 L) zx_174_3 ?_
                refine wp_aload_n (pc := 88) d_M_costBy_88 rfl ?_
                refine wp_getI (pc := 89) d_M_costBy_89 rfl (by decide) (zk_174 L) ?_
                rw [e17]
                refine wp_iald (pc := 92) d_M_costBy_92 (zk_176 L) (by omega) (by omega) ?_
                rw [ny]
                refine wp_icmp_ne (tgt := 99) (pc := 93) d_M_costBy_93 rfl (fun c93 => ?_) (fun c93 => ?_)
                · refine wp_iload_n (pc := 99) d_M_costBy_99 rfl ?_
                  refine wp_if_ne (tgt := 141) (pc := 100) d_M_costBy_100 rfl (fun c100 => ?_) (fun c100 => ?_)
                  · refine wp_iconst (pc := 141) d_M_costBy_141 rfl ?_
                    refine wp_iload_n (pc := 142) d_M_costBy_142 rfl ?_
                    refine wp_iconst (pc := 143) d_M_costBy_143 rfl ?_
                    refine wp_icmp_ne (tgt := 163) (pc := 144) d_M_costBy_144 rfl (fun c144 => ?_) (fun c144 => ?_)
                    · refine wp_aload_n (pc := 163) d_M_costBy_163 rfl ?_
                      refine wp_getR (pc := 164) d_M_costBy_164 rfl (zk_174 L) zx_174_13 ?_
                      refine wp_bipush (pc := 167) d_M_costBy_167 rfl ?_
                      refine wp_iload_n (pc := 169) d_M_costBy_169 rfl ?_
                      refine wp_imul (pc := 170) d_M_costBy_170 (by omega) (by omega) ?_
                      refine wp_iload_n (pc := 171) d_M_costBy_171 rfl ?_
                      refine wp_iadd (pc := 172) d_M_costBy_172 (by omega) (by omega) ?_
                      refine wp_iconst (pc := 173) d_M_costBy_173 rfl ?_
                      refine wp_iadd (pc := 174) d_M_costBy_174 (by omega) (by omega) ?_
                      refine wp_iald (pc := 175) d_M_costBy_175 (zk_182 L) (by omega) (by omega) ?_
                      rw [show (25 * i + j + 1).toNat = (25 * i + (j + 1)).toNat by omega, hT i (j + 1) (by omega) (by omega) (by omega)]
                      have b01 := mVl_b (f := D.1 x) (g := D.1 y) (n1 := D.2.1 x) (n2 := D.2.1 y) (b := D.2.2.1) lx.2 ly.2 i0 (show 0 ≤ j + 1 by omega)
                      refine wp_iadd (pc := 176) d_M_costBy_176 (by omega) (by omega) ?_
                      refine wp_ireturn (pc := 177) d_M_costBy_177 rfl ?_
                      refine ⟨?_, rfl⟩
                      unfold mBy
                      first | (exfalso; omega) | rw [if_neg (show ¬ s = 0 by omega), if_pos (show s = 1 by omega), if_pos (by omega)] | rw [if_neg (show ¬ s = 0 by omega), if_neg (show ¬ s = 1 by omega), if_pos (by omega)]
                    · refine wp_aload_n (pc := 147) d_M_costBy_147 rfl ?_
                      refine wp_getR (pc := 148) d_M_costBy_148 rfl (zk_174 L) zx_174_13 ?_
                      refine wp_bipush (pc := 151) d_M_costBy_151 rfl ?_
                      refine wp_iload_n (pc := 153) d_M_costBy_153 rfl ?_
                      refine wp_iconst (pc := 154) d_M_costBy_154 rfl ?_
                      refine wp_iadd (pc := 155) d_M_costBy_155 (by omega) (by omega) ?_
                      refine wp_imul (pc := 156) d_M_costBy_156 (by omega) (by omega) ?_
                      refine wp_iload_n (pc := 157) d_M_costBy_157 rfl ?_
                      refine wp_iadd (pc := 158) d_M_costBy_158 (by omega) (by omega) ?_
                      refine wp_iald (pc := 159) d_M_costBy_159 (zk_182 L) (by omega) (by omega) ?_
                      rw [hT (i + 1) j (by omega) (by omega) (by omega)]
                      have b10 := mVl_b (f := D.1 x) (g := D.1 y) (n1 := D.2.1 x) (n2 := D.2.1 y) (b := D.2.2.1) lx.2 ly.2 (show 0 ≤ i + 1 by omega) j0
                      refine wp_goto (tgt := 176) (pc := 160) d_M_costBy_160 rfl ?_
                      refine wp_iadd (pc := 176) d_M_costBy_176 (by omega) (by omega) ?_
                      refine wp_ireturn (pc := 177) d_M_costBy_177 rfl ?_
                      refine ⟨?_, rfl⟩
                      unfold mBy
                      first | (exfalso; omega) | rw [if_neg (show ¬ s = 0 by omega), if_pos (show s = 1 by omega), if_pos (by omega)] | rw [if_neg (show ¬ s = 0 by omega), if_neg (show ¬ s = 1 by omega), if_pos (by omega)]
                  · refine wp_aload_n (pc := 103) d_M_costBy_103 rfl ?_
                    refine wp_getR (pc := 104) d_M_costBy_104 rfl (zk_174 L) zx_174_13 ?_
                    refine wp_bipush (pc := 107) d_M_costBy_107 rfl ?_
                    refine wp_iload_n (pc := 109) d_M_costBy_109 rfl ?_
                    refine wp_iconst (pc := 110) d_M_costBy_110 rfl ?_
                    refine wp_iadd (pc := 111) d_M_costBy_111 (by omega) (by omega) ?_
                    refine wp_imul (pc := 112) d_M_costBy_112 (by omega) (by omega) ?_
                    refine wp_iload_n (pc := 113) d_M_costBy_113 rfl ?_
                    refine wp_iadd (pc := 114) d_M_costBy_114 (by omega) (by omega) ?_
                    refine wp_iconst (pc := 115) d_M_costBy_115 rfl ?_
                    refine wp_iadd (pc := 116) d_M_costBy_116 (by omega) (by omega) ?_
                    refine wp_iald (pc := 117) d_M_costBy_117 (zk_182 L) (by omega) (by omega) ?_
                    refine wp_aload_n (pc := 118) d_M_costBy_118 rfl ?_
                    refine wp_aload_n (pc := 119) d_M_costBy_119 rfl ?_
                    refine wp_getI (pc := 120) d_M_costBy_120 rfl (by decide) (zk_174 L) ?_
                    rw [e16]
                    refine wp_iload_n (pc := 123) d_M_costBy_123 rfl ?_
                    refine wp_callV2f (pc := 124) d_M_costBy_124 rfl rfl (zk_174 L) rfl rfl (c_M_letterAt h hd x0 x1 (by omega) (by omega)) ?_
                    refine wp_aload_n (pc := 127) d_M_costBy_127 rfl ?_
                    refine wp_aload_n (pc := 128) d_M_costBy_128 rfl ?_
                    refine wp_getI (pc := 129) d_M_costBy_129 rfl (by decide) (zk_174 L) ?_
                    rw [e17]
                    refine wp_iload_n (pc := 132) d_M_costBy_132 rfl ?_
                    refine wp_callV2f (pc := 133) d_M_costBy_133 rfl rfl (zk_174 L) rfl rfl (c_M_letterAt h hd y0 y1 (by omega) (by omega)) ?_
                    have t11 := hT (i + 1) (j + 1) (by omega) (by omega) (by omega)
                    have b11 := mVl_b (f := D.1 x) (g := D.1 y) (n1 := D.2.1 x) (n2 := D.2.1 y) (b := D.2.2.1) lx.2 ly.2 (show 0 ≤ i + 1 by omega) (show 0 ≤ j + 1 by omega)
                    have k11 := zKc_p (D.1 x i) (D.1 y j)
                    rw [show (25 * (i + 1) + j + 1).toNat = (25 * (i + 1) + (j + 1)).toNat by omega, t11]
                    refine wp_callS2f (pc := 136) d_M_costBy_136 rfl rfl rfl rfl rfl (c_M_pairCost ((hd.2.2 x x0 x1).2 i (by omega) (by omega)) ((hd.2.2 y y0 y1).2 j (by omega) (by omega))) ?_
                    refine wp_iadd (pc := 139) d_M_costBy_139 (by omega) (by omega) ?_
                    have q9 := True.intro
                    refine wp_ireturn (pc := 140) d_M_costBy_140 rfl ?_
                    refine ⟨?_, rfl⟩
                    unfold mBy
                    first | (exfalso; omega) | rw [if_pos (show s = 0 by omega), if_pos (by omega)]
                · refine wp_ldc (pc := 96) d_M_costBy_96 rfl ?_
                  refine wp_ireturn (pc := 98) d_M_costBy_98 rfl ?_
                  refine ⟨?_, rfl⟩
                  rcases (show s = 0 ∨ s = 1 ∨ s = 2 by omega) with e | e | e
                  · first | (exfalso; omega) | rw [e, mBy_0, if_neg (by omega)]
                  · first | (exfalso; omega) | rw [e, mBy_1, if_neg (by omega)]
                  · first | (exfalso; omega) | rw [e, mBy_2, if_neg (by omega)]
            · refine wp_iload_n (pc := 65) d_M_costBy_65 rfl ?_
              refine wp_aload_n (pc := 66) d_M_costBy_66 rfl ?_
              refine wp_getR (pc := 67) d_M_costBy_67 rfl (zk_174 L) zx_174_3 ?_
              refine wp_aload_n (pc := 70) d_M_costBy_70 rfl ?_
              refine wp_getI (pc := 71) d_M_costBy_71 rfl (by decide) (zk_174 L) ?_
              rw [e16]
              refine wp_iald (pc := 74) d_M_costBy_74 (zk_176 L) (by omega) (by omega) ?_
              rw [nx]
              refine wp_icmp_eq (tgt := 96) (pc := 75) d_M_costBy_75 rfl (fun c75 => ?_) (fun c75 => ?_)
              · refine wp_ldc (pc := 96) d_M_costBy_96 rfl ?_
                refine wp_ireturn (pc := 98) d_M_costBy_98 rfl ?_
                refine ⟨?_, rfl⟩
                rcases (show s = 0 ∨ s = 1 ∨ s = 2 by omega) with e | e | e
                · first | (exfalso; omega) | rw [e, mBy_0, if_neg (by omega)]
                · first | (exfalso; omega) | rw [e, mBy_1, if_neg (by omega)]
                · first | (exfalso; omega) | rw [e, mBy_2, if_neg (by omega)]
              · refine wp_iload_n (pc := 78) d_M_costBy_78 rfl ?_
                refine wp_iconst (pc := 79) d_M_costBy_79 rfl ?_
                refine wp_icmp_ne (tgt := 99) (pc := 80) d_M_costBy_80 rfl (fun c80 => ?_) (fun c80 => ?_)
                · refine wp_iload_n (pc := 99) d_M_costBy_99 rfl ?_
                  refine wp_if_ne (tgt := 141) (pc := 100) d_M_costBy_100 rfl (fun c100 => ?_) (fun c100 => ?_)
                  · refine wp_iconst (pc := 141) d_M_costBy_141 rfl ?_
                    refine wp_iload_n (pc := 142) d_M_costBy_142 rfl ?_
                    refine wp_iconst (pc := 143) d_M_costBy_143 rfl ?_
                    refine wp_icmp_ne (tgt := 163) (pc := 144) d_M_costBy_144 rfl (fun c144 => ?_) (fun c144 => ?_)
                    · refine wp_aload_n (pc := 163) d_M_costBy_163 rfl ?_
                      refine wp_getR (pc := 164) d_M_costBy_164 rfl (zk_174 L) zx_174_13 ?_
                      refine wp_bipush (pc := 167) d_M_costBy_167 rfl ?_
                      refine wp_iload_n (pc := 169) d_M_costBy_169 rfl ?_
                      refine wp_imul (pc := 170) d_M_costBy_170 (by omega) (by omega) ?_
                      refine wp_iload_n (pc := 171) d_M_costBy_171 rfl ?_
                      refine wp_iadd (pc := 172) d_M_costBy_172 (by omega) (by omega) ?_
                      refine wp_iconst (pc := 173) d_M_costBy_173 rfl ?_
                      refine wp_iadd (pc := 174) d_M_costBy_174 (by omega) (by omega) ?_
                      refine wp_iald (pc := 175) d_M_costBy_175 (zk_182 L) (by omega) (by omega) ?_
                      rw [show (25 * i + j + 1).toNat = (25 * i + (j + 1)).toNat by omega, hT i (j + 1) (by omega) (by omega) (by omega)]
                      have b01 := mVl_b (f := D.1 x) (g := D.1 y) (n1 := D.2.1 x) (n2 := D.2.1 y) (b := D.2.2.1) lx.2 ly.2 i0 (show 0 ≤ j + 1 by omega)
                      refine wp_iadd (pc := 176) d_M_costBy_176 (by omega) (by omega) ?_
                      refine wp_ireturn (pc := 177) d_M_costBy_177 rfl ?_
                      refine ⟨?_, rfl⟩
                      unfold mBy
                      first | (exfalso; omega) | rw [if_neg (show ¬ s = 0 by omega), if_pos (show s = 1 by omega), if_pos (by omega)] | rw [if_neg (show ¬ s = 0 by omega), if_neg (show ¬ s = 1 by omega), if_pos (by omega)]
                    · refine wp_aload_n (pc := 147) d_M_costBy_147 rfl ?_
                      refine wp_getR (pc := 148) d_M_costBy_148 rfl (zk_174 L) zx_174_13 ?_
                      refine wp_bipush (pc := 151) d_M_costBy_151 rfl ?_
                      refine wp_iload_n (pc := 153) d_M_costBy_153 rfl ?_
                      refine wp_iconst (pc := 154) d_M_costBy_154 rfl ?_
                      refine wp_iadd (pc := 155) d_M_costBy_155 (by omega) (by omega) ?_
                      refine wp_imul (pc := 156) d_M_costBy_156 (by omega) (by omega) ?_
                      refine wp_iload_n (pc := 157) d_M_costBy_157 rfl ?_
                      refine wp_iadd (pc := 158) d_M_costBy_158 (by omega) (by omega) ?_
                      refine wp_iald (pc := 159) d_M_costBy_159 (zk_182 L) (by omega) (by omega) ?_
                      rw [hT (i + 1) j (by omega) (by omega) (by omega)]
                      have b10 := mVl_b (f := D.1 x) (g := D.1 y) (n1 := D.2.1 x) (n2 := D.2.1 y) (b := D.2.2.1) lx.2 ly.2 (show 0 ≤ i + 1 by omega) j0
                      refine wp_goto (tgt := 176) (pc := 160) d_M_costBy_160 rfl ?_
                      refine wp_iadd (pc := 176) d_M_costBy_176 (by omega) (by omega) ?_
                      refine wp_ireturn (pc := 177) d_M_costBy_177 rfl ?_
                      refine ⟨?_, rfl⟩
                      unfold mBy
                      first | (exfalso; omega) | rw [if_neg (show ¬ s = 0 by omega), if_pos (show s = 1 by omega), if_pos (by omega)] | rw [if_neg (show ¬ s = 0 by omega), if_neg (show ¬ s = 1 by omega), if_pos (by omega)]
                  · refine wp_aload_n (pc := 103) d_M_costBy_103 rfl ?_
                    refine wp_getR (pc := 104) d_M_costBy_104 rfl (zk_174 L) zx_174_13 ?_
                    refine wp_bipush (pc := 107) d_M_costBy_107 rfl ?_
                    refine wp_iload_n (pc := 109) d_M_costBy_109 rfl ?_
                    refine wp_iconst (pc := 110) d_M_costBy_110 rfl ?_
                    refine wp_iadd (pc := 111) d_M_costBy_111 (by omega) (by omega) ?_
                    refine wp_imul (pc := 112) d_M_costBy_112 (by omega) (by omega) ?_
                    refine wp_iload_n (pc := 113) d_M_costBy_113 rfl ?_
                    refine wp_iadd (pc := 114) d_M_costBy_114 (by omega) (by omega) ?_
                    refine wp_iconst (pc := 115) d_M_costBy_115 rfl ?_
                    refine wp_iadd (pc := 116) d_M_costBy_116 (by omega) (by omega) ?_
                    refine wp_iald (pc := 117) d_M_costBy_117 (zk_182 L) (by omega) (by omega) ?_
                    refine wp_aload_n (pc := 118) d_M_costBy_118 rfl ?_
                    refine wp_aload_n (pc := 119) d_M_costBy_119 rfl ?_
                    refine wp_getI (pc := 120) d_M_costBy_120 rfl (by decide) (zk_174 L) ?_
                    rw [e16]
                    refine wp_iload_n (pc := 123) d_M_costBy_123 rfl ?_
                    refine wp_callV2f (pc := 124) d_M_costBy_124 rfl rfl (zk_174 L) rfl rfl (c_M_letterAt h hd x0 x1 (by omega) (by omega)) ?_
                    refine wp_aload_n (pc := 127) d_M_costBy_127 rfl ?_
                    refine wp_aload_n (pc := 128) d_M_costBy_128 rfl ?_
                    refine wp_getI (pc := 129) d_M_costBy_129 rfl (by decide) (zk_174 L) ?_
                    rw [e17]
                    refine wp_iload_n (pc := 132) d_M_costBy_132 rfl ?_
                    refine wp_callV2f (pc := 133) d_M_costBy_133 rfl rfl (zk_174 L) rfl rfl (c_M_letterAt h hd y0 y1 (by omega) (by omega)) ?_
                    have t11 := hT (i + 1) (j + 1) (by omega) (by omega) (by omega)
                    have b11 := mVl_b (f := D.1 x) (g := D.1 y) (n1 := D.2.1 x) (n2 := D.2.1 y) (b := D.2.2.1) lx.2 ly.2 (show 0 ≤ i + 1 by omega) (show 0 ≤ j + 1 by omega)
                    have k11 := zKc_p (D.1 x i) (D.1 y j)
                    rw [show (25 * (i + 1) + j + 1).toNat = (25 * (i + 1) + (j + 1)).toNat by omega, t11]
                    refine wp_callS2f (pc := 136) d_M_costBy_136 rfl rfl rfl rfl rfl (c_M_pairCost ((hd.2.2 x x0 x1).2 i (by omega) (by omega)) ((hd.2.2 y y0 y1).2 j (by omega) (by omega))) ?_
                    refine wp_iadd (pc := 139) d_M_costBy_139 (by omega) (by omega) ?_
                    have q9 := True.intro
                    refine wp_ireturn (pc := 140) d_M_costBy_140 rfl ?_
                    refine ⟨?_, rfl⟩
                    unfold mBy
                    first | (exfalso; omega) | rw [if_pos (show s = 0 by omega), if_pos (by omega)]
                · refine wp_iload_n (pc := 83) d_M_costBy_83 rfl ?_
                  refine wp_aload_n (pc := 84) d_M_costBy_84 rfl ?_
                  refine wp_getR (pc := 85) d_M_costBy_85 rfl (zk_174 L) zx_174_3 ?_
                  refine wp_aload_n (pc := 88) d_M_costBy_88 rfl ?_
                  refine wp_getI (pc := 89) d_M_costBy_89 rfl (by decide) (zk_174 L) ?_
                  rw [e17]
                  refine wp_iald (pc := 92) d_M_costBy_92 (zk_176 L) (by omega) (by omega) ?_
                  rw [ny]
                  refine wp_icmp_ne (tgt := 99) (pc := 93) d_M_costBy_93 rfl (fun c93 => ?_) (fun c93 => ?_)
                  · refine wp_iload_n (pc := 99) d_M_costBy_99 rfl ?_
                    refine wp_if_ne (tgt := 141) (pc := 100) d_M_costBy_100 rfl (fun c100 => ?_) (fun c100 => ?_)
                    · refine wp_iconst (pc := 141) d_M_costBy_141 rfl ?_
                      refine wp_iload_n (pc := 142) d_M_costBy_142 rfl ?_
                      refine wp_iconst (pc := 143) d_M_costBy_143 rfl ?_
                      refine wp_icmp_ne (tgt := 163) (pc := 144) d_M_costBy_144 rfl (fun c144 => ?_) (fun c144 => ?_)
                      · refine wp_aload_n (pc := 163) d_M_costBy_163 rfl ?_
                        refine wp_getR (pc := 164) d_M_costBy_164 rfl (zk_174 L) zx_174_13 ?_
                        refine wp_bipush (pc := 167) d_M_costBy_167 rfl ?_
                        refine wp_iload_n (pc := 169) d_M_costBy_169 rfl ?_
                        refine wp_imul (pc := 170) d_M_costBy_170 (by omega) (by omega) ?_
                        refine wp_iload_n (pc := 171) d_M_costBy_171 rfl ?_
                        refine wp_iadd (pc := 172) d_M_costBy_172 (by omega) (by omega) ?_
                        refine wp_iconst (pc := 173) d_M_costBy_173 rfl ?_
                        refine wp_iadd (pc := 174) d_M_costBy_174 (by omega) (by omega) ?_
                        refine wp_iald (pc := 175) d_M_costBy_175 (zk_182 L) (by omega) (by omega) ?_
                        rw [show (25 * i + j + 1).toNat = (25 * i + (j + 1)).toNat by omega, hT i (j + 1) (by omega) (by omega) (by omega)]
                        have b01 := mVl_b (f := D.1 x) (g := D.1 y) (n1 := D.2.1 x) (n2 := D.2.1 y) (b := D.2.2.1) lx.2 ly.2 i0 (show 0 ≤ j + 1 by omega)
                        refine wp_iadd (pc := 176) d_M_costBy_176 (by omega) (by omega) ?_
                        refine wp_ireturn (pc := 177) d_M_costBy_177 rfl ?_
                        refine ⟨?_, rfl⟩
                        unfold mBy
                        first | (exfalso; omega) | rw [if_neg (show ¬ s = 0 by omega), if_pos (show s = 1 by omega), if_pos (by omega)] | rw [if_neg (show ¬ s = 0 by omega), if_neg (show ¬ s = 1 by omega), if_pos (by omega)]
                      · refine wp_aload_n (pc := 147) d_M_costBy_147 rfl ?_
                        refine wp_getR (pc := 148) d_M_costBy_148 rfl (zk_174 L) zx_174_13 ?_
                        refine wp_bipush (pc := 151) d_M_costBy_151 rfl ?_
                        refine wp_iload_n (pc := 153) d_M_costBy_153 rfl ?_
                        refine wp_iconst (pc := 154) d_M_costBy_154 rfl ?_
                        refine wp_iadd (pc := 155) d_M_costBy_155 (by omega) (by omega) ?_
                        refine wp_imul (pc := 156) d_M_costBy_156 (by omega) (by omega) ?_
                        refine wp_iload_n (pc := 157) d_M_costBy_157 rfl ?_
                        refine wp_iadd (pc := 158) d_M_costBy_158 (by omega) (by omega) ?_
                        refine wp_iald (pc := 159) d_M_costBy_159 (zk_182 L) (by omega) (by omega) ?_
                        rw [hT (i + 1) j (by omega) (by omega) (by omega)]
                        have b10 := mVl_b (f := D.1 x) (g := D.1 y) (n1 := D.2.1 x) (n2 := D.2.1 y) (b := D.2.2.1) lx.2 ly.2 (show 0 ≤ i + 1 by omega) j0
                        refine wp_goto (tgt := 176) (pc := 160) d_M_costBy_160 rfl ?_
                        refine wp_iadd (pc := 176) d_M_costBy_176 (by omega) (by omega) ?_
                        refine wp_ireturn (pc := 177) d_M_costBy_177 rfl ?_
                        refine ⟨?_, rfl⟩
                        unfold mBy
                        first | (exfalso; omega) | rw [if_neg (show ¬ s = 0 by omega), if_pos (show s = 1 by omega), if_pos (by omega)] | rw [if_neg (show ¬ s = 0 by omega), if_neg (show ¬ s = 1 by omega), if_pos (by omega)]
                    · refine wp_aload_n (pc := 103) d_M_costBy_103 rfl ?_
                      refine wp_getR (pc := 104) d_M_costBy_104 rfl (zk_174 L) zx_174_13 ?_
                      refine wp_bipush (pc := 107) d_M_costBy_107 rfl ?_
                      refine wp_iload_n (pc := 109) d_M_costBy_109 rfl ?_
                      refine wp_iconst (pc := 110) d_M_costBy_110 rfl ?_
                      refine wp_iadd (pc := 111) d_M_costBy_111 (by omega) (by omega) ?_
                      refine wp_imul (pc := 112) d_M_costBy_112 (by omega) (by omega) ?_
                      refine wp_iload_n (pc := 113) d_M_costBy_113 rfl ?_
                      refine wp_iadd (pc := 114) d_M_costBy_114 (by omega) (by omega) ?_
                      refine wp_iconst (pc := 115) d_M_costBy_115 rfl ?_
                      refine wp_iadd (pc := 116) d_M_costBy_116 (by omega) (by omega) ?_
                      refine wp_iald (pc := 117) d_M_costBy_117 (zk_182 L) (by omega) (by omega) ?_
                      refine wp_aload_n (pc := 118) d_M_costBy_118 rfl ?_
                      refine wp_aload_n (pc := 119) d_M_costBy_119 rfl ?_
                      refine wp_getI (pc := 120) d_M_costBy_120 rfl (by decide) (zk_174 L) ?_
                      rw [e16]
                      refine wp_iload_n (pc := 123) d_M_costBy_123 rfl ?_
                      refine wp_callV2f (pc := 124) d_M_costBy_124 rfl rfl (zk_174 L) rfl rfl (c_M_letterAt h hd x0 x1 (by omega) (by omega)) ?_
                      refine wp_aload_n (pc := 127) d_M_costBy_127 rfl ?_
                      refine wp_aload_n (pc := 128) d_M_costBy_128 rfl ?_
                      refine wp_getI (pc := 129) d_M_costBy_129 rfl (by decide) (zk_174 L) ?_
                      rw [e17]
                      refine wp_iload_n (pc := 132) d_M_costBy_132 rfl ?_
                      refine wp_callV2f (pc := 133) d_M_costBy_133 rfl rfl (zk_174 L) rfl rfl (c_M_letterAt h hd y0 y1 (by omega) (by omega)) ?_
                      have t11 := hT (i + 1) (j + 1) (by omega) (by omega) (by omega)
                      have b11 := mVl_b (f := D.1 x) (g := D.1 y) (n1 := D.2.1 x) (n2 := D.2.1 y) (b := D.2.2.1) lx.2 ly.2 (show 0 ≤ i + 1 by omega) (show 0 ≤ j + 1 by omega)
                      have k11 := zKc_p (D.1 x i) (D.1 y j)
                      rw [show (25 * (i + 1) + j + 1).toNat = (25 * (i + 1) + (j + 1)).toNat by omega, t11]
                      refine wp_callS2f (pc := 136) d_M_costBy_136 rfl rfl rfl rfl rfl (c_M_pairCost ((hd.2.2 x x0 x1).2 i (by omega) (by omega)) ((hd.2.2 y y0 y1).2 j (by omega) (by omega))) ?_
                      refine wp_iadd (pc := 139) d_M_costBy_139 (by omega) (by omega) ?_
                      have q9 := True.intro
                      refine wp_ireturn (pc := 140) d_M_costBy_140 rfl ?_
                      refine ⟨?_, rfl⟩
                      unfold mBy
                      first | (exfalso; omega) | rw [if_pos (show s = 0 by omega), if_pos (by omega)]
                  · refine wp_ldc (pc := 96) d_M_costBy_96 rfl ?_
                    refine wp_ireturn (pc := 98) d_M_costBy_98 rfl ?_
                    refine ⟨?_, rfl⟩
                    rcases (show s = 0 ∨ s = 1 ∨ s = 2 by omega) with e | e | e
                    · first | (exfalso; omega) | rw [e, mBy_0, if_neg (by omega)]
                    · first | (exfalso; omega) | rw [e, mBy_1, if_neg (by omega)]
                    · first | (exfalso; omega) | rw [e, mBy_2, if_neg (by omega)]
        · refine wp_iload_n (pc := 43) d_M_costBy_43 rfl ?_
          refine wp_iconst (pc := 44) d_M_costBy_44 rfl ?_
          refine wp_icmp_ne (tgt := 52) (pc := 45) d_M_costBy_45 rfl (fun c45 => ?_) (fun c45 => ?_)
          · refine wp_iconst (pc := 52) d_M_costBy_52 rfl ?_
            refine wp_ist4 (pc := 53) d_M_costBy_53 rfl ?_
            refine wp_iload (pc := 55) d_M_costBy_55 rfl ?_
            refine wp_if_eq (tgt := 96) (pc := 57) d_M_costBy_57 rfl (fun c57 => ?_) (fun c57 => ?_)
            · refine wp_ldc (pc := 96) d_M_costBy_96 rfl ?_
              refine wp_ireturn (pc := 98) d_M_costBy_98 rfl ?_
              refine ⟨?_, rfl⟩
              rcases (show s = 0 ∨ s = 1 ∨ s = 2 by omega) with e | e | e
              · first | (exfalso; omega) | rw [e, mBy_0, if_neg (by omega)]
              · first | (exfalso; omega) | rw [e, mBy_1, if_neg (by omega)]
              · first | (exfalso; omega) | rw [e, mBy_2, if_neg (by omega)]
            · exact absurd c57 (by decide)
          · refine wp_iconst (pc := 48) d_M_costBy_48 rfl ?_
            refine wp_goto (tgt := 53) (pc := 49) d_M_costBy_49 rfl ?_
            refine wp_ist4 (pc := 53) d_M_costBy_53 rfl ?_
            refine wp_iload (pc := 55) d_M_costBy_55 rfl ?_
            refine wp_if_eq (tgt := 96) (pc := 57) d_M_costBy_57 rfl (fun c57 => ?_) (fun c57 => ?_)
            · exact absurd c57 (by decide)
            · refine wp_iload_n (pc := 60) d_M_costBy_60 rfl ?_
              refine wp_iconst (pc := 61) d_M_costBy_61 rfl ?_
              refine wp_icmp_ne (tgt := 78) (pc := 62) d_M_costBy_62 rfl (fun c62 => ?_) (fun c62 => ?_)
              · refine wp_iload_n (pc := 78) d_M_costBy_78 rfl ?_
                refine wp_iconst (pc := 79) d_M_costBy_79 rfl ?_
                refine wp_icmp_ne (tgt := 99) (pc := 80) d_M_costBy_80 rfl (fun c80 => ?_) (fun c80 => ?_)
                · refine wp_iload_n (pc := 99) d_M_costBy_99 rfl ?_
                  refine wp_if_ne (tgt := 141) (pc := 100) d_M_costBy_100 rfl (fun c100 => ?_) (fun c100 => ?_)
                  · refine wp_iconst (pc := 141) d_M_costBy_141 rfl ?_
                    refine wp_iload_n (pc := 142) d_M_costBy_142 rfl ?_
                    refine wp_iconst (pc := 143) d_M_costBy_143 rfl ?_
                    refine wp_icmp_ne (tgt := 163) (pc := 144) d_M_costBy_144 rfl (fun c144 => ?_) (fun c144 => ?_)
                    · refine wp_aload_n (pc := 163) d_M_costBy_163 rfl ?_
                      refine wp_getR (pc := 164) d_M_costBy_164 rfl (zk_174 L) zx_174_13 ?_
                      refine wp_bipush (pc := 167) d_M_costBy_167 rfl ?_
                      refine wp_iload_n (pc := 169) d_M_costBy_169 rfl ?_
                      refine wp_imul (pc := 170) d_M_costBy_170 (by omega) (by omega) ?_
                      refine wp_iload_n (pc := 171) d_M_costBy_171 rfl ?_
                      refine wp_iadd (pc := 172) d_M_costBy_172 (by omega) (by omega) ?_
                      refine wp_iconst (pc := 173) d_M_costBy_173 rfl ?_
                      refine wp_iadd (pc := 174) d_M_costBy_174 (by omega) (by omega) ?_
                      refine wp_iald (pc := 175) d_M_costBy_175 (zk_182 L) (by omega) (by omega) ?_
                      rw [show (25 * i + j + 1).toNat = (25 * i + (j + 1)).toNat by omega, hT i (j + 1) (by omega) (by omega) (by omega)]
                      have b01 := mVl_b (f := D.1 x) (g := D.1 y) (n1 := D.2.1 x) (n2 := D.2.1 y) (b := D.2.2.1) lx.2 ly.2 i0 (show 0 ≤ j + 1 by omega)
                      refine wp_iadd (pc := 176) d_M_costBy_176 (by omega) (by omega) ?_
                      refine wp_ireturn (pc := 177) d_M_costBy_177 rfl ?_
                      refine ⟨?_, rfl⟩
                      unfold mBy
                      first | (exfalso; omega) | rw [if_neg (show ¬ s = 0 by omega), if_pos (show s = 1 by omega), if_pos (by omega)] | rw [if_neg (show ¬ s = 0 by omega), if_neg (show ¬ s = 1 by omega), if_pos (by omega)]
                    · refine wp_aload_n (pc := 147) d_M_costBy_147 rfl ?_
                      refine wp_getR (pc := 148) d_M_costBy_148 rfl (zk_174 L) zx_174_13 ?_
                      refine wp_bipush (pc := 151) d_M_costBy_151 rfl ?_
                      refine wp_iload_n (pc := 153) d_M_costBy_153 rfl ?_
                      refine wp_iconst (pc := 154) d_M_costBy_154 rfl ?_
                      refine wp_iadd (pc := 155) d_M_costBy_155 (by omega) (by omega) ?_
                      refine wp_imul (pc := 156) d_M_costBy_156 (by omega) (by omega) ?_
                      refine wp_iload_n (pc := 157) d_M_costBy_157 rfl ?_
                      refine wp_iadd (pc := 158) d_M_costBy_158 (by omega) (by omega) ?_
                      refine wp_iald (pc := 159) d_M_costBy_159 (zk_182 L) (by omega) (by omega) ?_
                      rw [hT (i + 1) j (by omega) (by omega) (by omega)]
                      have b10 := mVl_b (f := D.1 x) (g := D.1 y) (n1 := D.2.1 x) (n2 := D.2.1 y) (b := D.2.2.1) lx.2 ly.2 (show 0 ≤ i + 1 by omega) j0
                      refine wp_goto (tgt := 176) (pc := 160) d_M_costBy_160 rfl ?_
                      refine wp_iadd (pc := 176) d_M_costBy_176 (by omega) (by omega) ?_
                      refine wp_ireturn (pc := 177) d_M_costBy_177 rfl ?_
                      refine ⟨?_, rfl⟩
                      unfold mBy
                      first | (exfalso; omega) | rw [if_neg (show ¬ s = 0 by omega), if_pos (show s = 1 by omega), if_pos (by omega)] | rw [if_neg (show ¬ s = 0 by omega), if_neg (show ¬ s = 1 by omega), if_pos (by omega)]
                  · refine wp_aload_n (pc := 103) d_M_costBy_103 rfl ?_
                    refine wp_getR (pc := 104) d_M_costBy_104 rfl (zk_174 L) zx_174_13 ?_
                    refine wp_bipush (pc := 107) d_M_costBy_107 rfl ?_
                    refine wp_iload_n (pc := 109) d_M_costBy_109 rfl ?_
                    refine wp_iconst (pc := 110) d_M_costBy_110 rfl ?_
                    refine wp_iadd (pc := 111) d_M_costBy_111 (by omega) (by omega) ?_
                    refine wp_imul (pc := 112) d_M_costBy_112 (by omega) (by omega) ?_
                    refine wp_iload_n (pc := 113) d_M_costBy_113 rfl ?_
                    refine wp_iadd (pc := 114) d_M_costBy_114 (by omega) (by omega) ?_
                    refine wp_iconst (pc := 115) d_M_costBy_115 rfl ?_
                    refine wp_iadd (pc := 116) d_M_costBy_116 (by omega) (by omega) ?_
                    refine wp_iald (pc := 117) d_M_costBy_117 (zk_182 L) (by omega) (by omega) ?_
                    refine wp_aload_n (pc := 118) d_M_costBy_118 rfl ?_
                    refine wp_aload_n (pc := 119) d_M_costBy_119 rfl ?_
                    refine wp_getI (pc := 120) d_M_costBy_120 rfl (by decide) (zk_174 L) ?_
                    rw [e16]
                    refine wp_iload_n (pc := 123) d_M_costBy_123 rfl ?_
                    refine wp_callV2f (pc := 124) d_M_costBy_124 rfl rfl (zk_174 L) rfl rfl (c_M_letterAt h hd x0 x1 (by omega) (by omega)) ?_
                    refine wp_aload_n (pc := 127) d_M_costBy_127 rfl ?_
                    refine wp_aload_n (pc := 128) d_M_costBy_128 rfl ?_
                    refine wp_getI (pc := 129) d_M_costBy_129 rfl (by decide) (zk_174 L) ?_
                    rw [e17]
                    refine wp_iload_n (pc := 132) d_M_costBy_132 rfl ?_
                    refine wp_callV2f (pc := 133) d_M_costBy_133 rfl rfl (zk_174 L) rfl rfl (c_M_letterAt h hd y0 y1 (by omega) (by omega)) ?_
                    have t11 := hT (i + 1) (j + 1) (by omega) (by omega) (by omega)
                    have b11 := mVl_b (f := D.1 x) (g := D.1 y) (n1 := D.2.1 x) (n2 := D.2.1 y) (b := D.2.2.1) lx.2 ly.2 (show 0 ≤ i + 1 by omega) (show 0 ≤ j + 1 by omega)
                    have k11 := zKc_p (D.1 x i) (D.1 y j)
                    rw [show (25 * (i + 1) + j + 1).toNat = (25 * (i + 1) + (j + 1)).toNat by omega, t11]
                    refine wp_callS2f (pc := 136) d_M_costBy_136 rfl rfl rfl rfl rfl (c_M_pairCost ((hd.2.2 x x0 x1).2 i (by omega) (by omega)) ((hd.2.2 y y0 y1).2 j (by omega) (by omega))) ?_
                    refine wp_iadd (pc := 139) d_M_costBy_139 (by omega) (by omega) ?_
                    have q9 := True.intro
                    refine wp_ireturn (pc := 140) d_M_costBy_140 rfl ?_
                    refine ⟨?_, rfl⟩
                    unfold mBy
                    first | (exfalso; omega) | rw [if_pos (show s = 0 by omega), if_pos (by omega)]
                · refine wp_iload_n (pc := 83) d_M_costBy_83 rfl ?_
                  refine wp_aload_n (pc := 84) d_M_costBy_84 rfl ?_
                  refine wp_getR (pc := 85) d_M_costBy_85 rfl (zk_174 L) zx_174_3 ?_
                  refine wp_aload_n (pc := 88) d_M_costBy_88 rfl ?_
                  refine wp_getI (pc := 89) d_M_costBy_89 rfl (by decide) (zk_174 L) ?_
                  rw [e17]
                  refine wp_iald (pc := 92) d_M_costBy_92 (zk_176 L) (by omega) (by omega) ?_
                  rw [ny]
                  refine wp_icmp_ne (tgt := 99) (pc := 93) d_M_costBy_93 rfl (fun c93 => ?_) (fun c93 => ?_)
                  · refine wp_iload_n (pc := 99) d_M_costBy_99 rfl ?_
                    refine wp_if_ne (tgt := 141) (pc := 100) d_M_costBy_100 rfl (fun c100 => ?_) (fun c100 => ?_)
                    · refine wp_iconst (pc := 141) d_M_costBy_141 rfl ?_
                      refine wp_iload_n (pc := 142) d_M_costBy_142 rfl ?_
                      refine wp_iconst (pc := 143) d_M_costBy_143 rfl ?_
                      refine wp_icmp_ne (tgt := 163) (pc := 144) d_M_costBy_144 rfl (fun c144 => ?_) (fun c144 => ?_)
                      · refine wp_aload_n (pc := 163) d_M_costBy_163 rfl ?_
                        refine wp_getR (pc := 164) d_M_costBy_164 rfl (zk_174 L) zx_174_13 ?_
                        refine wp_bipush (pc := 167) d_M_costBy_167 rfl ?_
                        refine wp_iload_n (pc := 169) d_M_costBy_169 rfl ?_
                        refine wp_imul (pc := 170) d_M_costBy_170 (by omega) (by omega) ?_
                        refine wp_iload_n (pc := 171) d_M_costBy_171 rfl ?_
                        refine wp_iadd (pc := 172) d_M_costBy_172 (by omega) (by omega) ?_
                        refine wp_iconst (pc := 173) d_M_costBy_173 rfl ?_
                        refine wp_iadd (pc := 174) d_M_costBy_174 (by omega) (by omega) ?_
                        refine wp_iald (pc := 175) d_M_costBy_175 (zk_182 L) (by omega) (by omega) ?_
                        rw [show (25 * i + j + 1).toNat = (25 * i + (j + 1)).toNat by omega, hT i (j + 1) (by omega) (by omega) (by omega)]
                        have b01 := mVl_b (f := D.1 x) (g := D.1 y) (n1 := D.2.1 x) (n2 := D.2.1 y) (b := D.2.2.1) lx.2 ly.2 i0 (show 0 ≤ j + 1 by omega)
                        refine wp_iadd (pc := 176) d_M_costBy_176 (by omega) (by omega) ?_
                        refine wp_ireturn (pc := 177) d_M_costBy_177 rfl ?_
                        refine ⟨?_, rfl⟩
                        unfold mBy
                        first | (exfalso; omega) | rw [if_neg (show ¬ s = 0 by omega), if_pos (show s = 1 by omega), if_pos (by omega)] | rw [if_neg (show ¬ s = 0 by omega), if_neg (show ¬ s = 1 by omega), if_pos (by omega)]
                      · refine wp_aload_n (pc := 147) d_M_costBy_147 rfl ?_
                        refine wp_getR (pc := 148) d_M_costBy_148 rfl (zk_174 L) zx_174_13 ?_
                        refine wp_bipush (pc := 151) d_M_costBy_151 rfl ?_
                        refine wp_iload_n (pc := 153) d_M_costBy_153 rfl ?_
                        refine wp_iconst (pc := 154) d_M_costBy_154 rfl ?_
                        refine wp_iadd (pc := 155) d_M_costBy_155 (by omega) (by omega) ?_
                        refine wp_imul (pc := 156) d_M_costBy_156 (by omega) (by omega) ?_
                        refine wp_iload_n (pc := 157) d_M_costBy_157 rfl ?_
                        refine wp_iadd (pc := 158) d_M_costBy_158 (by omega) (by omega) ?_
                        refine wp_iald (pc := 159) d_M_costBy_159 (zk_182 L) (by omega) (by omega) ?_
                        rw [hT (i + 1) j (by omega) (by omega) (by omega)]
                        have b10 := mVl_b (f := D.1 x) (g := D.1 y) (n1 := D.2.1 x) (n2 := D.2.1 y) (b := D.2.2.1) lx.2 ly.2 (show 0 ≤ i + 1 by omega) j0
                        refine wp_goto (tgt := 176) (pc := 160) d_M_costBy_160 rfl ?_
                        refine wp_iadd (pc := 176) d_M_costBy_176 (by omega) (by omega) ?_
                        refine wp_ireturn (pc := 177) d_M_costBy_177 rfl ?_
                        refine ⟨?_, rfl⟩
                        unfold mBy
                        first | (exfalso; omega) | rw [if_neg (show ¬ s = 0 by omega), if_pos (show s = 1 by omega), if_pos (by omega)] | rw [if_neg (show ¬ s = 0 by omega), if_neg (show ¬ s = 1 by omega), if_pos (by omega)]
                    · refine wp_aload_n (pc := 103) d_M_costBy_103 rfl ?_
                      refine wp_getR (pc := 104) d_M_costBy_104 rfl (zk_174 L) zx_174_13 ?_
                      refine wp_bipush (pc := 107) d_M_costBy_107 rfl ?_
                      refine wp_iload_n (pc := 109) d_M_costBy_109 rfl ?_
                      refine wp_iconst (pc := 110) d_M_costBy_110 rfl ?_
                      refine wp_iadd (pc := 111) d_M_costBy_111 (by omega) (by omega) ?_
                      refine wp_imul (pc := 112) d_M_costBy_112 (by omega) (by omega) ?_
                      refine wp_iload_n (pc := 113) d_M_costBy_113 rfl ?_
                      refine wp_iadd (pc := 114) d_M_costBy_114 (by omega) (by omega) ?_
                      refine wp_iconst (pc := 115) d_M_costBy_115 rfl ?_
                      refine wp_iadd (pc := 116) d_M_costBy_116 (by omega) (by omega) ?_
                      refine wp_iald (pc := 117) d_M_costBy_117 (zk_182 L) (by omega) (by omega) ?_
                      refine wp_aload_n (pc := 118) d_M_costBy_118 rfl ?_
                      refine wp_aload_n (pc := 119) d_M_costBy_119 rfl ?_
                      refine wp_getI (pc := 120) d_M_costBy_120 rfl (by decide) (zk_174 L) ?_
                      rw [e16]
                      refine wp_iload_n (pc := 123) d_M_costBy_123 rfl ?_
                      refine wp_callV2f (pc := 124) d_M_costBy_124 rfl rfl (zk_174 L) rfl rfl (c_M_letterAt h hd x0 x1 (by omega) (by omega)) ?_
                      refine wp_aload_n (pc := 127) d_M_costBy_127 rfl ?_
                      refine wp_aload_n (pc := 128) d_M_costBy_128 rfl ?_
                      refine wp_getI (pc := 129) d_M_costBy_129 rfl (by decide) (zk_174 L) ?_
                      rw [e17]
                      refine wp_iload_n (pc := 132) d_M_costBy_132 rfl ?_
                      refine wp_callV2f (pc := 133) d_M_costBy_133 rfl rfl (zk_174 L) rfl rfl (c_M_letterAt h hd y0 y1 (by omega) (by omega)) ?_
                      have t11 := hT (i + 1) (j + 1) (by omega) (by omega) (by omega)
                      have b11 := mVl_b (f := D.1 x) (g := D.1 y) (n1 := D.2.1 x) (n2 := D.2.1 y) (b := D.2.2.1) lx.2 ly.2 (show 0 ≤ i + 1 by omega) (show 0 ≤ j + 1 by omega)
                      have k11 := zKc_p (D.1 x i) (D.1 y j)
                      rw [show (25 * (i + 1) + j + 1).toNat = (25 * (i + 1) + (j + 1)).toNat by omega, t11]
                      refine wp_callS2f (pc := 136) d_M_costBy_136 rfl rfl rfl rfl rfl (c_M_pairCost ((hd.2.2 x x0 x1).2 i (by omega) (by omega)) ((hd.2.2 y y0 y1).2 j (by omega) (by omega))) ?_
                      refine wp_iadd (pc := 139) d_M_costBy_139 (by omega) (by omega) ?_
                      have q9 := True.intro
                      refine wp_ireturn (pc := 140) d_M_costBy_140 rfl ?_
                      refine ⟨?_, rfl⟩
                      unfold mBy
                      first | (exfalso; omega) | rw [if_pos (show s = 0 by omega), if_pos (by omega)]
                  · refine wp_ldc (pc := 96) d_M_costBy_96 rfl ?_
                    refine wp_ireturn (pc := 98) d_M_costBy_98 rfl ?_
                    refine ⟨?_, rfl⟩
                    rcases (show s = 0 ∨ s = 1 ∨ s = 2 by omega) with e | e | e
                    · first | (exfalso; omega) | rw [e, mBy_0, if_neg (by omega)]
                    · first | (exfalso; omega) | rw [e, mBy_1, if_neg (by omega)]
                    · first | (exfalso; omega) | rw [e, mBy_2, if_neg (by omega)]
              · refine wp_iload_n (pc := 65) d_M_costBy_65 rfl ?_
                refine wp_aload_n (pc := 66) d_M_costBy_66 rfl ?_
                refine wp_getR (pc := 67) d_M_costBy_67 rfl (zk_174 L) zx_174_3 ?_
                refine wp_aload_n (pc := 70) d_M_costBy_70 rfl ?_
                refine wp_getI (pc := 71) d_M_costBy_71 rfl (by decide) (zk_174 L) ?_
                rw [e16]
                refine wp_iald (pc := 74) d_M_costBy_74 (zk_176 L) (by omega) (by omega) ?_
                rw [nx]
                refine wp_icmp_eq (tgt := 96) (pc := 75) d_M_costBy_75 rfl (fun c75 => ?_) (fun c75 => ?_)
                · refine wp_ldc (pc := 96) d_M_costBy_96 rfl ?_
                  refine wp_ireturn (pc := 98) d_M_costBy_98 rfl ?_
                  refine ⟨?_, rfl⟩
                  rcases (show s = 0 ∨ s = 1 ∨ s = 2 by omega) with e | e | e
                  · first | (exfalso; omega) | rw [e, mBy_0, if_neg (by omega)]
                  · first | (exfalso; omega) | rw [e, mBy_1, if_neg (by omega)]
                  · first | (exfalso; omega) | rw [e, mBy_2, if_neg (by omega)]
                · refine wp_iload_n (pc := 78) d_M_costBy_78 rfl ?_
                  refine wp_iconst (pc := 79) d_M_costBy_79 rfl ?_
                  refine wp_icmp_ne (tgt := 99) (pc := 80) d_M_costBy_80 rfl (fun c80 => ?_) (fun c80 => ?_)
                  · refine wp_iload_n (pc := 99) d_M_costBy_99 rfl ?_
                    refine wp_if_ne (tgt := 141) (pc := 100) d_M_costBy_100 rfl (fun c100 => ?_) (fun c100 => ?_)
                    · refine wp_iconst (pc := 141) d_M_costBy_141 rfl ?_
                      refine wp_iload_n (pc := 142) d_M_costBy_142 rfl ?_
                      refine wp_iconst (pc := 143) d_M_costBy_143 rfl ?_
                      refine wp_icmp_ne (tgt := 163) (pc := 144) d_M_costBy_144 rfl (fun c144 => ?_) (fun c144 => ?_)
                      · refine wp_aload_n (pc := 163) d_M_costBy_163 rfl ?_
                        refine wp_getR (pc := 164) d_M_costBy_164 rfl (zk_174 L) zx_174_13 ?_
                        refine wp_bipush (pc := 167) d_M_costBy_167 rfl ?_
                        refine wp_iload_n (pc := 169) d_M_costBy_169 rfl ?_
                        refine wp_imul (pc := 170) d_M_costBy_170 (by omega) (by omega) ?_
                        refine wp_iload_n (pc := 171) d_M_costBy_171 rfl ?_
                        refine wp_iadd (pc := 172) d_M_costBy_172 (by omega) (by omega) ?_
                        refine wp_iconst (pc := 173) d_M_costBy_173 rfl ?_
                        refine wp_iadd (pc := 174) d_M_costBy_174 (by omega) (by omega) ?_
                        refine wp_iald (pc := 175) d_M_costBy_175 (zk_182 L) (by omega) (by omega) ?_
                        rw [show (25 * i + j + 1).toNat = (25 * i + (j + 1)).toNat by omega, hT i (j + 1) (by omega) (by omega) (by omega)]
                        have b01 := mVl_b (f := D.1 x) (g := D.1 y) (n1 := D.2.1 x) (n2 := D.2.1 y) (b := D.2.2.1) lx.2 ly.2 i0 (show 0 ≤ j + 1 by omega)
                        refine wp_iadd (pc := 176) d_M_costBy_176 (by omega) (by omega) ?_
                        refine wp_ireturn (pc := 177) d_M_costBy_177 rfl ?_
                        refine ⟨?_, rfl⟩
                        unfold mBy
                        first | (exfalso; omega) | rw [if_neg (show ¬ s = 0 by omega), if_pos (show s = 1 by omega), if_pos (by omega)] | rw [if_neg (show ¬ s = 0 by omega), if_neg (show ¬ s = 1 by omega), if_pos (by omega)]
                      · refine wp_aload_n (pc := 147) d_M_costBy_147 rfl ?_
                        refine wp_getR (pc := 148) d_M_costBy_148 rfl (zk_174 L) zx_174_13 ?_
                        refine wp_bipush (pc := 151) d_M_costBy_151 rfl ?_
                        refine wp_iload_n (pc := 153) d_M_costBy_153 rfl ?_
                        refine wp_iconst (pc := 154) d_M_costBy_154 rfl ?_
                        refine wp_iadd (pc := 155) d_M_costBy_155 (by omega) (by omega) ?_
                        refine wp_imul (pc := 156) d_M_costBy_156 (by omega) (by omega) ?_
                        refine wp_iload_n (pc := 157) d_M_costBy_157 rfl ?_
                        refine wp_iadd (pc := 158) d_M_costBy_158 (by omega) (by omega) ?_
                        refine wp_iald (pc := 159) d_M_costBy_159 (zk_182 L) (by omega) (by omega) ?_
                        rw [hT (i + 1) j (by omega) (by omega) (by omega)]
                        have b10 := mVl_b (f := D.1 x) (g := D.1 y) (n1 := D.2.1 x) (n2 := D.2.1 y) (b := D.2.2.1) lx.2 ly.2 (show 0 ≤ i + 1 by omega) j0
                        refine wp_goto (tgt := 176) (pc := 160) d_M_costBy_160 rfl ?_
                        refine wp_iadd (pc := 176) d_M_costBy_176 (by omega) (by omega) ?_
                        refine wp_ireturn (pc := 177) d_M_costBy_177 rfl ?_
                        refine ⟨?_, rfl⟩
                        unfold mBy
                        first | (exfalso; omega) | rw [if_neg (show ¬ s = 0 by omega), if_pos (show s = 1 by omega), if_pos (by omega)] | rw [if_neg (show ¬ s = 0 by omega), if_neg (show ¬ s = 1 by omega), if_pos (by omega)]
                    · refine wp_aload_n (pc := 103) d_M_costBy_103 rfl ?_
                      refine wp_getR (pc := 104) d_M_costBy_104 rfl (zk_174 L) zx_174_13 ?_
                      refine wp_bipush (pc := 107) d_M_costBy_107 rfl ?_
                      refine wp_iload_n (pc := 109) d_M_costBy_109 rfl ?_
                      refine wp_iconst (pc := 110) d_M_costBy_110 rfl ?_
                      refine wp_iadd (pc := 111) d_M_costBy_111 (by omega) (by omega) ?_
                      refine wp_imul (pc := 112) d_M_costBy_112 (by omega) (by omega) ?_
                      refine wp_iload_n (pc := 113) d_M_costBy_113 rfl ?_
                      refine wp_iadd (pc := 114) d_M_costBy_114 (by omega) (by omega) ?_
                      refine wp_iconst (pc := 115) d_M_costBy_115 rfl ?_
                      refine wp_iadd (pc := 116) d_M_costBy_116 (by omega) (by omega) ?_
                      refine wp_iald (pc := 117) d_M_costBy_117 (zk_182 L) (by omega) (by omega) ?_
                      refine wp_aload_n (pc := 118) d_M_costBy_118 rfl ?_
                      refine wp_aload_n (pc := 119) d_M_costBy_119 rfl ?_
                      refine wp_getI (pc := 120) d_M_costBy_120 rfl (by decide) (zk_174 L) ?_
                      rw [e16]
                      refine wp_iload_n (pc := 123) d_M_costBy_123 rfl ?_
                      refine wp_callV2f (pc := 124) d_M_costBy_124 rfl rfl (zk_174 L) rfl rfl (c_M_letterAt h hd x0 x1 (by omega) (by omega)) ?_
                      refine wp_aload_n (pc := 127) d_M_costBy_127 rfl ?_
                      refine wp_aload_n (pc := 128) d_M_costBy_128 rfl ?_
                      refine wp_getI (pc := 129) d_M_costBy_129 rfl (by decide) (zk_174 L) ?_
                      rw [e17]
                      refine wp_iload_n (pc := 132) d_M_costBy_132 rfl ?_
                      refine wp_callV2f (pc := 133) d_M_costBy_133 rfl rfl (zk_174 L) rfl rfl (c_M_letterAt h hd y0 y1 (by omega) (by omega)) ?_
                      have t11 := hT (i + 1) (j + 1) (by omega) (by omega) (by omega)
                      have b11 := mVl_b (f := D.1 x) (g := D.1 y) (n1 := D.2.1 x) (n2 := D.2.1 y) (b := D.2.2.1) lx.2 ly.2 (show 0 ≤ i + 1 by omega) (show 0 ≤ j + 1 by omega)
                      have k11 := zKc_p (D.1 x i) (D.1 y j)
                      rw [show (25 * (i + 1) + j + 1).toNat = (25 * (i + 1) + (j + 1)).toNat by omega, t11]
                      refine wp_callS2f (pc := 136) d_M_costBy_136 rfl rfl rfl rfl rfl (c_M_pairCost ((hd.2.2 x x0 x1).2 i (by omega) (by omega)) ((hd.2.2 y y0 y1).2 j (by omega) (by omega))) ?_
                      refine wp_iadd (pc := 139) d_M_costBy_139 (by omega) (by omega) ?_
                      have q9 := True.intro
                      refine wp_ireturn (pc := 140) d_M_costBy_140 rfl ?_
                      refine ⟨?_, rfl⟩
                      unfold mBy
                      first | (exfalso; omega) | rw [if_pos (show s = 0 by omega), if_pos (by omega)]
                  · refine wp_iload_n (pc := 83) d_M_costBy_83 rfl ?_
                    refine wp_aload_n (pc := 84) d_M_costBy_84 rfl ?_
                    refine wp_getR (pc := 85) d_M_costBy_85 rfl (zk_174 L) zx_174_3 ?_
                    refine wp_aload_n (pc := 88) d_M_costBy_88 rfl ?_
                    refine wp_getI (pc := 89) d_M_costBy_89 rfl (by decide) (zk_174 L) ?_
                    rw [e17]
                    refine wp_iald (pc := 92) d_M_costBy_92 (zk_176 L) (by omega) (by omega) ?_
                    rw [ny]
                    refine wp_icmp_ne (tgt := 99) (pc := 93) d_M_costBy_93 rfl (fun c93 => ?_) (fun c93 => ?_)
                    · refine wp_iload_n (pc := 99) d_M_costBy_99 rfl ?_
                      refine wp_if_ne (tgt := 141) (pc := 100) d_M_costBy_100 rfl (fun c100 => ?_) (fun c100 => ?_)
                      · refine wp_iconst (pc := 141) d_M_costBy_141 rfl ?_
                        refine wp_iload_n (pc := 142) d_M_costBy_142 rfl ?_
                        refine wp_iconst (pc := 143) d_M_costBy_143 rfl ?_
                        refine wp_icmp_ne (tgt := 163) (pc := 144) d_M_costBy_144 rfl (fun c144 => ?_) (fun c144 => ?_)
                        · refine wp_aload_n (pc := 163) d_M_costBy_163 rfl ?_
                          refine wp_getR (pc := 164) d_M_costBy_164 rfl (zk_174 L) zx_174_13 ?_
                          refine wp_bipush (pc := 167) d_M_costBy_167 rfl ?_
                          refine wp_iload_n (pc := 169) d_M_costBy_169 rfl ?_
                          refine wp_imul (pc := 170) d_M_costBy_170 (by omega) (by omega) ?_
                          refine wp_iload_n (pc := 171) d_M_costBy_171 rfl ?_
                          refine wp_iadd (pc := 172) d_M_costBy_172 (by omega) (by omega) ?_
                          refine wp_iconst (pc := 173) d_M_costBy_173 rfl ?_
                          refine wp_iadd (pc := 174) d_M_costBy_174 (by omega) (by omega) ?_
                          refine wp_iald (pc := 175) d_M_costBy_175 (zk_182 L) (by omega) (by omega) ?_
                          rw [show (25 * i + j + 1).toNat = (25 * i + (j + 1)).toNat by omega, hT i (j + 1) (by omega) (by omega) (by omega)]
                          have b01 := mVl_b (f := D.1 x) (g := D.1 y) (n1 := D.2.1 x) (n2 := D.2.1 y) (b := D.2.2.1) lx.2 ly.2 i0 (show 0 ≤ j + 1 by omega)
                          refine wp_iadd (pc := 176) d_M_costBy_176 (by omega) (by omega) ?_
                          refine wp_ireturn (pc := 177) d_M_costBy_177 rfl ?_
                          refine ⟨?_, rfl⟩
                          unfold mBy
                          first | (exfalso; omega) | rw [if_neg (show ¬ s = 0 by omega), if_pos (show s = 1 by omega), if_pos (by omega)] | rw [if_neg (show ¬ s = 0 by omega), if_neg (show ¬ s = 1 by omega), if_pos (by omega)]
                        · refine wp_aload_n (pc := 147) d_M_costBy_147 rfl ?_
                          refine wp_getR (pc := 148) d_M_costBy_148 rfl (zk_174 L) zx_174_13 ?_
                          refine wp_bipush (pc := 151) d_M_costBy_151 rfl ?_
                          refine wp_iload_n (pc := 153) d_M_costBy_153 rfl ?_
                          refine wp_iconst (pc := 154) d_M_costBy_154 rfl ?_
                          refine wp_iadd (pc := 155) d_M_costBy_155 (by omega) (by omega) ?_
                          refine wp_imul (pc := 156) d_M_costBy_156 (by omega) (by omega) ?_
                          refine wp_iload_n (pc := 157) d_M_costBy_157 rfl ?_
                          refine wp_iadd (pc := 158) d_M_costBy_158 (by omega) (by omega) ?_
                          refine wp_iald (pc := 159) d_M_costBy_159 (zk_182 L) (by omega) (by omega) ?_
                          rw [hT (i + 1) j (by omega) (by omega) (by omega)]
                          have b10 := mVl_b (f := D.1 x) (g := D.1 y) (n1 := D.2.1 x) (n2 := D.2.1 y) (b := D.2.2.1) lx.2 ly.2 (show 0 ≤ i + 1 by omega) j0
                          refine wp_goto (tgt := 176) (pc := 160) d_M_costBy_160 rfl ?_
                          refine wp_iadd (pc := 176) d_M_costBy_176 (by omega) (by omega) ?_
                          refine wp_ireturn (pc := 177) d_M_costBy_177 rfl ?_
                          refine ⟨?_, rfl⟩
                          unfold mBy
                          first | (exfalso; omega) | rw [if_neg (show ¬ s = 0 by omega), if_pos (show s = 1 by omega), if_pos (by omega)] | rw [if_neg (show ¬ s = 0 by omega), if_neg (show ¬ s = 1 by omega), if_pos (by omega)]
                      · refine wp_aload_n (pc := 103) d_M_costBy_103 rfl ?_
                        refine wp_getR (pc := 104) d_M_costBy_104 rfl (zk_174 L) zx_174_13 ?_
                        refine wp_bipush (pc := 107) d_M_costBy_107 rfl ?_
                        refine wp_iload_n (pc := 109) d_M_costBy_109 rfl ?_
                        refine wp_iconst (pc := 110) d_M_costBy_110 rfl ?_
                        refine wp_iadd (pc := 111) d_M_costBy_111 (by omega) (by omega) ?_
                        refine wp_imul (pc := 112) d_M_costBy_112 (by omega) (by omega) ?_
                        refine wp_iload_n (pc := 113) d_M_costBy_113 rfl ?_
                        refine wp_iadd (pc := 114) d_M_costBy_114 (by omega) (by omega) ?_
                        refine wp_iconst (pc := 115) d_M_costBy_115 rfl ?_
                        refine wp_iadd (pc := 116) d_M_costBy_116 (by omega) (by omega) ?_
                        refine wp_iald (pc := 117) d_M_costBy_117 (zk_182 L) (by omega) (by omega) ?_
                        refine wp_aload_n (pc := 118) d_M_costBy_118 rfl ?_
                        refine wp_aload_n (pc := 119) d_M_costBy_119 rfl ?_
                        refine wp_getI (pc := 120) d_M_costBy_120 rfl (by decide) (zk_174 L) ?_
                        rw [e16]
                        refine wp_iload_n (pc := 123) d_M_costBy_123 rfl ?_
                        refine wp_callV2f (pc := 124) d_M_costBy_124 rfl rfl (zk_174 L) rfl rfl (c_M_letterAt h hd x0 x1 (by omega) (by omega)) ?_
                        refine wp_aload_n (pc := 127) d_M_costBy_127 rfl ?_
                        refine wp_aload_n (pc := 128) d_M_costBy_128 rfl ?_
                        refine wp_getI (pc := 129) d_M_costBy_129 rfl (by decide) (zk_174 L) ?_
                        rw [e17]
                        refine wp_iload_n (pc := 132) d_M_costBy_132 rfl ?_
                        refine wp_callV2f (pc := 133) d_M_costBy_133 rfl rfl (zk_174 L) rfl rfl (c_M_letterAt h hd y0 y1 (by omega) (by omega)) ?_
                        have t11 := hT (i + 1) (j + 1) (by omega) (by omega) (by omega)
                        have b11 := mVl_b (f := D.1 x) (g := D.1 y) (n1 := D.2.1 x) (n2 := D.2.1 y) (b := D.2.2.1) lx.2 ly.2 (show 0 ≤ i + 1 by omega) (show 0 ≤ j + 1 by omega)
                        have k11 := zKc_p (D.1 x i) (D.1 y j)
                        rw [show (25 * (i + 1) + j + 1).toNat = (25 * (i + 1) + (j + 1)).toNat by omega, t11]
                        refine wp_callS2f (pc := 136) d_M_costBy_136 rfl rfl rfl rfl rfl (c_M_pairCost ((hd.2.2 x x0 x1).2 i (by omega) (by omega)) ((hd.2.2 y y0 y1).2 j (by omega) (by omega))) ?_
                        refine wp_iadd (pc := 139) d_M_costBy_139 (by omega) (by omega) ?_
                        have q9 := True.intro
                        refine wp_ireturn (pc := 140) d_M_costBy_140 rfl ?_
                        refine ⟨?_, rfl⟩
                        unfold mBy
                        first | (exfalso; omega) | rw [if_pos (show s = 0 by omega), if_pos (by omega)]
                    · refine wp_ldc (pc := 96) d_M_costBy_96 rfl ?_
                      refine wp_ireturn (pc := 98) d_M_costBy_98 rfl ?_
                      refine ⟨?_, rfl⟩
                      rcases (show s = 0 ∨ s = 1 ∨ s = 2 by omega) with e | e | e
                      · first | (exfalso; omega) | rw [e, mBy_0, if_neg (by omega)]
                      · first | (exfalso; omega) | rw [e, mBy_1, if_neg (by omega)]
                      · first | (exfalso; omega) | rw [e, mBy_2, if_neg (by omega)]
theorem c_M_leastCost (h : mH M D) (hd : mDi D) (x0 : 0 ≤ x) (x1 : x < D.2.2.2) (y0 : 0 ≤ y) (y1 : y < D.2.2.2) (e16 : M 174 16 = x) (e17 : M 174 17 = y) (i0 : 0 ≤ i) (i1 : i ≤ D.2.1 x) (j0 : 0 ≤ j) (j1 : j ≤ D.2.1 y) (hT : ∀ i' j' : Int, (i' = i + 1 ∧ (j' = j ∨ j' = j + 1) ∨ i' = i ∧ j' = j + 1) → i' ≤ D.2.1 x → j' ≤ D.2.1 y → M 182 (25 * i' + j').toNat = mVl (D.1 x) (D.1 y) (D.2.1 x) (D.2.1 y) D.2.2.1 i' j') : Cf L 3 zm_M_leastCost [rV 174, iV i, iV j] M (iV (mVl (D.1 x) (D.1 y) (D.2.1 x) (D.2.1 y) D.2.2.1 i j)) M := by
  show wp L _ zm_M_leastCost 0 [rV 174, iV i, iV j, uV] [] M _
  have hd1 := hd.1
  have lx := hd.l x0 x1
  have ly := hd.l y0 y1
  have nx := (h.2.2 x x0 x1).1
  have ny := (h.2.2 y y0 y1).1
  have hb := h.2.1
  have hd2 := hd.2.1
  refine wp_iload_n (pc := 0) d_M_leastCost_0 rfl ?_
  refine wp_iload_n (pc := 1) d_M_leastCost_1 rfl ?_
  refine wp_isub (pc := 2) d_M_leastCost_2 (by omega) (by omega) ?_
  refine wp_aload_n (pc := 3) d_M_leastCost_3 rfl ?_
  refine wp_getI (pc := 4) d_M_leastCost_4 rfl (by decide) (zk_174 L) ?_
  rw [hb]
  refine wp_icmp_gt (tgt := 20) (pc := 7) d_M_leastCost_7 rfl (fun c7 => ?_) (fun c7 => ?_)
  · refine wp_ldc (pc := 20) d_M_leastCost_20 rfl ?_
    refine wp_ireturn (pc := 22) d_M_leastCost_22 rfl ?_
    refine ⟨?_, rfl⟩
    rw [mVl_out (by omega)]
  · refine wp_iload_n (pc := 10) d_M_leastCost_10 rfl ?_
    refine wp_iload_n (pc := 11) d_M_leastCost_11 rfl ?_
    refine wp_isub (pc := 12) d_M_leastCost_12 (by omega) (by omega) ?_
    refine wp_aload_n (pc := 13) d_M_leastCost_13 rfl ?_
    refine wp_getI (pc := 14) d_M_leastCost_14 rfl (by decide) (zk_174 L) ?_
    rw [hb]
    refine wp_icmp_le (tgt := 23) (pc := 17) d_M_leastCost_17 rfl (fun c17 => ?_) (fun c17 => ?_)
    · refine wp_iload_n (pc := 23) d_M_leastCost_23 rfl ?_
      refine wp_aload_n (pc := 24) d_M_leastCost_24 rfl ?_
      refine wp_getR (pc := 25) d_M_leastCost_25 rfl (zk_174 L) zx_174_3 ?_
      refine wp_aload_n (pc := 28) d_M_leastCost_28 rfl ?_
      refine wp_getI (pc := 29) d_M_leastCost_29 rfl (by decide) (zk_174 L) ?_
      rw [e16]
      refine wp_iald (pc := 32) d_M_leastCost_32 (zk_176 L) (by omega) (by omega) ?_
      rw [nx]
      refine wp_icmp_ne (tgt := 51) (pc := 33) d_M_leastCost_33 rfl (fun c33 => ?_) (fun c33 => ?_)
      · have hm := mVl_min (f := D.1 x) (g := D.1 y) (n1 := D.2.1 x) (n2 := D.2.1 y) (b := D.2.2.1) lx.2 ly.2 i0 j0 i1 j1 (by omega) (by omega)
        refine wp_aload_n (pc := 51) d_M_leastCost_51 rfl ?_
        refine wp_iload_n (pc := 52) d_M_leastCost_52 rfl ?_
        refine wp_iload_n (pc := 53) d_M_leastCost_53 rfl ?_
        refine wp_iconst (pc := 54) d_M_leastCost_54 rfl ?_
        refine wp_callV3f (pc := 55) d_M_leastCost_55 rfl rfl (zk_174 L) rfl rfl (c_M_costBy (s := 0) h hd x0 x1 y0 y1 e16 e17 i0 i1 j0 j1 (by decide) (by decide) hT) ?_
        refine wp_ist3 (pc := 58) d_M_leastCost_58 rfl ?_
        refine wp_aload_n (pc := 59) d_M_leastCost_59 rfl ?_
        refine wp_iload_n (pc := 60) d_M_leastCost_60 rfl ?_
        refine wp_iload_n (pc := 61) d_M_leastCost_61 rfl ?_
        refine wp_iconst (pc := 62) d_M_leastCost_62 rfl ?_
        refine wp_callV3f (pc := 63) d_M_leastCost_63 rfl rfl (zk_174 L) rfl rfl (c_M_costBy (s := 1) h hd x0 x1 y0 y1 e16 e17 i0 i1 j0 j1 (by decide) (by decide) hT) ?_
        refine wp_iload_n (pc := 66) d_M_leastCost_66 rfl ?_
        refine wp_icmp_ge (tgt := 80) (pc := 67) d_M_leastCost_67 rfl (fun c67 => ?_) (fun c67 => ?_)
        · refine wp_iload_n (pc := 80) d_M_leastCost_80 rfl ?_
          refine wp_ist3 (pc := 81) d_M_leastCost_81 rfl ?_
          refine wp_aload_n (pc := 82) d_M_leastCost_82 rfl ?_
          refine wp_iload_n (pc := 83) d_M_leastCost_83 rfl ?_
          refine wp_iload_n (pc := 84) d_M_leastCost_84 rfl ?_
          refine wp_iconst (pc := 85) d_M_leastCost_85 rfl ?_
          refine wp_callV3f (pc := 86) d_M_leastCost_86 rfl rfl (zk_174 L) rfl rfl (c_M_costBy (s := 2) h hd x0 x1 y0 y1 e16 e17 i0 i1 j0 j1 (by decide) (by decide) hT) ?_
          refine wp_iload_n (pc := 89) d_M_leastCost_89 rfl ?_
          refine wp_icmp_ge (tgt := 103) (pc := 90) d_M_leastCost_90 rfl (fun c90 => ?_) (fun c90 => ?_)
          · refine wp_iload_n (pc := 103) d_M_leastCost_103 rfl ?_
            refine wp_ist3 (pc := 104) d_M_leastCost_104 rfl ?_
            refine wp_iload_n (pc := 105) d_M_leastCost_105 rfl ?_
            refine wp_ldc (pc := 106) d_M_leastCost_106 rfl ?_
            refine wp_icmp_ge (tgt := 115) (pc := 108) d_M_leastCost_108 rfl (fun c108 => ?_) (fun c108 => ?_)
            · refine wp_ldc (pc := 115) d_M_leastCost_115 rfl ?_
              refine wp_ireturn (pc := 117) d_M_leastCost_117 rfl ?_
              refine ⟨?_, rfl⟩
              congr 2
              omega
            · refine wp_iload_n (pc := 111) d_M_leastCost_111 rfl ?_
              refine wp_goto (tgt := 117) (pc := 112) d_M_leastCost_112 rfl ?_
              refine wp_ireturn (pc := 117) d_M_leastCost_117 rfl ?_
              refine ⟨?_, rfl⟩
              congr 2
              omega
          · refine wp_aload_n (pc := 93) d_M_leastCost_93 rfl ?_
            refine wp_iload_n (pc := 94) d_M_leastCost_94 rfl ?_
            refine wp_iload_n (pc := 95) d_M_leastCost_95 rfl ?_
            refine wp_iconst (pc := 96) d_M_leastCost_96 rfl ?_
            refine wp_callV3f (pc := 97) d_M_leastCost_97 rfl rfl (zk_174 L) rfl rfl (c_M_costBy (s := 2) h hd x0 x1 y0 y1 e16 e17 i0 i1 j0 j1 (by decide) (by decide) hT) ?_
            refine wp_goto (tgt := 104) (pc := 100) d_M_leastCost_100 rfl ?_
            refine wp_ist3 (pc := 104) d_M_leastCost_104 rfl ?_
            refine wp_iload_n (pc := 105) d_M_leastCost_105 rfl ?_
            refine wp_ldc (pc := 106) d_M_leastCost_106 rfl ?_
            refine wp_icmp_ge (tgt := 115) (pc := 108) d_M_leastCost_108 rfl (fun c108 => ?_) (fun c108 => ?_)
            · refine wp_ldc (pc := 115) d_M_leastCost_115 rfl ?_
              refine wp_ireturn (pc := 117) d_M_leastCost_117 rfl ?_
              refine ⟨?_, rfl⟩
              congr 2
              omega
            · refine wp_iload_n (pc := 111) d_M_leastCost_111 rfl ?_
              refine wp_goto (tgt := 117) (pc := 112) d_M_leastCost_112 rfl ?_
              refine wp_ireturn (pc := 117) d_M_leastCost_117 rfl ?_
              refine ⟨?_, rfl⟩
              congr 2
              omega
        · refine wp_aload_n (pc := 70) d_M_leastCost_70 rfl ?_
          refine wp_iload_n (pc := 71) d_M_leastCost_71 rfl ?_
          refine wp_iload_n (pc := 72) d_M_leastCost_72 rfl ?_
          refine wp_iconst (pc := 73) d_M_leastCost_73 rfl ?_
          refine wp_callV3f (pc := 74) d_M_leastCost_74 rfl rfl (zk_174 L) rfl rfl (c_M_costBy (s := 1) h hd x0 x1 y0 y1 e16 e17 i0 i1 j0 j1 (by decide) (by decide) hT) ?_
          refine wp_goto (tgt := 81) (pc := 77) d_M_leastCost_77 rfl ?_
          refine wp_ist3 (pc := 81) d_M_leastCost_81 rfl ?_
          refine wp_aload_n (pc := 82) d_M_leastCost_82 rfl ?_
          refine wp_iload_n (pc := 83) d_M_leastCost_83 rfl ?_
          refine wp_iload_n (pc := 84) d_M_leastCost_84 rfl ?_
          refine wp_iconst (pc := 85) d_M_leastCost_85 rfl ?_
          refine wp_callV3f (pc := 86) d_M_leastCost_86 rfl rfl (zk_174 L) rfl rfl (c_M_costBy (s := 2) h hd x0 x1 y0 y1 e16 e17 i0 i1 j0 j1 (by decide) (by decide) hT) ?_
          refine wp_iload_n (pc := 89) d_M_leastCost_89 rfl ?_
          refine wp_icmp_ge (tgt := 103) (pc := 90) d_M_leastCost_90 rfl (fun c90 => ?_) (fun c90 => ?_)
          · refine wp_iload_n (pc := 103) d_M_leastCost_103 rfl ?_
            refine wp_ist3 (pc := 104) d_M_leastCost_104 rfl ?_
            refine wp_iload_n (pc := 105) d_M_leastCost_105 rfl ?_
            refine wp_ldc (pc := 106) d_M_leastCost_106 rfl ?_
            refine wp_icmp_ge (tgt := 115) (pc := 108) d_M_leastCost_108 rfl (fun c108 => ?_) (fun c108 => ?_)
            · refine wp_ldc (pc := 115) d_M_leastCost_115 rfl ?_
              refine wp_ireturn (pc := 117) d_M_leastCost_117 rfl ?_
              refine ⟨?_, rfl⟩
              congr 2
              omega
            · refine wp_iload_n (pc := 111) d_M_leastCost_111 rfl ?_
              refine wp_goto (tgt := 117) (pc := 112) d_M_leastCost_112 rfl ?_
              refine wp_ireturn (pc := 117) d_M_leastCost_117 rfl ?_
              refine ⟨?_, rfl⟩
              congr 2
              omega
          · refine wp_aload_n (pc := 93) d_M_leastCost_93 rfl ?_
            refine wp_iload_n (pc := 94) d_M_leastCost_94 rfl ?_
            refine wp_iload_n (pc := 95) d_M_leastCost_95 rfl ?_
            refine wp_iconst (pc := 96) d_M_leastCost_96 rfl ?_
            refine wp_callV3f (pc := 97) d_M_leastCost_97 rfl rfl (zk_174 L) rfl rfl (c_M_costBy (s := 2) h hd x0 x1 y0 y1 e16 e17 i0 i1 j0 j1 (by decide) (by decide) hT) ?_
            refine wp_goto (tgt := 104) (pc := 100) d_M_leastCost_100 rfl ?_
            refine wp_ist3 (pc := 104) d_M_leastCost_104 rfl ?_
            refine wp_iload_n (pc := 105) d_M_leastCost_105 rfl ?_
            refine wp_ldc (pc := 106) d_M_leastCost_106 rfl ?_
            refine wp_icmp_ge (tgt := 115) (pc := 108) d_M_leastCost_108 rfl (fun c108 => ?_) (fun c108 => ?_)
            · refine wp_ldc (pc := 115) d_M_leastCost_115 rfl ?_
              refine wp_ireturn (pc := 117) d_M_leastCost_117 rfl ?_
              refine ⟨?_, rfl⟩
              congr 2
              omega
            · refine wp_iload_n (pc := 111) d_M_leastCost_111 rfl ?_
              refine wp_goto (tgt := 117) (pc := 112) d_M_leastCost_112 rfl ?_
              refine wp_ireturn (pc := 117) d_M_leastCost_117 rfl ?_
              refine ⟨?_, rfl⟩
              congr 2
              omega
      · refine wp_iload_n (pc := 36) d_M_leastCost_36 rfl ?_
        refine wp_aload_n (pc := 37) d_M_leastCost_37 rfl ?_
        refine wp_getR (pc := 38) d_M_leastCost_38 rfl (zk_174 L) zx_174_3 ?_
        refine wp_aload_n (pc := 41) d_M_leastCost_41 rfl ?_
        refine wp_getI (pc := 42) d_M_leastCost_42 rfl (by decide) (zk_174 L) ?_
        rw [e17]
        refine wp_iald (pc := 45) d_M_leastCost_45 (zk_176 L) (by omega) (by omega) ?_
        rw [ny]
        refine wp_icmp_ne (tgt := 51) (pc := 46) d_M_leastCost_46 rfl (fun c46 => ?_) (fun c46 => ?_)
        · have hm := mVl_min (f := D.1 x) (g := D.1 y) (n1 := D.2.1 x) (n2 := D.2.1 y) (b := D.2.2.1) lx.2 ly.2 i0 j0 i1 j1 (by omega) (by omega)
          refine wp_aload_n (pc := 51) d_M_leastCost_51 rfl ?_
          refine wp_iload_n (pc := 52) d_M_leastCost_52 rfl ?_
          refine wp_iload_n (pc := 53) d_M_leastCost_53 rfl ?_
          refine wp_iconst (pc := 54) d_M_leastCost_54 rfl ?_
          refine wp_callV3f (pc := 55) d_M_leastCost_55 rfl rfl (zk_174 L) rfl rfl (c_M_costBy (s := 0) h hd x0 x1 y0 y1 e16 e17 i0 i1 j0 j1 (by decide) (by decide) hT) ?_
          refine wp_ist3 (pc := 58) d_M_leastCost_58 rfl ?_
          refine wp_aload_n (pc := 59) d_M_leastCost_59 rfl ?_
          refine wp_iload_n (pc := 60) d_M_leastCost_60 rfl ?_
          refine wp_iload_n (pc := 61) d_M_leastCost_61 rfl ?_
          refine wp_iconst (pc := 62) d_M_leastCost_62 rfl ?_
          refine wp_callV3f (pc := 63) d_M_leastCost_63 rfl rfl (zk_174 L) rfl rfl (c_M_costBy (s := 1) h hd x0 x1 y0 y1 e16 e17 i0 i1 j0 j1 (by decide) (by decide) hT) ?_
          refine wp_iload_n (pc := 66) d_M_leastCost_66 rfl ?_
          refine wp_icmp_ge (tgt := 80) (pc := 67) d_M_leastCost_67 rfl (fun c67 => ?_) (fun c67 => ?_)
          · refine wp_iload_n (pc := 80) d_M_leastCost_80 rfl ?_
            refine wp_ist3 (pc := 81) d_M_leastCost_81 rfl ?_
            refine wp_aload_n (pc := 82) d_M_leastCost_82 rfl ?_
            refine wp_iload_n (pc := 83) d_M_leastCost_83 rfl ?_
            refine wp_iload_n (pc := 84) d_M_leastCost_84 rfl ?_
            refine wp_iconst (pc := 85) d_M_leastCost_85 rfl ?_
            refine wp_callV3f (pc := 86) d_M_leastCost_86 rfl rfl (zk_174 L) rfl rfl (c_M_costBy (s := 2) h hd x0 x1 y0 y1 e16 e17 i0 i1 j0 j1 (by decide) (by decide) hT) ?_
            refine wp_iload_n (pc := 89) d_M_leastCost_89 rfl ?_
            refine wp_icmp_ge (tgt := 103) (pc := 90) d_M_leastCost_90 rfl (fun c90 => ?_) (fun c90 => ?_)
            · refine wp_iload_n (pc := 103) d_M_leastCost_103 rfl ?_
              refine wp_ist3 (pc := 104) d_M_leastCost_104 rfl ?_
              refine wp_iload_n (pc := 105) d_M_leastCost_105 rfl ?_
              refine wp_ldc (pc := 106) d_M_leastCost_106 rfl ?_
              refine wp_icmp_ge (tgt := 115) (pc := 108) d_M_leastCost_108 rfl (fun c108 => ?_) (fun c108 => ?_)
              · refine wp_ldc (pc := 115) d_M_leastCost_115 rfl ?_
                refine wp_ireturn (pc := 117) d_M_leastCost_117 rfl ?_
                refine ⟨?_, rfl⟩
                congr 2
                omega
              · refine wp_iload_n (pc := 111) d_M_leastCost_111 rfl ?_
                refine wp_goto (tgt := 117) (pc := 112) d_M_leastCost_112 rfl ?_
                refine wp_ireturn (pc := 117) d_M_leastCost_117 rfl ?_
                refine ⟨?_, rfl⟩
                congr 2
                omega
            · refine wp_aload_n (pc := 93) d_M_leastCost_93 rfl ?_
              refine wp_iload_n (pc := 94) d_M_leastCost_94 rfl ?_
              refine wp_iload_n (pc := 95) d_M_leastCost_95 rfl ?_
              refine wp_iconst (pc := 96) d_M_leastCost_96 rfl ?_
              refine wp_callV3f (pc := 97) d_M_leastCost_97 rfl rfl (zk_174 L) rfl rfl (c_M_costBy (s := 2) h hd x0 x1 y0 y1 e16 e17 i0 i1 j0 j1 (by decide) (by decide) hT) ?_
              refine wp_goto (tgt := 104) (pc := 100) d_M_leastCost_100 rfl ?_
              refine wp_ist3 (pc := 104) d_M_leastCost_104 rfl ?_
              refine wp_iload_n (pc := 105) d_M_leastCost_105 rfl ?_
              refine wp_ldc (pc := 106) d_M_leastCost_106 rfl ?_
              refine wp_icmp_ge (tgt := 115) (pc := 108) d_M_leastCost_108 rfl (fun c108 => ?_) (fun c108 => ?_)
              · refine wp_ldc (pc := 115) d_M_leastCost_115 rfl ?_
                refine wp_ireturn (pc := 117) d_M_leastCost_117 rfl ?_
                refine ⟨?_, rfl⟩
                congr 2
                omega
              · refine wp_iload_n (pc := 111) d_M_leastCost_111 rfl ?_
                refine wp_goto (tgt := 117) (pc := 112) d_M_leastCost_112 rfl ?_
                refine wp_ireturn (pc := 117) d_M_leastCost_117 rfl ?_
                refine ⟨?_, rfl⟩
                congr 2
                omega
          · refine wp_aload_n (pc := 70) d_M_leastCost_70 rfl ?_
            refine wp_iload_n (pc := 71) d_M_leastCost_71 rfl ?_
            refine wp_iload_n (pc := 72) d_M_leastCost_72 rfl ?_
            refine wp_iconst (pc := 73) d_M_leastCost_73 rfl ?_
            refine wp_callV3f (pc := 74) d_M_leastCost_74 rfl rfl (zk_174 L) rfl rfl (c_M_costBy (s := 1) h hd x0 x1 y0 y1 e16 e17 i0 i1 j0 j1 (by decide) (by decide) hT) ?_
            refine wp_goto (tgt := 81) (pc := 77) d_M_leastCost_77 rfl ?_
            refine wp_ist3 (pc := 81) d_M_leastCost_81 rfl ?_
            refine wp_aload_n (pc := 82) d_M_leastCost_82 rfl ?_
            refine wp_iload_n (pc := 83) d_M_leastCost_83 rfl ?_
            refine wp_iload_n (pc := 84) d_M_leastCost_84 rfl ?_
            refine wp_iconst (pc := 85) d_M_leastCost_85 rfl ?_
            refine wp_callV3f (pc := 86) d_M_leastCost_86 rfl rfl (zk_174 L) rfl rfl (c_M_costBy (s := 2) h hd x0 x1 y0 y1 e16 e17 i0 i1 j0 j1 (by decide) (by decide) hT) ?_
            refine wp_iload_n (pc := 89) d_M_leastCost_89 rfl ?_
            refine wp_icmp_ge (tgt := 103) (pc := 90) d_M_leastCost_90 rfl (fun c90 => ?_) (fun c90 => ?_)
            · refine wp_iload_n (pc := 103) d_M_leastCost_103 rfl ?_
              refine wp_ist3 (pc := 104) d_M_leastCost_104 rfl ?_
              refine wp_iload_n (pc := 105) d_M_leastCost_105 rfl ?_
              refine wp_ldc (pc := 106) d_M_leastCost_106 rfl ?_
              refine wp_icmp_ge (tgt := 115) (pc := 108) d_M_leastCost_108 rfl (fun c108 => ?_) (fun c108 => ?_)
              · refine wp_ldc (pc := 115) d_M_leastCost_115 rfl ?_
                refine wp_ireturn (pc := 117) d_M_leastCost_117 rfl ?_
                refine ⟨?_, rfl⟩
                congr 2
                omega
              · refine wp_iload_n (pc := 111) d_M_leastCost_111 rfl ?_
                refine wp_goto (tgt := 117) (pc := 112) d_M_leastCost_112 rfl ?_
                refine wp_ireturn (pc := 117) d_M_leastCost_117 rfl ?_
                refine ⟨?_, rfl⟩
                congr 2
                omega
            · refine wp_aload_n (pc := 93) d_M_leastCost_93 rfl ?_
              refine wp_iload_n (pc := 94) d_M_leastCost_94 rfl ?_
              refine wp_iload_n (pc := 95) d_M_leastCost_95 rfl ?_
              refine wp_iconst (pc := 96) d_M_leastCost_96 rfl ?_
              refine wp_callV3f (pc := 97) d_M_leastCost_97 rfl rfl (zk_174 L) rfl rfl (c_M_costBy (s := 2) h hd x0 x1 y0 y1 e16 e17 i0 i1 j0 j1 (by decide) (by decide) hT) ?_
              refine wp_goto (tgt := 104) (pc := 100) d_M_leastCost_100 rfl ?_
              refine wp_ist3 (pc := 104) d_M_leastCost_104 rfl ?_
              refine wp_iload_n (pc := 105) d_M_leastCost_105 rfl ?_
              refine wp_ldc (pc := 106) d_M_leastCost_106 rfl ?_
              refine wp_icmp_ge (tgt := 115) (pc := 108) d_M_leastCost_108 rfl (fun c108 => ?_) (fun c108 => ?_)
              · refine wp_ldc (pc := 115) d_M_leastCost_115 rfl ?_
                refine wp_ireturn (pc := 117) d_M_leastCost_117 rfl ?_
                refine ⟨?_, rfl⟩
                congr 2
                omega
              · refine wp_iload_n (pc := 111) d_M_leastCost_111 rfl ?_
                refine wp_goto (tgt := 117) (pc := 112) d_M_leastCost_112 rfl ?_
                refine wp_ireturn (pc := 117) d_M_leastCost_117 rfl ?_
                refine ⟨?_, rfl⟩
                congr 2
                omega
        · refine wp_iconst (pc := 49) d_M_leastCost_49 rfl ?_
          refine wp_ireturn (pc := 50) d_M_leastCost_50 rfl ?_
          refine ⟨?_, rfl⟩
          rw [mVl_end (by omega) (by omega) (by omega)]
    · refine wp_ldc (pc := 20) d_M_leastCost_20 rfl ?_
      refine wp_ireturn (pc := 22) d_M_leastCost_22 rfl ?_
      refine ⟨?_, rfl⟩
      rw [mVl_out (by omega)]
theorem c_M_isCollated  : Cf L 0 zm_M_isCollated [rV 174] M (iV (if M 182 0 < 1048576 then 1 else 0)) M := by
  show wp L _ zm_M_isCollated 0 [rV 174] [] M _
  refine wp_aload_n (pc := 0) d_M_isCollated_0 rfl ?_
  refine wp_getR (pc := 1) d_M_isCollated_1 rfl (zk_174 L) zx_174_13 ?_
  refine wp_iconst (pc := 4) d_M_isCollated_4 rfl ?_
  refine wp_ialdc 0 (pc := 5) d_M_isCollated_5 (zk_182 L) rfl rfl ?_
  refine wp_ldc (pc := 6) d_M_isCollated_6 rfl ?_
  refine wp_icmp_ge (tgt := 15) (pc := 8) d_M_isCollated_8 rfl (fun c8 => ?_) (fun c8 => ?_)
  · refine wp_iconst (pc := 15) d_M_isCollated_15 rfl ?_
    refine wp_zreturn (pc := 16) d_M_isCollated_16 rfl (by omega) ?_
    first | exact ⟨by rw [if_pos (by omega)], rfl⟩ | exact ⟨by rw [if_neg (by omega)], rfl⟩
  · refine wp_iconst (pc := 11) d_M_isCollated_11 rfl ?_
    refine wp_goto (tgt := 16) (pc := 12) d_M_isCollated_12 rfl ?_
    refine wp_zreturn (pc := 16) d_M_isCollated_16 rfl (by omega) ?_
    first | exact ⟨by rw [if_pos (by omega)], rfl⟩ | exact ⟨by rw [if_neg (by omega)], rfl⟩
end ZM2
