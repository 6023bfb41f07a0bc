/-! Aligner: cell 10, its table is cell 11 -/
/-- a text's letters; none: -1 -/
def qTx (M : zM) (t : Nat) : Int → Int := fun i => if 0 ≤ i ∧ i < M t 1 then M (t + 1) i.toNat else -1
theorem zSt_0 {M : zM} {x : Int} (hs : zSt M) (h2 : 97 ≤ x) (h6 : x ≤ 122) : M 0 (x - 97).toNat = zGr x := by
  rw [hs 0 (by decide)]
  unfold zGr
  rw [if_pos ⟨h2, h6⟩]
  rfl
theorem qTx_b {M : zM} {t : Nat} (h : ∀ k : Nat, (k : Int) < M t 1 → -1 ≤ M (t + 1) k ∧ M (t + 1) k ≤ 1000) (hl : M t 1 ≤ 24) (i : Int) : -1 ≤ qTx M t i ∧ qTx M t i ≤ 1000 := by
  unfold qTx
  split
  · exact h _ (by omega)
  · omega
section ZAr
variable {L t s : Nat} {M : zM} {x y b : Int}
theorem c_Ar_kind (hst : zSt M) (hx : -1000 ≤ x ∧ x ≤ 1000) (hy : -1000 ≤ y ∧ y ≤ 1000) : Cf L 0 zm_Aligner_kindOfPair [iV x, iV y] M (iV (zKp x y)) M := by
  show wp L _ zm_Aligner_kindOfPair 0 [iV x, iV y, uV, uV, uV] [] M _
  refine wp_iload_n (pc := 0) d_Aligner_kindOfPair_0 rfl ?_
  refine wp_iload_n (pc := 1) d_Aligner_kindOfPair_1 rfl ?_
  refine wp_icmp_ne (tgt := 7) (pc := 2) d_Aligner_kindOfPair_2 rfl (fun c2 => ?_) (fun c2 => ?_)
  · refine wp_iload_n (pc := 7) d_Aligner_kindOfPair_7 rfl ?_
    refine wp_bipush (pc := 8) d_Aligner_kindOfPair_8 rfl ?_
    refine wp_isub (pc := 10) d_Aligner_kindOfPair_10 (by omega) (by omega) ?_
    refine wp_ist2 (pc := 11) d_Aligner_kindOfPair_11 rfl ?_
    refine wp_iload_n (pc := 12) d_Aligner_kindOfPair_12 rfl ?_
    refine wp_bipush (pc := 13) d_Aligner_kindOfPair_13 rfl ?_
    refine wp_isub (pc := 15) d_Aligner_kindOfPair_15 (by omega) (by omega) ?_
    refine wp_ist3 (pc := 16) d_Aligner_kindOfPair_16 rfl ?_
    refine wp_iload_n (pc := 17) d_Aligner_kindOfPair_17 rfl ?_
    refine wp_if_lt (tgt := 41) (pc := 18) d_Aligner_kindOfPair_18 rfl (fun c18 => ?_) (fun c18 => ?_)
    · refine wp_iconst (pc := 41) d_Aligner_kindOfPair_41 rfl ?_
      refine wp_ireturn (pc := 42) d_Aligner_kindOfPair_42 rfl ?_
      have hg : ∀ z : Int, z < 97 ∨ 122 < z → zGr z = 0 := fun z hz => by unfold zGr; rw [if_neg (by omega)]
      refine ⟨?_, rfl⟩
      unfold zKp
      rw [if_neg c2, if_neg]
      intro hh
      rcases (show x < 97 ∨ 122 < x ∨ y < 97 ∨ 122 < y by omega) with z | z | z | z
      · exact hh.1 (hg x (Or.inl z))
      · exact hh.1 (hg x (Or.inr z))
      · exact hh.1 (by rw [hh.2]; exact hg y (Or.inl z))
      · exact hh.1 (by rw [hh.2]; exact hg y (Or.inr z))
    · refine wp_iload_n (pc := 21) d_Aligner_kindOfPair_21 rfl ?_
      refine wp_getS (pc := 22) d_Aligner_kindOfPair_22 rfl ?_
      refine wp_alen (pc := 25) d_Aligner_kindOfPair_25 (zk_0 L) (by decide) ?_
      refine wp_icmp_ge (tgt := 41) (pc := 26) d_Aligner_kindOfPair_26 rfl (fun c26 => ?_) (fun c26 => ?_)
      · refine wp_iconst (pc := 41) d_Aligner_kindOfPair_41 rfl ?_
        refine wp_ireturn (pc := 42) d_Aligner_kindOfPair_42 rfl ?_
        have hg : ∀ z : Int, z < 97 ∨ 122 < z → zGr z = 0 := fun z hz => by unfold zGr; rw [if_neg (by omega)]
        refine ⟨?_, rfl⟩
        unfold zKp
        rw [if_neg c2, if_neg]
        intro hh
        rcases (show x < 97 ∨ 122 < x ∨ y < 97 ∨ 122 < y by omega) with z | z | z | z
        · exact hh.1 (hg x (Or.inl z))
        · exact hh.1 (hg x (Or.inr z))
        · exact hh.1 (by rw [hh.2]; exact hg y (Or.inl z))
        · exact hh.1 (by rw [hh.2]; exact hg y (Or.inr z))
      · refine wp_iload_n (pc := 29) d_Aligner_kindOfPair_29 rfl ?_
        refine wp_if_lt (tgt := 41) (pc := 30) d_Aligner_kindOfPair_30 rfl (fun c30 => ?_) (fun c30 => ?_)
        · refine wp_iconst (pc := 41) d_Aligner_kindOfPair_41 rfl ?_
          refine wp_ireturn (pc := 42) d_Aligner_kindOfPair_42 rfl ?_
          have hg : ∀ z : Int, z < 97 ∨ 122 < z → zGr z = 0 := fun z hz => by unfold zGr; rw [if_neg (by omega)]
          refine ⟨?_, rfl⟩
          unfold zKp
          rw [if_neg c2, if_neg]
          intro hh
          rcases (show x < 97 ∨ 122 < x ∨ y < 97 ∨ 122 < y by omega) with z | z | z | z
          · exact hh.1 (hg x (Or.inl z))
          · exact hh.1 (hg x (Or.inr z))
          · exact hh.1 (by rw [hh.2]; exact hg y (Or.inl z))
          · exact hh.1 (by rw [hh.2]; exact hg y (Or.inr z))
        · refine wp_iload_n (pc := 33) d_Aligner_kindOfPair_33 rfl ?_
          refine wp_getS (pc := 34) d_Aligner_kindOfPair_34 rfl ?_
          refine wp_alen (pc := 37) d_Aligner_kindOfPair_37 (zk_0 L) (by decide) ?_
          refine wp_icmp_lt (tgt := 43) (pc := 38) d_Aligner_kindOfPair_38 rfl (fun c38 => ?_) (fun c38 => ?_)
          · refine wp_getS (pc := 43) d_Aligner_kindOfPair_43 rfl ?_
            refine wp_iload_n (pc := 46) d_Aligner_kindOfPair_46 rfl ?_
            refine wp_iald (pc := 47) d_Aligner_kindOfPair_47 (zk_0 L) (by omega) (by omega) ?_
            rw [zSt_0 hst (by omega) (by omega)]
            refine wp_if_eq (tgt := 68) (pc := 48) d_Aligner_kindOfPair_48 rfl (fun c48 => ?_) (fun c48 => ?_)
            · refine wp_iconst (pc := 68) d_Aligner_kindOfPair_68 rfl ?_
              refine wp_ist4 (pc := 69) d_Aligner_kindOfPair_69 rfl ?_
              refine wp_iload (pc := 71) d_Aligner_kindOfPair_71 rfl ?_
              refine wp_if_eq (tgt := 80) (pc := 73) d_Aligner_kindOfPair_73 rfl (fun c73 => ?_) (fun c73 => ?_)
              · (refine wp_iconst (pc := 80) d_Aligner_kindOfPair_80 rfl ?_; refine wp_ireturn (pc := 81) d_Aligner_kindOfPair_81 rfl ?_; exact ⟨by unfold zKp; rw [if_neg c2, if_neg (by omega)], rfl⟩)
              · exact absurd c73 (by decide)
            · refine wp_getS (pc := 51) d_Aligner_kindOfPair_51 rfl ?_
              refine wp_iload_n (pc := 54) d_Aligner_kindOfPair_54 rfl ?_
              refine wp_iald (pc := 55) d_Aligner_kindOfPair_55 (zk_0 L) (by omega) (by omega) ?_
              rw [zSt_0 hst (by omega) (by omega)]
              refine wp_getS (pc := 56) d_Aligner_kindOfPair_56 rfl ?_
              refine wp_iload_n (pc := 59) d_Aligner_kindOfPair_59 rfl ?_
              refine wp_iald (pc := 60) d_Aligner_kindOfPair_60 (zk_0 L) (by omega) (by omega) ?_
              rw [zSt_0 hst (by omega) (by omega)]
              refine wp_icmp_ne (tgt := 68) (pc := 61) d_Aligner_kindOfPair_61 rfl (fun c61 => ?_) (fun c61 => ?_)
              · refine wp_iconst (pc := 68) d_Aligner_kindOfPair_68 rfl ?_
                refine wp_ist4 (pc := 69) d_Aligner_kindOfPair_69 rfl ?_
                refine wp_iload (pc := 71) d_Aligner_kindOfPair_71 rfl ?_
                refine wp_if_eq (tgt := 80) (pc := 73) d_Aligner_kindOfPair_73 rfl (fun c73 => ?_) (fun c73 => ?_)
                · (refine wp_iconst (pc := 80) d_Aligner_kindOfPair_80 rfl ?_; refine wp_ireturn (pc := 81) d_Aligner_kindOfPair_81 rfl ?_; exact ⟨by unfold zKp; rw [if_neg c2, if_neg (by omega)], rfl⟩)
                · exact absurd c73 (by decide)
              · refine wp_iconst (pc := 64) d_Aligner_kindOfPair_64 rfl ?_
                refine wp_goto (tgt := 69) (pc := 65) d_Aligner_kindOfPair_65 rfl ?_
                refine wp_ist4 (pc := 69) d_Aligner_kindOfPair_69 rfl ?_
                refine wp_iload (pc := 71) d_Aligner_kindOfPair_71 rfl ?_
                refine wp_if_eq (tgt := 80) (pc := 73) d_Aligner_kindOfPair_73 rfl (fun c73 => ?_) (fun c73 => ?_)
                · exact absurd c73 (by decide)
                · (refine wp_iconst (pc := 76) d_Aligner_kindOfPair_76 rfl ?_; refine wp_goto (tgt := 81) (pc := 77) d_Aligner_kindOfPair_77 rfl ?_; refine wp_ireturn (pc := 81) d_Aligner_kindOfPair_81 rfl ?_; exact ⟨by unfold zKp; rw [if_neg c2, if_pos (by omega)], rfl⟩)
          · refine wp_iconst (pc := 41) d_Aligner_kindOfPair_41 rfl ?_
            refine wp_ireturn (pc := 42) d_Aligner_kindOfPair_42 rfl ?_
            have hg : ∀ z : Int, z < 97 ∨ 122 < z → zGr z = 0 := fun z hz => by unfold zGr; rw [if_neg (by omega)]
            refine ⟨?_, rfl⟩
            unfold zKp
            rw [if_neg c2, if_neg]
            intro hh
            rcases (show x < 97 ∨ 122 < x ∨ y < 97 ∨ 122 < y by omega) with z | z | z | z
            · exact hh.1 (hg x (Or.inl z))
            · exact hh.1 (hg x (Or.inr z))
            · exact hh.1 (by rw [hh.2]; exact hg y (Or.inl z))
            · exact hh.1 (by rw [hh.2]; exact hg y (Or.inr z))
  · refine wp_iconst (pc := 5) d_Aligner_kindOfPair_5 rfl ?_
    refine wp_ireturn (pc := 6) d_Aligner_kindOfPair_6 rfl ?_
    exact ⟨by unfold zKp; rw [if_pos (by omega)], rfl⟩
/-- the table is right from row i on, in row i from column j on -/
def qTb (M0 : zM) (t s : Nat) (b : Int) (M : zM) (i j : Int) : Prop := zSm (fun a => a = 11) M0 M ∧ (∀ i' j' : Int, i < i' → i' ≤ M0 t 1 + 1 → 0 ≤ j' → j' ≤ M0 s 1 + 1 → M 11 (i' * 26 + j').toNat = zVl (qTx M0 t) (qTx M0 s) (M0 t 1) (M0 s 1) b i' j') ∧ ∀ j' : Int, j < j' → j' ≤ M0 s 1 + 1 → M 11 (i * 26 + j').toNat = zVl (qTx M0 t) (qTx M0 s) (M0 t 1) (M0 s 1) b i j'
theorem qTb.put {M0 M : zM} {t s : Nat} {b i j v : Int} (h : qTb M0 t s b M i j) (i0 : 0 ≤ i) (j0 : 0 ≤ j) (hi : i ≤ M0 t 1 + 1) (hj : j ≤ M0 s 1 + 1) (n21 : M0 s 1 ≤ 24) (hv : v = zVl (qTx M0 t) (qTx M0 s) (M0 t 1) (M0 s 1) b i j) : qTb M0 t s b (zU M 11 (i * 26 + j).toNat v) i (j + -1) := by
  refine ⟨h.1.u rfl, fun i' j' a1 a2 a3 a4 => ?_, fun j' a1 a2 => ?_⟩
  · rw [zU_nk (by omega)]; exact h.2.1 i' j' a1 a2 a3 a4
  · by_cases e : j' = j
    · rw [e, zU_eq, hv]
    · rw [zU_nk (by omega)]; exact h.2.2 j' (by omega) a2
theorem lp_Ar_fill1 {M0 : zM} (ht : zTx L t) (hs : zTx L s) (ht1 : t ≠ 11) (ht2 : t + 1 ≠ 11) (hs1 : s ≠ 11) (hs2 : s + 1 ≠ 11) (hst : zSt M0) (n10 : 0 ≤ M0 t 1) (n11 : M0 t 1 ≤ 24) (n20 : 0 ≤ M0 s 1) (n21 : M0 s 1 ≤ 24) (hb0 : 0 ≤ b) (hb9 : b ≤ 9) (hc1 : ∀ k : Nat, (k : Int) < M0 t 1 → -1 ≤ M0 (t + 1) k ∧ M0 (t + 1) k ≤ 1000) (hc2 : ∀ k : Nat, (k : Int) < M0 s 1 → -1 ≤ M0 (s + 1) k ∧ M0 (s + 1) k ≤ 1000) {Qx : Option zV → zM → Prop} {i : Int} (i0 : 0 ≤ i) (i1 : i ≤ M0 t 1 + 1) (hq : ∀ M' (u8 u9 u10 u11 u12 : zV), qTb M0 t s b M' i (-1) → wp L 1 zm_Aligner_fill 18 [rV 10, rV t, rV s, iV b, iV (M0 t 1), iV (M0 s 1), iV (i + -1), iV (-1), u8, u9, u10, u11, u12] [] M' Qx) : ∀ (n9 : Nat) (j : Int) (M : zM) (u8 : zV) (u9 : zV) (u10 : zV) (u11 : zV) (u12 : zV), j + 1 < n9 → -1 ≤ j → j ≤ M0 s 1 + 1 → qTb M0 t s b M i j → wp L 1 zm_Aligner_fill 29 [rV 10, rV t, rV s, iV b, iV (M0 t 1), iV (M0 s 1), iV i, iV j, u8, u9, u10, u11, u12] [] M (Qx) := by
  intro n9
  induction n9 with
  | zero =>
    intro j  M  u8  u9  u10  u11  u12  h9 g1 g2 g3
    exact absurd h9 (by omega)
  | succ n9 ih =>
    intro j  M  u8  u9  u10  u11  u12  h9 g1 g2 g3
    refine wp_iload (pc := 29) d_Aligner_fill_29 rfl ?_
    refine wp_if_lt (tgt := 206) (pc := 31) d_Aligner_fill_31 rfl (fun c31 => ?_) (fun c31 => ?_)
    · refine wp_iinc6 (pc := 206) d_Aligner_fill_206 rfl (by omega) (by omega) ?_
      refine wp_goto (tgt := 18) (pc := 209) d_Aligner_fill_209 rfl ?_
      have ej : j = -1 := by omega
      subst ej
      exact hq M _ _ _ _ _ g3
    · have e1 : M t 1 = M0 t 1 := g3.1 t ht1 1
      have e2 : M s 1 = M0 s 1 := g3.1 s hs1 1
      have e3 : ∀ k, M (t + 1) k = M0 (t + 1) k := g3.1 (t + 1) ht2
      have e4 : ∀ k, M (s + 1) k = M0 (s + 1) k := g3.1 (s + 1) hs2
      have e5 : zSt M := hst.keep g3.1 (fun a ha => by omega)
      have f1 : ∀ i, qTx M t i = qTx M0 t i := fun i => by unfold qTx; rw [e1, e3]
      have f2 : ∀ i, qTx M s i = qTx M0 s i := fun i => by unfold qTx; rw [e2, e4]
      have b1 := qTx_b hc1 n11
      have b2 := qTx_b hc2 n21
      refine wp_iload (pc := 34) d_Aligner_fill_34 rfl ?_
      refine wp_bipush (pc := 36) d_Aligner_fill_36 rfl ?_
      refine wp_imul (pc := 38) d_Aligner_fill_38 (by omega) (by omega) ?_
      refine wp_iload (pc := 39) d_Aligner_fill_39 rfl ?_
      refine wp_iadd (pc := 41) d_Aligner_fill_41 (by omega) (by omega) ?_
      refine wp_ist8 (pc := 42) d_Aligner_fill_42 rfl ?_
      refine wp_iload (pc := 44) d_Aligner_fill_44 rfl ?_
      refine wp_iload (pc := 46) d_Aligner_fill_46 rfl ?_
      refine wp_icmp_gt (tgt := 70) (pc := 48) d_Aligner_fill_48 rfl (fun c48 => ?_) (fun c48 => ?_)
      · have hou : M0 t 1 < i ∨ M0 s 1 < j ∨ b < i - j ∨ b < j - i := by first | omega | (split at c67 <;> omega)
        refine wp_aload_n (pc := 70) d_Aligner_fill_70 rfl ?_
        refine wp_getR (pc := 71) d_Aligner_fill_71 rfl (zk_10 L) zx_10_0 ?_
        refine wp_iload (pc := 74) d_Aligner_fill_74 rfl ?_
        refine wp_ldc (pc := 76) d_Aligner_fill_76 rfl ?_
        refine wp_iast (pc := 78) d_Aligner_fill_78 (zk_11 L) (by decide) (by omega) (by omega) ?_
        refine wp_goto (tgt := 200) (pc := 79) d_Aligner_fill_79 rfl ?_
        refine wp_iinc7 (pc := 200) d_Aligner_fill_200 rfl (by omega) (by omega) ?_
        refine wp_goto (tgt := 29) (pc := 203) d_Aligner_fill_203 rfl ?_
        refine ih (j + -1) _ _ _ _ _ _ (by omega) (by omega) (by omega) (g3.put (by omega) (by omega) (by omega) (by omega) n21 ?_)
        first | exact (zVl_out hou).symm | (rw [zVl_rec, if_neg hne, if_pos (by omega)]) | exact hrec.symm
      · refine wp_iload (pc := 51) d_Aligner_fill_51 rfl ?_
        refine wp_iload (pc := 53) d_Aligner_fill_53 rfl ?_
        refine wp_icmp_gt (tgt := 70) (pc := 55) d_Aligner_fill_55 rfl (fun c55 => ?_) (fun c55 => ?_)
        · have hou : M0 t 1 < i ∨ M0 s 1 < j ∨ b < i - j ∨ b < j - i := by first | omega | (split at c67 <;> omega)
          refine wp_aload_n (pc := 70) d_Aligner_fill_70 rfl ?_
          refine wp_getR (pc := 71) d_Aligner_fill_71 rfl (zk_10 L) zx_10_0 ?_
          refine wp_iload (pc := 74) d_Aligner_fill_74 rfl ?_
          refine wp_ldc (pc := 76) d_Aligner_fill_76 rfl ?_
          refine wp_iast (pc := 78) d_Aligner_fill_78 (zk_11 L) (by decide) (by omega) (by omega) ?_
          refine wp_goto (tgt := 200) (pc := 79) d_Aligner_fill_79 rfl ?_
          refine wp_iinc7 (pc := 200) d_Aligner_fill_200 rfl (by omega) (by omega) ?_
          refine wp_goto (tgt := 29) (pc := 203) d_Aligner_fill_203 rfl ?_
          refine ih (j + -1) _ _ _ _ _ _ (by omega) (by omega) (by omega) (g3.put (by omega) (by omega) (by omega) (by omega) n21 ?_)
          first | exact (zVl_out hou).symm | (rw [zVl_rec, if_neg hne, if_pos (by omega)]) | exact hrec.symm
        · refine wp_iload (pc := 58) d_Aligner_fill_58 rfl ?_
          refine wp_iload (pc := 60) d_Aligner_fill_60 rfl ?_
          refine wp_isub (pc := 62) d_Aligner_fill_62 (by omega) (by omega) ?_
          refine wp_abs (pc := 63) d_Aligner_fill_63 rfl rfl (by omega) (by omega) ?_
          refine wp_iload_n (pc := 66) d_Aligner_fill_66 rfl ?_
          refine wp_icmp_le (tgt := 82) (pc := 67) d_Aligner_fill_67 rfl (fun c67 => ?_) (fun c67 => ?_)
          · have hne : ¬ (M0 t 1 < i ∨ M0 s 1 < j ∨ b < i - j ∨ b < j - i) := by split at c67 <;> omega
            refine wp_iload (pc := 82) d_Aligner_fill_82 rfl ?_
            refine wp_iload (pc := 84) d_Aligner_fill_84 rfl ?_
            refine wp_icmp_ne (tgt := 107) (pc := 86) d_Aligner_fill_86 rfl (fun c86 => ?_) (fun c86 => ?_)
            · have hrec := zVl_rec (f := qTx M0 t) (g := qTx M0 s) (n1 := M0 t 1) (n2 := M0 s 1) (b := b) i j
              rw [if_neg hne, if_neg (by omega)] at hrec
              have v1 := zVl_ub (f := qTx M0 t) (g := qTx M0 s) (b := b) n11 n21 (show 0 ≤ i + 1 by omega) (show 0 ≤ j + 1 by omega)
              have v2 := zVl_ub (f := qTx M0 t) (g := qTx M0 s) (b := b) n11 n21 (show 0 ≤ i + 1 by omega) (show 0 ≤ j by omega)
              have v3 := zVl_ub (f := qTx M0 t) (g := qTx M0 s) (b := b) n11 n21 (show 0 ≤ i by omega) (show 0 ≤ j + 1 by omega)
              have w1 := zVl_0 (f := qTx M0 t) (g := qTx M0 s) (n1 := M0 t 1) (n2 := M0 s 1) (b := b) (i + 1) (j + 1)
              have w2 := zVl_0 (f := qTx M0 t) (g := qTx M0 s) (n1 := M0 t 1) (n2 := M0 s 1) (b := b) (i + 1) j
              have w3 := zVl_0 (f := qTx M0 t) (g := qTx M0 s) (n1 := M0 t 1) (n2 := M0 s 1) (b := b) i (j + 1)
              have kp := zKc_p (qTx M0 t i) (qTx M0 s j)
              have ki := zKp_in (qTx M0 t i) (qTx M0 s j)
              have s15 : M 1 5 = 2 := (e5 1 (by decide) 5).trans rfl
              have s16 : M 1 6 = 2 := (e5 1 (by decide) 6).trans rfl
              refine wp_aload_n (pc := 107) d_Aligner_fill_107 rfl ?_
              refine wp_iload (pc := 108) d_Aligner_fill_108 rfl ?_
              refine wp_callV1f (pc := 110) d_Aligner_fill_110 rfl rfl ht.1 rfl rfl (c_Text_at ht (by omega)) ?_
              rw [show (if 0 ≤ i ∧ i < M t 1 then M (t + 1) i.toNat else -1) = qTx M0 t i from f1 i]
              refine wp_aload_n (pc := 113) d_Aligner_fill_113 rfl ?_
              refine wp_iload (pc := 114) d_Aligner_fill_114 rfl ?_
              refine wp_callV1f (pc := 116) d_Aligner_fill_116 rfl rfl hs.1 rfl rfl (c_Text_at hs (by omega)) ?_
              rw [show (if 0 ≤ j ∧ j < M s 1 then M (s + 1) j.toNat else -1) = qTx M0 s j from f2 j]
              refine wp_callS2f (pc := 119) d_Aligner_fill_119 rfl rfl rfl rfl rfl (c_Ar_kind e5 (by have := b1 i; omega) (by have := b2 j; omega)) ?_
              refine wp_ist9 (pc := 122) d_Aligner_fill_122 rfl ?_
              refine wp_getS (pc := 124) d_Aligner_fill_124 rfl ?_
              refine wp_iload (pc := 127) d_Aligner_fill_127 rfl ?_
              refine wp_iald (pc := 129) d_Aligner_fill_129 (zk_1 L) (by omega) (by omega) ?_
              rw [zSt_1 e5 (by omega) (by omega)]
              refine wp_aload_n (pc := 130) d_Aligner_fill_130 rfl ?_
              refine wp_getR (pc := 131) d_Aligner_fill_131 rfl (zk_10 L) zx_10_0 ?_
              refine wp_iload (pc := 134) d_Aligner_fill_134 rfl ?_
              refine wp_bipush (pc := 136) d_Aligner_fill_136 rfl ?_
              refine wp_iadd (pc := 138) d_Aligner_fill_138 (by omega) (by omega) ?_
              refine wp_iconst (pc := 139) d_Aligner_fill_139 rfl ?_
              refine wp_iadd (pc := 140) d_Aligner_fill_140 (by omega) (by omega) ?_
              refine wp_iald (pc := 141) d_Aligner_fill_141 (zk_11 L) (by omega) (by omega) ?_
              rw [show i * 26 + j + 26 + 1 = (i + 1) * 26 + (j + 1) by omega, g3.2.1 (i + 1) (j + 1) (by omega) (by omega) (by omega) (by omega)]
              refine wp_iadd (pc := 142) d_Aligner_fill_142 (by omega) (by omega) ?_
              refine wp_ist10 (pc := 143) d_Aligner_fill_143 rfl ?_
              refine wp_getS (pc := 145) d_Aligner_fill_145 rfl ?_
              refine wp_iconst (pc := 148) d_Aligner_fill_148 rfl ?_
              refine wp_ialdc 5 (pc := 149) d_Aligner_fill_149 (zk_1 L) rfl rfl ?_
              rw [s15]
              refine wp_aload_n (pc := 150) d_Aligner_fill_150 rfl ?_
              refine wp_getR (pc := 151) d_Aligner_fill_151 rfl (zk_10 L) zx_10_0 ?_
              refine wp_iload (pc := 154) d_Aligner_fill_154 rfl ?_
              refine wp_bipush (pc := 156) d_Aligner_fill_156 rfl ?_
              refine wp_iadd (pc := 158) d_Aligner_fill_158 (by omega) (by omega) ?_
              refine wp_iald (pc := 159) d_Aligner_fill_159 (zk_11 L) (by omega) (by omega) ?_
              rw [show i * 26 + j + 26 = (i + 1) * 26 + j by omega, g3.2.1 (i + 1) j (by omega) (by omega) (by omega) (by omega)]
              refine wp_iadd (pc := 160) d_Aligner_fill_160 (by omega) (by omega) ?_
              refine wp_ist11 (pc := 161) d_Aligner_fill_161 rfl ?_
              refine wp_getS (pc := 163) d_Aligner_fill_163 rfl ?_
              refine wp_bipush (pc := 166) d_Aligner_fill_166 rfl ?_
              refine wp_ialdc 6 (pc := 168) d_Aligner_fill_168 (zk_1 L) rfl rfl ?_
              rw [s16]
              refine wp_aload_n (pc := 169) d_Aligner_fill_169 rfl ?_
              refine wp_getR (pc := 170) d_Aligner_fill_170 rfl (zk_10 L) zx_10_0 ?_
              refine wp_iload (pc := 173) d_Aligner_fill_173 rfl ?_
              refine wp_iconst (pc := 175) d_Aligner_fill_175 rfl ?_
              refine wp_iadd (pc := 176) d_Aligner_fill_176 (by omega) (by omega) ?_
              refine wp_iald (pc := 177) d_Aligner_fill_177 (zk_11 L) (by omega) (by omega) ?_
              rw [show i * 26 + j + 1 = i * 26 + (j + 1) by omega, g3.2.2 (j + 1) (by omega) (by omega)]
              refine wp_iadd (pc := 178) d_Aligner_fill_178 (by omega) (by omega) ?_
              refine wp_ist12 (pc := 179) d_Aligner_fill_179 rfl ?_
              refine wp_aload_n (pc := 181) d_Aligner_fill_181 rfl ?_
              refine wp_getR (pc := 182) d_Aligner_fill_182 rfl (zk_10 L) zx_10_0 ?_
              refine wp_iload (pc := 185) d_Aligner_fill_185 rfl ?_
              refine wp_iload (pc := 187) d_Aligner_fill_187 rfl ?_
              refine wp_iload (pc := 189) d_Aligner_fill_189 rfl ?_
              refine wp_iload (pc := 191) d_Aligner_fill_191 rfl ?_
              refine wp_min (pc := 193) d_Aligner_fill_193 rfl rfl ?_
              refine wp_min (pc := 196) d_Aligner_fill_196 rfl rfl ?_
              refine wp_iast (pc := 199) d_Aligner_fill_199 (zk_11 L) (by decide) (by omega) (by omega) ?_
              refine wp_iinc7 (pc := 200) d_Aligner_fill_200 rfl (by omega) (by omega) ?_
              refine wp_goto (tgt := 29) (pc := 203) d_Aligner_fill_203 rfl ?_
              refine ih (j + -1) _ _ _ _ _ _ (by omega) (by omega) (by omega) (g3.put (by omega) (by omega) (by omega) (by omega) n21 ?_)
              first | exact (zVl_out hou).symm | (rw [zVl_rec, if_neg hne, if_pos (by omega)]) | exact hrec.symm
            · refine wp_iload (pc := 89) d_Aligner_fill_89 rfl ?_
              refine wp_iload (pc := 91) d_Aligner_fill_91 rfl ?_
              refine wp_icmp_ne (tgt := 107) (pc := 93) d_Aligner_fill_93 rfl (fun c93 => ?_) (fun c93 => ?_)
              · have hrec := zVl_rec (f := qTx M0 t) (g := qTx M0 s) (n1 := M0 t 1) (n2 := M0 s 1) (b := b) i j
                rw [if_neg hne, if_neg (by omega)] at hrec
                have v1 := zVl_ub (f := qTx M0 t) (g := qTx M0 s) (b := b) n11 n21 (show 0 ≤ i + 1 by omega) (show 0 ≤ j + 1 by omega)
                have v2 := zVl_ub (f := qTx M0 t) (g := qTx M0 s) (b := b) n11 n21 (show 0 ≤ i + 1 by omega) (show 0 ≤ j by omega)
                have v3 := zVl_ub (f := qTx M0 t) (g := qTx M0 s) (b := b) n11 n21 (show 0 ≤ i by omega) (show 0 ≤ j + 1 by omega)
                have w1 := zVl_0 (f := qTx M0 t) (g := qTx M0 s) (n1 := M0 t 1) (n2 := M0 s 1) (b := b) (i + 1) (j + 1)
                have w2 := zVl_0 (f := qTx M0 t) (g := qTx M0 s) (n1 := M0 t 1) (n2 := M0 s 1) (b := b) (i + 1) j
                have w3 := zVl_0 (f := qTx M0 t) (g := qTx M0 s) (n1 := M0 t 1) (n2 := M0 s 1) (b := b) i (j + 1)
                have kp := zKc_p (qTx M0 t i) (qTx M0 s j)
                have ki := zKp_in (qTx M0 t i) (qTx M0 s j)
                have s15 : M 1 5 = 2 := (e5 1 (by decide) 5).trans rfl
                have s16 : M 1 6 = 2 := (e5 1 (by decide) 6).trans rfl
                refine wp_aload_n (pc := 107) d_Aligner_fill_107 rfl ?_
                refine wp_iload (pc := 108) d_Aligner_fill_108 rfl ?_
                refine wp_callV1f (pc := 110) d_Aligner_fill_110 rfl rfl ht.1 rfl rfl (c_Text_at ht (by omega)) ?_
                rw [show (if 0 ≤ i ∧ i < M t 1 then M (t + 1) i.toNat else -1) = qTx M0 t i from f1 i]
                refine wp_aload_n (pc := 113) d_Aligner_fill_113 rfl ?_
                refine wp_iload (pc := 114) d_Aligner_fill_114 rfl ?_
                refine wp_callV1f (pc := 116) d_Aligner_fill_116 rfl rfl hs.1 rfl rfl (c_Text_at hs (by omega)) ?_
                rw [show (if 0 ≤ j ∧ j < M s 1 then M (s + 1) j.toNat else -1) = qTx M0 s j from f2 j]
                refine wp_callS2f (pc := 119) d_Aligner_fill_119 rfl rfl rfl rfl rfl (c_Ar_kind e5 (by have := b1 i; omega) (by have := b2 j; omega)) ?_
                refine wp_ist9 (pc := 122) d_Aligner_fill_122 rfl ?_
                refine wp_getS (pc := 124) d_Aligner_fill_124 rfl ?_
                refine wp_iload (pc := 127) d_Aligner_fill_127 rfl ?_
                refine wp_iald (pc := 129) d_Aligner_fill_129 (zk_1 L) (by omega) (by omega) ?_
                rw [zSt_1 e5 (by omega) (by omega)]
                refine wp_aload_n (pc := 130) d_Aligner_fill_130 rfl ?_
                refine wp_getR (pc := 131) d_Aligner_fill_131 rfl (zk_10 L) zx_10_0 ?_
                refine wp_iload (pc := 134) d_Aligner_fill_134 rfl ?_
                refine wp_bipush (pc := 136) d_Aligner_fill_136 rfl ?_
                refine wp_iadd (pc := 138) d_Aligner_fill_138 (by omega) (by omega) ?_
                refine wp_iconst (pc := 139) d_Aligner_fill_139 rfl ?_
                refine wp_iadd (pc := 140) d_Aligner_fill_140 (by omega) (by omega) ?_
                refine wp_iald (pc := 141) d_Aligner_fill_141 (zk_11 L) (by omega) (by omega) ?_
                rw [show i * 26 + j + 26 + 1 = (i + 1) * 26 + (j + 1) by omega, g3.2.1 (i + 1) (j + 1) (by omega) (by omega) (by omega) (by omega)]
                refine wp_iadd (pc := 142) d_Aligner_fill_142 (by omega) (by omega) ?_
                refine wp_ist10 (pc := 143) d_Aligner_fill_143 rfl ?_
                refine wp_getS (pc := 145) d_Aligner_fill_145 rfl ?_
                refine wp_iconst (pc := 148) d_Aligner_fill_148 rfl ?_
                refine wp_ialdc 5 (pc := 149) d_Aligner_fill_149 (zk_1 L) rfl rfl ?_
                rw [s15]
                refine wp_aload_n (pc := 150) d_Aligner_fill_150 rfl ?_
                refine wp_getR (pc := 151) d_Aligner_fill_151 rfl (zk_10 L) zx_10_0 ?_
                refine wp_iload (pc := 154) d_Aligner_fill_154 rfl ?_
                refine wp_bipush (pc := 156) d_Aligner_fill_156 rfl ?_
                refine wp_iadd (pc := 158) d_Aligner_fill_158 (by omega) (by omega) ?_
                refine wp_iald (pc := 159) d_Aligner_fill_159 (zk_11 L) (by omega) (by omega) ?_
                rw [show i * 26 + j + 26 = (i + 1) * 26 + j by omega, g3.2.1 (i + 1) j (by omega) (by omega) (by omega) (by omega)]
                refine wp_iadd (pc := 160) d_Aligner_fill_160 (by omega) (by omega) ?_
                refine wp_ist11 (pc := 161) d_Aligner_fill_161 rfl ?_
                refine wp_getS (pc := 163) d_Aligner_fill_163 rfl ?_
                refine wp_bipush (pc := 166) d_Aligner_fill_166 rfl ?_
                refine wp_ialdc 6 (pc := 168) d_Aligner_fill_168 (zk_1 L) rfl rfl ?_
                rw [s16]
                refine wp_aload_n (pc := 169) d_Aligner_fill_169 rfl ?_
                refine wp_getR (pc := 170) d_Aligner_fill_170 rfl (zk_10 L) zx_10_0 ?_
                refine wp_iload (pc := 173) d_Aligner_fill_173 rfl ?_
                refine wp_iconst (pc := 175) d_Aligner_fill_175 rfl ?_
                refine wp_iadd (pc := 176) d_Aligner_fill_176 (by omega) (by omega) ?_
                refine wp_iald (pc := 177) d_Aligner_fill_177 (zk_11 L) (by omega) (by omega) ?_
                rw [show i * 26 + j + 1 = i * 26 + (j + 1) by omega, g3.2.2 (j + 1) (by omega) (by omega)]
                refine wp_iadd (pc := 178) d_Aligner_fill_178 (by omega) (by omega) ?_
                refine wp_ist12 (pc := 179) d_Aligner_fill_179 rfl ?_
                refine wp_aload_n (pc := 181) d_Aligner_fill_181 rfl ?_
                refine wp_getR (pc := 182) d_Aligner_fill_182 rfl (zk_10 L) zx_10_0 ?_
                refine wp_iload (pc := 185) d_Aligner_fill_185 rfl ?_
                refine wp_iload (pc := 187) d_Aligner_fill_187 rfl ?_
                refine wp_iload (pc := 189) d_Aligner_fill_189 rfl ?_
                refine wp_iload (pc := 191) d_Aligner_fill_191 rfl ?_
                refine wp_min (pc := 193) d_Aligner_fill_193 rfl rfl ?_
                refine wp_min (pc := 196) d_Aligner_fill_196 rfl rfl ?_
                refine wp_iast (pc := 199) d_Aligner_fill_199 (zk_11 L) (by decide) (by omega) (by omega) ?_
                refine wp_iinc7 (pc := 200) d_Aligner_fill_200 rfl (by omega) (by omega) ?_
                refine wp_goto (tgt := 29) (pc := 203) d_Aligner_fill_203 rfl ?_
                refine ih (j + -1) _ _ _ _ _ _ (by omega) (by omega) (by omega) (g3.put (by omega) (by omega) (by omega) (by omega) n21 ?_)
                first | exact (zVl_out hou).symm | (rw [zVl_rec, if_neg hne, if_pos (by omega)]) | exact hrec.symm
              · refine wp_aload_n (pc := 96) d_Aligner_fill_96 rfl ?_
                refine wp_getR (pc := 97) d_Aligner_fill_97 rfl (zk_10 L) zx_10_0 ?_
                refine wp_iload (pc := 100) d_Aligner_fill_100 rfl ?_
                refine wp_iconst (pc := 102) d_Aligner_fill_102 rfl ?_
                refine wp_iast (pc := 103) d_Aligner_fill_103 (zk_11 L) (by decide) (by omega) (by omega) ?_
                refine wp_goto (tgt := 200) (pc := 104) d_Aligner_fill_104 rfl ?_
                refine wp_iinc7 (pc := 200) d_Aligner_fill_200 rfl (by omega) (by omega) ?_
                refine wp_goto (tgt := 29) (pc := 203) d_Aligner_fill_203 rfl ?_
                refine ih (j + -1) _ _ _ _ _ _ (by omega) (by omega) (by omega) (g3.put (by omega) (by omega) (by omega) (by omega) n21 ?_)
                first | exact (zVl_out hou).symm | (rw [zVl_rec, if_neg hne, if_pos (by omega)]) | exact hrec.symm
          · have hou : M0 t 1 < i ∨ M0 s 1 < j ∨ b < i - j ∨ b < j - i := by first | omega | (split at c67 <;> omega)
            refine wp_aload_n (pc := 70) d_Aligner_fill_70 rfl ?_
            refine wp_getR (pc := 71) d_Aligner_fill_71 rfl (zk_10 L) zx_10_0 ?_
            refine wp_iload (pc := 74) d_Aligner_fill_74 rfl ?_
            refine wp_ldc (pc := 76) d_Aligner_fill_76 rfl ?_
            refine wp_iast (pc := 78) d_Aligner_fill_78 (zk_11 L) (by decide) (by omega) (by omega) ?_
            refine wp_goto (tgt := 200) (pc := 79) d_Aligner_fill_79 rfl ?_
            refine wp_iinc7 (pc := 200) d_Aligner_fill_200 rfl (by omega) (by omega) ?_
            refine wp_goto (tgt := 29) (pc := 203) d_Aligner_fill_203 rfl ?_
            refine ih (j + -1) _ _ _ _ _ _ (by omega) (by omega) (by omega) (g3.put (by omega) (by omega) (by omega) (by omega) n21 ?_)
            first | exact (zVl_out hou).symm | (rw [zVl_rec, if_neg hne, if_pos (by omega)]) | exact hrec.symm
theorem lp_Ar_fill {M0 : zM} (ht : zTx L t) (hs : zTx L s) (ht1 : t ≠ 11) (ht2 : t + 1 ≠ 11) (hs1 : s ≠ 11) (hs2 : s + 1 ≠ 11) (hst : zSt M0) (n10 : 0 ≤ M0 t 1) (n11 : M0 t 1 ≤ 24) (n20 : 0 ≤ M0 s 1) (n21 : M0 s 1 ≤ 24) (hb0 : 0 ≤ b) (hb9 : b ≤ 9) (hc1 : ∀ k : Nat, (k : Int) < M0 t 1 → -1 ≤ M0 (t + 1) k ∧ M0 (t + 1) k ≤ 1000) (hc2 : ∀ k : Nat, (k : Int) < M0 s 1 → -1 ≤ M0 (s + 1) k ∧ M0 (s + 1) k ≤ 1000) : ∀ (n9 : Nat) (i : Int) (M : zM) (u7 : zV) (u8 : zV) (u9 : zV) (u10 : zV) (u11 : zV) (u12 : zV), i + 1 < n9 → -1 ≤ i → i ≤ M0 t 1 + 1 → qTb M0 t s b M i (M0 s 1 + 1) → wp L 1 zm_Aligner_fill 18 [rV 10, rV t, rV s, iV b, iV (M0 t 1), iV (M0 s 1), iV i, u7, u8, u9, u10, u11, u12] [] M (fun r M' => r = none ∧ (zSm (fun a => a = 11) M0 M' ∧ ∀ i j : Int, 0 ≤ i → i ≤ M0 t 1 + 1 → 0 ≤ j → j ≤ M0 s 1 + 1 → M' 11 (i * 26 + j).toNat = zVl (qTx M0 t) (qTx M0 s) (M0 t 1) (M0 s 1) b i j)) := by
  intro n9
  induction n9 with
  | zero =>
    intro i  M  u7  u8  u9  u10  u11  u12  h9 g1 g2 g3
    exact absurd h9 (by omega)
  | succ n9 ih =>
    intro i  M  u7  u8  u9  u10  u11  u12  h9 g1 g2 g3
    refine wp_iload (pc := 18) d_Aligner_fill_18 rfl ?_
    refine wp_if_lt (tgt := 212) (pc := 20) d_Aligner_fill_20 rfl (fun c20 => ?_) (fun c20 => ?_)
    · refine wp_return_ (pc := 212) d_Aligner_fill_212 rfl ?_
      exact ⟨rfl, g3.1, fun i' j' a1 a2 a3 a4 => g3.2.1 i' j' (by omega) a2 a3 a4⟩
    · refine wp_iload (pc := 23) d_Aligner_fill_23 rfl ?_
      refine wp_iconst (pc := 25) d_Aligner_fill_25 rfl ?_
      refine wp_iadd (pc := 26) d_Aligner_fill_26 (by omega) (by omega) ?_
      refine wp_ist7 (pc := 27) d_Aligner_fill_27 rfl ?_
      refine lp_Ar_fill1 (M0 := M0) ht hs ht1 ht2 hs1 hs2 hst n10 n11 n20 n21 hb0 hb9 hc1 hc2 (by omega) g2 (fun M' u8 u9 u10 u11 u12 hM' => ih (i + -1) M' _ _ _ _ _ _ (by omega) (by omega) (by omega) ⟨hM'.1, fun i' j' a1 a2 a3 a4 => ?_, fun j' a1 a2 => absurd a1 (by omega)⟩) 100 (M0 s 1 + 1) M _ _ _ _ _ (by omega) (by omega) (by omega) g3
      by_cases e : i' = i
      · rw [e]; exact hM'.2.2 j' (by omega) a4
      · exact hM'.2.1 i' j' (by omega) a2 a3 a4
theorem c_Ar_fill (ht : zTx L t) (hs : zTx L s) (ht1 : t ≠ 11) (ht2 : t + 1 ≠ 11) (hs1 : s ≠ 11) (hs2 : s + 1 ≠ 11) (hst : zSt M) (n10 : 0 ≤ M t 1) (n11 : M t 1 ≤ 24) (n20 : 0 ≤ M s 1) (n21 : M s 1 ≤ 24) (hb0 : 0 ≤ b) (hb9 : b ≤ 9) (hc1 : ∀ k : Nat, (k : Int) < M t 1 → -1 ≤ M (t + 1) k ∧ M (t + 1) k ≤ 1000) (hc2 : ∀ k : Nat, (k : Int) < M s 1 → -1 ≤ M (s + 1) k ∧ M (s + 1) k ≤ 1000) : Cv L 1 zm_Aligner_fill [rV 10, rV t, rV s, iV b] M (fun M' => zSm (fun a => a = 11) M M' ∧ ∀ i j : Int, 0 ≤ i → i ≤ M t 1 + 1 → 0 ≤ j → j ≤ M s 1 + 1 → M' 11 (i * 26 + j).toNat = zVl (qTx M t) (qTx M s) (M t 1) (M s 1) b i j) := by
  show wp L _ zm_Aligner_fill 0 [rV 10, rV t, rV s, iV b, uV, uV, uV, uV, uV, uV, uV, uV, uV] [] M _
  refine wp_aload_n (pc := 0) d_Aligner_fill_0 rfl ?_
  refine wp_callV0f (pc := 1) d_Aligner_fill_1 rfl rfl ht.1 rfl rfl (c_Text_size ht) ?_
  refine wp_ist4 (pc := 4) d_Aligner_fill_4 rfl ?_
  refine wp_aload_n (pc := 6) d_Aligner_fill_6 rfl ?_
  refine wp_callV0f (pc := 7) d_Aligner_fill_7 rfl rfl hs.1 rfl rfl (c_Text_size hs) ?_
  refine wp_ist5 (pc := 10) d_Aligner_fill_10 rfl ?_
  refine wp_iload (pc := 12) d_Aligner_fill_12 rfl ?_
  refine wp_iconst (pc := 14) d_Aligner_fill_14 rfl ?_
  refine wp_iadd (pc := 15) d_Aligner_fill_15 (by omega) (by omega) ?_
  refine wp_ist6 (pc := 16) d_Aligner_fill_16 rfl ?_
  exact lp_Ar_fill (M0 := M) ht hs ht1 ht2 hs1 hs2 hst n10 n11 n20 n21 hb0 hb9 hc1 hc2 100 (M t 1 + 1) M _ _ _ _ _ _ (by omega) (by omega) (by omega) ⟨zSm.rf, fun i' j' a1 a2 => absurd a1 (by omega), fun j' a1 a2 => absurd a1 (by omega)⟩
/-- so far: the first k steps stand in the alignment r -/
def qIv (M0 M : zM) (r : Nat) (f g : Int → Int) (n1 n2 b : Int) (k : Nat) : Prop := zSm (fun a => a = r + 1 ∨ a = r + 2) M0 M ∧ M (r + 2) 1 = k ∧ M (r + 2) 0 = qSm f g n1 n2 b k ∧ (∀ x : Int, 2 ≤ x → x ≤ 6 → M (r + 2) x.toNat = qCt f g n1 n2 b x k) ∧ ∀ q, q < k → M (r + 1) q = qSt f g n1 n2 b q
theorem qIv.add {M0 M M' : zM} {r k : Nat} {f g : Int → Int} {n1 n2 b x : Int} (h : qIv M0 M r f g n1 n2 b k) (hx : x = qKd f g n1 n2 b k) (hs : zKs x = qSt f g n1 n2 b k) (h2 : 2 ≤ x) (h6 : x ≤ 6)
    (ha : zSm (fun a => a = r + 1 ∨ a = r + 2) M M' ∧ M' (r + 1) (M (r + 2) 1).toNat = zKs x ∧ (∀ k, k ≠ (M (r + 2) 1).toNat → M' (r + 1) k = M (r + 1) k) ∧ M' (r + 2) 1 = M (r + 2) 1 + 1 ∧ M' (r + 2) x.toNat = M (r + 2) x.toNat + 1 ∧ M' (r + 2) 0 = M (r + 2) 0 + zKc x ∧ ∀ k, k ≠ 0 → k ≠ 1 → k ≠ x.toNat → M' (r + 2) k = M (r + 2) k) : qIv M0 M' r f g n1 n2 b (k + 1) := by
  obtain ⟨a1, a2, a3, a4, a5, a6, a7⟩ := ha
  obtain ⟨b1, b2, b3, b4, b5⟩ := h
  have hk : (M (r + 2) 1).toNat = k := by omega
  refine ⟨b1.tr a1, by omega, by simp only [qSm]; rw [a6, b3, hx], fun y y2 y6 => ?_, fun q hq => ?_⟩
  · simp only [qCt]
    by_cases e : y = x
    · rw [e, a5, b4 x h2 h6, if_pos hx.symm]
    · rw [a7 _ (by omega) (by omega) (by omega), b4 y y2 y6, if_neg (fun z => e (by rw [hx, z])), Int.add_zero]
  · by_cases e : q = k
    · rw [e, ← hs, ← a2, hk]
    · rw [a3 q (by omega)]; exact b5 q (by omega)
/-- the alignment r holds the best alignment -/
def qAl (M : zM) (r : Nat) (f g : Int → Int) (n1 n2 b : Int) : Prop := ∃ K : Nat, qEn f g n1 n2 b K ∧ K ≤ 48 ∧ M (r + 2) 1 = K ∧ M (r + 2) 0 = zVl f g n1 n2 b 0 0 ∧ (∀ x : Int, 2 ≤ x → x ≤ 6 → M (r + 2) x.toNat = qCt f g n1 n2 b x K) ∧ ∀ q, q < K → M (r + 1) q = qSt f g n1 n2 b q
theorem qKd_in {f g : Int → Int} {n1 n2 b : Int} (k : Nat) : 2 ≤ qKd f g n1 n2 b k ∧ qKd f g n1 n2 b k ≤ 6 := by
  unfold qKd
  split
  · rcases zKp_in (f (qPs f g n1 n2 b k).1) (g (qPs f g n1 n2 b k).2) with h | h | h <;> omega
  · split <;> omega
theorem zKc_nn {x : Int} : 0 ≤ zKc x := by
  unfold zKc
  split
  · omega
  · split
    · omega
    · split
      · omega
      · split <;> omega
theorem qSm_nn {f g : Int → Int} {n1 n2 b : Int} : ∀ k, 0 ≤ qSm f g n1 n2 b k := by
  intro k
  induction k with
  | zero => exact Int.le_refl _
  | succ k ih =>
    have := zKc_nn (x := qKd f g n1 n2 b k)
    simp only [qSm]
    omega
theorem lp_Ar_trace {M0 : zM} {r : Nat} (hr : zAn L r) (ht : zTx L t) (hs : zTx L s) (ht1 : t ≠ 11) (ht2 : t + 1 ≠ 11) (hs1 : s ≠ 11) (hs2 : s + 1 ≠ 11) (hst : zSt M0) (n10 : 0 ≤ M0 t 1) (n11 : M0 t 1 ≤ 24) (n20 : 0 ≤ M0 s 1) (n21 : M0 s 1 ≤ 24) (hb0 : 0 ≤ b) (hb9 : b ≤ 9) (hc1 : ∀ k : Nat, (k : Int) < M0 t 1 → -1 ≤ M0 (t + 1) k ∧ M0 (t + 1) k ≤ 1000) (hc2 : ∀ k : Nat, (k : Int) < M0 s 1 → -1 ≤ M0 (s + 1) k ∧ M0 (s + 1) k ≤ 1000) (he : M0 t 1 - M0 s 1 ≤ b ∧ M0 s 1 - M0 t 1 ≤ b) (hr11 : r + 1 ≠ 11 ∧ r + 2 ≠ 11) (hrt : r + 1 ≠ t ∧ r + 1 ≠ t + 1 ∧ r + 2 ≠ t ∧ r + 2 ≠ t + 1) (hrs : r + 1 ≠ s ∧ r + 1 ≠ s + 1 ∧ r + 2 ≠ s ∧ r + 2 ≠ s + 1) (hfo : M0 r 3 = 1) (hT : ∀ i j : Int, 0 ≤ i → i ≤ M0 t 1 + 1 → 0 ≤ j → j ≤ M0 s 1 + 1 → M0 11 (i * 26 + j).toNat = zVl (qTx M0 t) (qTx M0 s) (M0 t 1) (M0 s 1) b i j) : ∀ (n9 : Nat) (k : Nat) (i : Int) (j : Int) (x : Int) (M : zM) (u7 : zV) (u8 : zV) (u9 : zV) (u10 : zV), 48 - x < n9 → x ≤ 48 → x = k → i = (qPs (qTx M0 t) (qTx M0 s) (M0 t 1) (M0 s 1) b k).1 → j = (qPs (qTx M0 t) (qTx M0 s) (M0 t 1) (M0 s 1) b k).2 → (∀ t9, t9 < k → ¬ ((qPs (qTx M0 t) (qTx M0 s) (M0 t 1) (M0 s 1) b t9).1 = M0 t 1 ∧ (qPs (qTx M0 t) (qTx M0 s) (M0 t 1) (M0 s 1) b t9).2 = M0 s 1)) → qIv M0 M r (qTx M0 t) (qTx M0 s) (M0 t 1) (M0 s 1) b k → wp L 1 zm_Aligner_trace 9 [rV 10, rV t, rV s, rV r, iV i, iV j, iV x, u7, u8, u9, u10] [] M (fun r9 M' => r9 = none ∧ (zSm (fun a => a = r + 1 ∨ a = r + 2) M0 M' ∧ qAl M' r (qTx M0 t) (qTx M0 s) (M0 t 1) (M0 s 1) b)) := by
  intro n9
  induction n9 with
  | zero =>
    intro k  i  j  x  M  u7  u8  u9  u10  h9 g0 g1 g2 g3 g4 g5
    exact absurd h9 (by omega)
  | succ n9 ih =>
    intro k  i  j  x  M  u7  u8  u9  u10  h9 g0 g1 g2 g3 g4 g5
    have hr4 := hr.2.2.2.2.2
    have e1 : M t 1 = M0 t 1 := g5.1 t (by omega) 1
    have e2 : M s 1 = M0 s 1 := g5.1 s (by omega) 1
    have e3 : ∀ k, M (t + 1) k = M0 (t + 1) k := g5.1 (t + 1) (by omega)
    have e4 : ∀ k, M (s + 1) k = M0 (s + 1) k := g5.1 (s + 1) (by omega)
    have e5 : zSt M := hst.keep g5.1 (fun a ha => by omega)
    have e6 : ∀ k, M 11 k = M0 11 k := g5.1 11 (by omega)
    have e7 : M r 3 = 1 := (g5.1 r (by omega) 3).trans hfo
    have f1 : ∀ i, qTx M t i = qTx M0 t i := fun i => by unfold qTx; rw [e1, e3]
    have f2 : ∀ i, qTx M s i = qTx M0 s i := fun i => by unfold qTx; rw [e2, e4]
    have b1 := qTx_b hc1 n11
    have b2 := qTx_b hc2 n21
    obtain ⟨p1, p2, p3, p4, p5, p6, p7, p8⟩ := qPs_ok (f := qTx M0 t) (g := qTx M0 s) he n11 n21 n10 n20 hb0 k g4
    rw [← g2] at p1 p2 p5 p6 p7 p8
    rw [← g3] at p3 p4 p5 p6 p7 p8
    have hb7 : ∀ k, k < 7 → -1 ≤ M (r + 2) k ∧ M (r + 2) k ≤ 1000 := fun x hx => by
      rcases (show x = 0 ∨ x = 1 ∨ 2 ≤ x by omega) with z | z | z
      · have v0 := zVl_0 (f := qTx M0 t) (g := qTx M0 s) (n1 := M0 t 1) (n2 := M0 s 1) (b := b) i j
        have v1 := zVl_fin (f := qTx M0 t) (g := qTx M0 s) he (M0 t 1 + M0 s 1).toNat 0 0 (by omega) (by omega) (by omega) (by omega) (by omega)
        have v2 : 0 ≤ qSm (qTx M0 t) (qTx M0 s) (M0 t 1) (M0 s 1) b k := qSm_nn k
        rw [z, g5.2.2.1]; omega
      · rw [z, g5.2.1]; omega
      · have := qCt_nn (f := qTx M0 t) (g := qTx M0 s) (n1 := M0 t 1) (n2 := M0 s 1) (b := b) (x : Int) k
        have h7 := g5.2.2.2.1 (x : Int) (by omega) (by omega)
        rw [show ((x : Int)).toNat = x by omega] at h7
        rw [h7]; omega
    refine wp_iload (pc := 9) d_Aligner_trace_9 rfl ?_
    refine wp_bipush (pc := 11) d_Aligner_trace_11 rfl ?_
    refine wp_icmp_ge (tgt := 209) (pc := 13) d_Aligner_trace_13 rfl (fun c13 => ?_) (fun c13 => ?_)
    · refine wp_return_ (pc := 209) d_Aligner_trace_209 rfl ?_
      have hend : i = M0 t 1 ∧ j = M0 s 1 := by omega
      refine ⟨rfl, g5.1, k, ⟨⟨by rw [← g2]; exact hend.1, by rw [← g3]; exact hend.2⟩, g4⟩, by omega, g5.2.1, ?_, g5.2.2.2.1, g5.2.2.2.2⟩
      have hz : zVl (qTx M0 t) (qTx M0 s) (M0 t 1) (M0 s 1) b (i) (j) = 0 := by rw [zVl_rec, if_neg (by omega), if_pos hend]
      rw [g5.2.2.1]; omega
    · refine wp_iload (pc := 16) d_Aligner_trace_16 rfl ?_
      refine wp_aload_n (pc := 18) d_Aligner_trace_18 rfl ?_
      refine wp_callV0f (pc := 19) d_Aligner_trace_19 rfl rfl ht.1 rfl rfl (c_Text_size ht) ?_
      refine wp_icmp_lt (tgt := 34) (pc := 22) d_Aligner_trace_22 rfl (fun c22 => ?_) (fun c22 => ?_)
      · have hne : ¬ (i = M0 t 1 ∧ j = M0 s 1) := by omega
        have hdo := qDc_ok (f := qTx M0 t) (g := qTx M0 s) he n11 n21 p1 p3 p2 p4 p5 p6 hne
        have t0 : M 11 (i * 26 + j).toNat = zVl (qTx M0 t) (qTx M0 s) (M0 t 1) (M0 s 1) b (i) (j) := by rw [e6]; exact hT i j p1 (by omega) p3 (by omega)
        have t1 : M 11 (i * 26 + j + 26 + 1).toNat = zVl (qTx M0 t) (qTx M0 s) (M0 t 1) (M0 s 1) b (i + 1) (j + 1) := by rw [e6, show i * 26 + j + 26 + 1 = (i + 1) * 26 + (j + 1) by omega]; exact hT (i + 1) (j + 1) (by omega) (by omega) (by omega) (by omega)
        have t2 : M 11 (i * 26 + j + 26).toNat = zVl (qTx M0 t) (qTx M0 s) (M0 t 1) (M0 s 1) b (i + 1) (j) := by rw [e6, show i * 26 + j + 26 = (i + 1) * 26 + j by omega]; exact hT (i + 1) j (by omega) (by omega) (by omega) (by omega)
        have v1 := zVl_ub (f := qTx M0 t) (g := qTx M0 s) (b := b) n11 n21 (show 0 ≤ i + 1 by omega) (show 0 ≤ j + 1 by omega)
        have v2 := zVl_ub (f := qTx M0 t) (g := qTx M0 s) (b := b) n11 n21 (show 0 ≤ i + 1 by omega) (show 0 ≤ j by omega)
        have w1 := zVl_0 (f := qTx M0 t) (g := qTx M0 s) (n1 := M0 t 1) (n2 := M0 s 1) (b := b) (i + 1) (j + 1)
        have w2 := zVl_0 (f := qTx M0 t) (g := qTx M0 s) (n1 := M0 t 1) (n2 := M0 s 1) (b := b) (i + 1) j
        have kp := zKc_p (qTx M0 t i) (qTx M0 s j)
        have ki := zKp_in (qTx M0 t i) (qTx M0 s j)
        have s15 : M 1 5 = 2 := (e5 1 (by decide) 5).trans rfl
        refine wp_iload (pc := 34) d_Aligner_trace_34 rfl ?_
        refine wp_bipush (pc := 36) d_Aligner_trace_36 rfl ?_
        refine wp_imul (pc := 38) d_Aligner_trace_38 (by omega) (by omega) ?_
        refine wp_iload (pc := 39) d_Aligner_trace_39 rfl ?_
        refine wp_iadd (pc := 41) d_Aligner_trace_41 (by omega) (by omega) ?_
        refine wp_ist7 (pc := 42) d_Aligner_trace_42 rfl ?_
        refine wp_aload_n (pc := 44) d_Aligner_trace_44 rfl ?_
        refine wp_iload (pc := 45) d_Aligner_trace_45 rfl ?_
        refine wp_callV1f (pc := 47) d_Aligner_trace_47 rfl rfl ht.1 rfl rfl (c_Text_at ht (by omega)) ?_
        rw [show (if 0 ≤ i ∧ i < M t 1 then M (t + 1) i.toNat else -1) = qTx M0 t i from f1 i]
        refine wp_aload_n (pc := 50) d_Aligner_trace_50 rfl ?_
        refine wp_iload (pc := 51) d_Aligner_trace_51 rfl ?_
        refine wp_callV1f (pc := 53) d_Aligner_trace_53 rfl rfl hs.1 rfl rfl (c_Text_at hs (by omega)) ?_
        rw [show (if 0 ≤ j ∧ j < M s 1 then M (s + 1) j.toNat else -1) = qTx M0 s j from f2 j]
        refine wp_callS2f (pc := 56) d_Aligner_trace_56 rfl rfl rfl rfl rfl (c_Ar_kind e5 (by have := b1 i; omega) (by have := b2 j; omega)) ?_
        refine wp_ist8 (pc := 59) d_Aligner_trace_59 rfl ?_
        refine wp_iload (pc := 61) d_Aligner_trace_61 rfl ?_
        refine wp_aload_n (pc := 63) d_Aligner_trace_63 rfl ?_
        refine wp_callV0f (pc := 64) d_Aligner_trace_64 rfl rfl ht.1 rfl rfl (c_Text_size ht) ?_
        refine wp_icmp_ge (tgt := 74) (pc := 67) d_Aligner_trace_67 rfl (fun c67 => ?_) (fun c67 => ?_)
        · refine wp_iconst (pc := 74) d_Aligner_trace_74 rfl ?_
          refine wp_ist9 (pc := 75) d_Aligner_trace_75 rfl ?_
          refine wp_iload (pc := 77) d_Aligner_trace_77 rfl ?_
          refine wp_aload_n (pc := 79) d_Aligner_trace_79 rfl ?_
          refine wp_callV0f (pc := 80) d_Aligner_trace_80 rfl rfl hs.1 rfl rfl (c_Text_size hs) ?_
          refine wp_icmp_ge (tgt := 90) (pc := 83) d_Aligner_trace_83 rfl (fun c83 => ?_) (fun c83 => ?_)
          · refine wp_iconst (pc := 90) d_Aligner_trace_90 rfl ?_
            refine wp_ist10 (pc := 91) d_Aligner_trace_91 rfl ?_
            refine wp_iload (pc := 93) d_Aligner_trace_93 rfl ?_
            refine wp_if_eq (tgt := 147) (pc := 95) d_Aligner_trace_95 rfl (fun c95 => ?_) (fun c95 => ?_)
            · refine wp_iload (pc := 147) d_Aligner_trace_147 rfl ?_
              refine wp_if_eq (tgt := 194) (pc := 149) d_Aligner_trace_149 rfl (fun c149 => ?_) (fun c149 => ?_)
              · refine wp_aload_n (pc := 194) d_Aligner_trace_194 rfl ?_
                refine wp_bipush (pc := 195) d_Aligner_trace_195 rfl ?_
                refine wp_callV1v (pc := 197) d_Aligner_trace_197 rfl rfl hr.1 rfl rfl (c_An_add hr e5 e7 (by rw [g5.2.1]; omega) (by rw [g5.2.1]; omega) (by omega) (by omega) hb7) (fun M197 h197 => ?_)
                refine wp_iinc5 (pc := 200) d_Aligner_trace_200 rfl (by omega) (by omega) ?_
                refine wp_iinc6 (pc := 203) d_Aligner_trace_203 rfl (by omega) (by omega) ?_
                refine wp_goto (tgt := 9) (pc := 206) d_Aligner_trace_206 rfl ?_
                have hdc : qDc (qTx M0 t) (qTx M0 s) (M0 t 1) (M0 s 1) b i j = 2 := by unfold qDc; rw [if_neg (by omega), if_neg (by omega)]
                have hst9 : qSt (qTx M0 t) (qTx M0 s) (M0 t 1) (M0 s 1) b k = 2 := by unfold qSt; rw [← g2, ← g3]; exact hdc
                have hkd : qKd (qTx M0 t) (qTx M0 s) (M0 t 1) (M0 s 1) b k = 6 := by unfold qKd; rw [hst9]; rw [if_neg (by decide), if_neg (by decide)]
                refine ih (k + 1) i (j + 1) (x + 1) _ _ _ _ _ (by omega) (by omega) (by omega) ?_ ?_ (fun t9 ht9 => ?_) (g5.add (x := 6) hkd.symm (by rw [hst9]; first | rfl | (rcases zKp_in (qTx M0 t i) (qTx M0 s j) with z | z | z <;> rw [z] <;> rfl)) (by first | omega | (rcases zKp_in (qTx M0 t i) (qTx M0 s j) with z | z | z <;> rw [z] <;> decide)) (by first | omega | (rcases zKp_in (qTx M0 t i) (qTx M0 s j) with z | z | z <;> rw [z] <;> decide)) h197)
                · simp only [qPs]; rw [← g2, ← g3, hdc]; first | rfl | (rw [if_neg (by decide)]) | (rw [if_pos rfl, Int.add_zero])
                · simp only [qPs]; rw [← g2, ← g3, hdc]; first | rfl | (rw [if_neg (by decide)]) | (rw [if_pos rfl, Int.add_zero])
                · by_cases e9 : t9 = k
                  · rw [e9, ← g2, ← g3]; omega
                  · exact g4 t9 (by omega)
              · exact absurd c149 (by decide)
            · exact absurd c95 (by decide)
          · refine wp_iconst (pc := 86) d_Aligner_trace_86 rfl ?_
            refine wp_goto (tgt := 91) (pc := 87) d_Aligner_trace_87 rfl ?_
            refine wp_ist10 (pc := 91) d_Aligner_trace_91 rfl ?_
            refine wp_iload (pc := 93) d_Aligner_trace_93 rfl ?_
            refine wp_if_eq (tgt := 147) (pc := 95) d_Aligner_trace_95 rfl (fun c95 => ?_) (fun c95 => ?_)
            · refine wp_iload (pc := 147) d_Aligner_trace_147 rfl ?_
              refine wp_if_eq (tgt := 194) (pc := 149) d_Aligner_trace_149 rfl (fun c149 => ?_) (fun c149 => ?_)
              · refine wp_aload_n (pc := 194) d_Aligner_trace_194 rfl ?_
                refine wp_bipush (pc := 195) d_Aligner_trace_195 rfl ?_
                refine wp_callV1v (pc := 197) d_Aligner_trace_197 rfl rfl hr.1 rfl rfl (c_An_add hr e5 e7 (by rw [g5.2.1]; omega) (by rw [g5.2.1]; omega) (by omega) (by omega) hb7) (fun M197 h197 => ?_)
                refine wp_iinc5 (pc := 200) d_Aligner_trace_200 rfl (by omega) (by omega) ?_
                refine wp_iinc6 (pc := 203) d_Aligner_trace_203 rfl (by omega) (by omega) ?_
                refine wp_goto (tgt := 9) (pc := 206) d_Aligner_trace_206 rfl ?_
                have hdc : qDc (qTx M0 t) (qTx M0 s) (M0 t 1) (M0 s 1) b i j = 2 := by unfold qDc; rw [if_neg (by omega), if_neg (by omega)]
                have hst9 : qSt (qTx M0 t) (qTx M0 s) (M0 t 1) (M0 s 1) b k = 2 := by unfold qSt; rw [← g2, ← g3]; exact hdc
                have hkd : qKd (qTx M0 t) (qTx M0 s) (M0 t 1) (M0 s 1) b k = 6 := by unfold qKd; rw [hst9]; rw [if_neg (by decide), if_neg (by decide)]
                refine ih (k + 1) i (j + 1) (x + 1) _ _ _ _ _ (by omega) (by omega) (by omega) ?_ ?_ (fun t9 ht9 => ?_) (g5.add (x := 6) hkd.symm (by rw [hst9]; first | rfl | (rcases zKp_in (qTx M0 t i) (qTx M0 s j) with z | z | z <;> rw [z] <;> rfl)) (by first | omega | (rcases zKp_in (qTx M0 t i) (qTx M0 s j) with z | z | z <;> rw [z] <;> decide)) (by first | omega | (rcases zKp_in (qTx M0 t i) (qTx M0 s j) with z | z | z <;> rw [z] <;> decide)) h197)
                · simp only [qPs]; rw [← g2, ← g3, hdc]; first | rfl | (rw [if_neg (by decide)]) | (rw [if_pos rfl, Int.add_zero])
                · simp only [qPs]; rw [← g2, ← g3, hdc]; first | rfl | (rw [if_neg (by decide)]) | (rw [if_pos rfl, Int.add_zero])
                · by_cases e9 : t9 = k
                  · rw [e9, ← g2, ← g3]; omega
                  · exact g4 t9 (by omega)
              · exact absurd c149 (by decide)
            · exact absurd c95 (by decide)
        · refine wp_iconst (pc := 70) d_Aligner_trace_70 rfl ?_
          refine wp_goto (tgt := 75) (pc := 71) d_Aligner_trace_71 rfl ?_
          refine wp_ist9 (pc := 75) d_Aligner_trace_75 rfl ?_
          refine wp_iload (pc := 77) d_Aligner_trace_77 rfl ?_
          refine wp_aload_n (pc := 79) d_Aligner_trace_79 rfl ?_
          refine wp_callV0f (pc := 80) d_Aligner_trace_80 rfl rfl hs.1 rfl rfl (c_Text_size hs) ?_
          refine wp_icmp_ge (tgt := 90) (pc := 83) d_Aligner_trace_83 rfl (fun c83 => ?_) (fun c83 => ?_)
          · refine wp_iconst (pc := 90) d_Aligner_trace_90 rfl ?_
            refine wp_ist10 (pc := 91) d_Aligner_trace_91 rfl ?_
            refine wp_iload (pc := 93) d_Aligner_trace_93 rfl ?_
            refine wp_if_eq (tgt := 147) (pc := 95) d_Aligner_trace_95 rfl (fun c95 => ?_) (fun c95 => ?_)
            · exact absurd c95 (by decide)
            · refine wp_iload (pc := 98) d_Aligner_trace_98 rfl ?_
              refine wp_if_eq (tgt := 147) (pc := 100) d_Aligner_trace_100 rfl (fun c100 => ?_) (fun c100 => ?_)
              · refine wp_iload (pc := 147) d_Aligner_trace_147 rfl ?_
                refine wp_if_eq (tgt := 194) (pc := 149) d_Aligner_trace_149 rfl (fun c149 => ?_) (fun c149 => ?_)
                · exact absurd c149 (by decide)
                · refine wp_iload (pc := 152) d_Aligner_trace_152 rfl ?_
                  refine wp_if_eq (tgt := 183) (pc := 154) d_Aligner_trace_154 rfl (fun c154 => ?_) (fun c154 => ?_)
                  · refine wp_aload_n (pc := 183) d_Aligner_trace_183 rfl ?_
                    refine wp_iconst (pc := 184) d_Aligner_trace_184 rfl ?_
                    refine wp_callV1v (pc := 185) d_Aligner_trace_185 rfl rfl hr.1 rfl rfl (c_An_add hr e5 e7 (by rw [g5.2.1]; omega) (by rw [g5.2.1]; omega) (by omega) (by omega) hb7) (fun M185 h185 => ?_)
                    refine wp_iinc4 (pc := 188) d_Aligner_trace_188 rfl (by omega) (by omega) ?_
                    refine wp_goto (tgt := 203) (pc := 191) d_Aligner_trace_191 rfl ?_
                    refine wp_iinc6 (pc := 203) d_Aligner_trace_203 rfl (by omega) (by omega) ?_
                    refine wp_goto (tgt := 9) (pc := 206) d_Aligner_trace_206 rfl ?_
                    have hdc : qDc (qTx M0 t) (qTx M0 s) (M0 t 1) (M0 s 1) b i j = 1 := by unfold qDc; rw [if_neg (by omega), if_pos (by omega)]
                    have hst9 : qSt (qTx M0 t) (qTx M0 s) (M0 t 1) (M0 s 1) b k = 1 := by unfold qSt; rw [← g2, ← g3]; exact hdc
                    have hkd : qKd (qTx M0 t) (qTx M0 s) (M0 t 1) (M0 s 1) b k = 5 := by unfold qKd; rw [hst9]; rw [if_neg (by decide), if_pos rfl]
                    refine ih (k + 1) (i + 1) j (x + 1) _ _ _ _ _ (by omega) (by omega) (by omega) ?_ ?_ (fun t9 ht9 => ?_) (g5.add (x := 5) hkd.symm (by rw [hst9]; first | rfl | (rcases zKp_in (qTx M0 t i) (qTx M0 s j) with z | z | z <;> rw [z] <;> rfl)) (by first | omega | (rcases zKp_in (qTx M0 t i) (qTx M0 s j) with z | z | z <;> rw [z] <;> decide)) (by first | omega | (rcases zKp_in (qTx M0 t i) (qTx M0 s j) with z | z | z <;> rw [z] <;> decide)) h185)
                    · simp only [qPs]; rw [← g2, ← g3, hdc]; first | rfl | (rw [if_neg (by decide)]) | (rw [if_pos rfl, Int.add_zero])
                    · simp only [qPs]; rw [← g2, ← g3, hdc]; first | rfl | (rw [if_neg (by decide)]) | (rw [if_pos rfl, Int.add_zero])
                    · by_cases e9 : t9 = k
                      · rw [e9, ← g2, ← g3]; omega
                      · exact g4 t9 (by omega)
                  · exact absurd c154 (by decide)
              · exact absurd c100 (by decide)
          · refine wp_iconst (pc := 86) d_Aligner_trace_86 rfl ?_
            refine wp_goto (tgt := 91) (pc := 87) d_Aligner_trace_87 rfl ?_
            refine wp_ist10 (pc := 91) d_Aligner_trace_91 rfl ?_
            refine wp_iload (pc := 93) d_Aligner_trace_93 rfl ?_
            refine wp_if_eq (tgt := 147) (pc := 95) d_Aligner_trace_95 rfl (fun c95 => ?_) (fun c95 => ?_)
            · exact absurd c95 (by decide)
            · refine wp_iload (pc := 98) d_Aligner_trace_98 rfl ?_
              refine wp_if_eq (tgt := 147) (pc := 100) d_Aligner_trace_100 rfl (fun c100 => ?_) (fun c100 => ?_)
              · exact absurd c100 (by decide)
              · refine wp_aload_n (pc := 103) d_Aligner_trace_103 rfl ?_
                refine wp_getR (pc := 104) d_Aligner_trace_104 rfl (zk_10 L) zx_10_0 ?_
                refine wp_iload (pc := 107) d_Aligner_trace_107 rfl ?_
                refine wp_iald (pc := 109) d_Aligner_trace_109 (zk_11 L) (by omega) (by omega) ?_
                rw [t0]
                refine wp_getS (pc := 110) d_Aligner_trace_110 rfl ?_
                refine wp_iload (pc := 113) d_Aligner_trace_113 rfl ?_
                refine wp_iald (pc := 115) d_Aligner_trace_115 (zk_1 L) (by omega) (by omega) ?_
                rw [zSt_1 e5 (by omega) (by omega)]
                refine wp_aload_n (pc := 116) d_Aligner_trace_116 rfl ?_
                refine wp_getR (pc := 117) d_Aligner_trace_117 rfl (zk_10 L) zx_10_0 ?_
                refine wp_iload (pc := 120) d_Aligner_trace_120 rfl ?_
                refine wp_bipush (pc := 122) d_Aligner_trace_122 rfl ?_
                refine wp_iadd (pc := 124) d_Aligner_trace_124 (by omega) (by omega) ?_
                refine wp_iconst (pc := 125) d_Aligner_trace_125 rfl ?_
                refine wp_iadd (pc := 126) d_Aligner_trace_126 (by omega) (by omega) ?_
                refine wp_iald (pc := 127) d_Aligner_trace_127 (zk_11 L) (by omega) (by omega) ?_
                rw [t1]
                refine wp_iadd (pc := 128) d_Aligner_trace_128 (by omega) (by omega) ?_
                refine wp_icmp_ne (tgt := 147) (pc := 129) d_Aligner_trace_129 rfl (fun c129 => ?_) (fun c129 => ?_)
                · refine wp_iload (pc := 147) d_Aligner_trace_147 rfl ?_
                  refine wp_if_eq (tgt := 194) (pc := 149) d_Aligner_trace_149 rfl (fun c149 => ?_) (fun c149 => ?_)
                  · exact absurd c149 (by decide)
                  · refine wp_iload (pc := 152) d_Aligner_trace_152 rfl ?_
                    refine wp_if_eq (tgt := 183) (pc := 154) d_Aligner_trace_154 rfl (fun c154 => ?_) (fun c154 => ?_)
                    · exact absurd c154 (by decide)
                    · refine wp_aload_n (pc := 157) d_Aligner_trace_157 rfl ?_
                      refine wp_getR (pc := 158) d_Aligner_trace_158 rfl (zk_10 L) zx_10_0 ?_
                      refine wp_iload (pc := 161) d_Aligner_trace_161 rfl ?_
                      refine wp_iald (pc := 163) d_Aligner_trace_163 (zk_11 L) (by omega) (by omega) ?_
                      rw [t0]
                      refine wp_getS (pc := 164) d_Aligner_trace_164 rfl ?_
                      refine wp_iconst (pc := 167) d_Aligner_trace_167 rfl ?_
                      refine wp_ialdc 5 (pc := 168) d_Aligner_trace_168 (zk_1 L) rfl rfl ?_
                      rw [s15]
                      refine wp_aload_n (pc := 169) d_Aligner_trace_169 rfl ?_
                      refine wp_getR (pc := 170) d_Aligner_trace_170 rfl (zk_10 L) zx_10_0 ?_
                      refine wp_iload (pc := 173) d_Aligner_trace_173 rfl ?_
                      refine wp_bipush (pc := 175) d_Aligner_trace_175 rfl ?_
                      refine wp_iadd (pc := 177) d_Aligner_trace_177 (by omega) (by omega) ?_
                      refine wp_iald (pc := 178) d_Aligner_trace_178 (zk_11 L) (by omega) (by omega) ?_
                      rw [t2]
                      refine wp_iadd (pc := 179) d_Aligner_trace_179 (by omega) (by omega) ?_
                      refine wp_icmp_ne (tgt := 194) (pc := 180) d_Aligner_trace_180 rfl (fun c180 => ?_) (fun c180 => ?_)
                      · refine wp_aload_n (pc := 194) d_Aligner_trace_194 rfl ?_
                        refine wp_bipush (pc := 195) d_Aligner_trace_195 rfl ?_
                        refine wp_callV1v (pc := 197) d_Aligner_trace_197 rfl rfl hr.1 rfl rfl (c_An_add hr e5 e7 (by rw [g5.2.1]; omega) (by rw [g5.2.1]; omega) (by omega) (by omega) hb7) (fun M197 h197 => ?_)
                        refine wp_iinc5 (pc := 200) d_Aligner_trace_200 rfl (by omega) (by omega) ?_
                        refine wp_iinc6 (pc := 203) d_Aligner_trace_203 rfl (by omega) (by omega) ?_
                        refine wp_goto (tgt := 9) (pc := 206) d_Aligner_trace_206 rfl ?_
                        have hdc : qDc (qTx M0 t) (qTx M0 s) (M0 t 1) (M0 s 1) b i j = 2 := by unfold qDc; rw [if_neg (by omega), if_neg (by omega)]
                        have hst9 : qSt (qTx M0 t) (qTx M0 s) (M0 t 1) (M0 s 1) b k = 2 := by unfold qSt; rw [← g2, ← g3]; exact hdc
                        have hkd : qKd (qTx M0 t) (qTx M0 s) (M0 t 1) (M0 s 1) b k = 6 := by unfold qKd; rw [hst9]; rw [if_neg (by decide), if_neg (by decide)]
                        refine ih (k + 1) i (j + 1) (x + 1) _ _ _ _ _ (by omega) (by omega) (by omega) ?_ ?_ (fun t9 ht9 => ?_) (g5.add (x := 6) hkd.symm (by rw [hst9]; first | rfl | (rcases zKp_in (qTx M0 t i) (qTx M0 s j) with z | z | z <;> rw [z] <;> rfl)) (by first | omega | (rcases zKp_in (qTx M0 t i) (qTx M0 s j) with z | z | z <;> rw [z] <;> decide)) (by first | omega | (rcases zKp_in (qTx M0 t i) (qTx M0 s j) with z | z | z <;> rw [z] <;> decide)) h197)
                        · simp only [qPs]; rw [← g2, ← g3, hdc]; first | rfl | (rw [if_neg (by decide)]) | (rw [if_pos rfl, Int.add_zero])
                        · simp only [qPs]; rw [← g2, ← g3, hdc]; first | rfl | (rw [if_neg (by decide)]) | (rw [if_pos rfl, Int.add_zero])
                        · by_cases e9 : t9 = k
                          · rw [e9, ← g2, ← g3]; omega
                          · exact g4 t9 (by omega)
                      · refine wp_aload_n (pc := 183) d_Aligner_trace_183 rfl ?_
                        refine wp_iconst (pc := 184) d_Aligner_trace_184 rfl ?_
                        refine wp_callV1v (pc := 185) d_Aligner_trace_185 rfl rfl hr.1 rfl rfl (c_An_add hr e5 e7 (by rw [g5.2.1]; omega) (by rw [g5.2.1]; omega) (by omega) (by omega) hb7) (fun M185 h185 => ?_)
                        refine wp_iinc4 (pc := 188) d_Aligner_trace_188 rfl (by omega) (by omega) ?_
                        refine wp_goto (tgt := 203) (pc := 191) d_Aligner_trace_191 rfl ?_
                        refine wp_iinc6 (pc := 203) d_Aligner_trace_203 rfl (by omega) (by omega) ?_
                        refine wp_goto (tgt := 9) (pc := 206) d_Aligner_trace_206 rfl ?_
                        have hdc : qDc (qTx M0 t) (qTx M0 s) (M0 t 1) (M0 s 1) b i j = 1 := by unfold qDc; rw [if_neg (by omega), if_pos (by omega)]
                        have hst9 : qSt (qTx M0 t) (qTx M0 s) (M0 t 1) (M0 s 1) b k = 1 := by unfold qSt; rw [← g2, ← g3]; exact hdc
                        have hkd : qKd (qTx M0 t) (qTx M0 s) (M0 t 1) (M0 s 1) b k = 5 := by unfold qKd; rw [hst9]; rw [if_neg (by decide), if_pos rfl]
                        refine ih (k + 1) (i + 1) j (x + 1) _ _ _ _ _ (by omega) (by omega) (by omega) ?_ ?_ (fun t9 ht9 => ?_) (g5.add (x := 5) hkd.symm (by rw [hst9]; first | rfl | (rcases zKp_in (qTx M0 t i) (qTx M0 s j) with z | z | z <;> rw [z] <;> rfl)) (by first | omega | (rcases zKp_in (qTx M0 t i) (qTx M0 s j) with z | z | z <;> rw [z] <;> decide)) (by first | omega | (rcases zKp_in (qTx M0 t i) (qTx M0 s j) with z | z | z <;> rw [z] <;> decide)) h185)
                        · simp only [qPs]; rw [← g2, ← g3, hdc]; first | rfl | (rw [if_neg (by decide)]) | (rw [if_pos rfl, Int.add_zero])
                        · simp only [qPs]; rw [← g2, ← g3, hdc]; first | rfl | (rw [if_neg (by decide)]) | (rw [if_pos rfl, Int.add_zero])
                        · by_cases e9 : t9 = k
                          · rw [e9, ← g2, ← g3]; omega
                          · exact g4 t9 (by omega)
                · refine wp_aload_n (pc := 132) d_Aligner_trace_132 rfl ?_
                  refine wp_iload (pc := 133) d_Aligner_trace_133 rfl ?_
                  refine wp_callV1v (pc := 135) d_Aligner_trace_135 rfl rfl hr.1 rfl rfl (c_An_add hr e5 e7 (by rw [g5.2.1]; omega) (by rw [g5.2.1]; omega) (by omega) (by omega) hb7) (fun M135 h135 => ?_)
                  refine wp_iinc4 (pc := 138) d_Aligner_trace_138 rfl (by omega) (by omega) ?_
                  refine wp_iinc5 (pc := 141) d_Aligner_trace_141 rfl (by omega) (by omega) ?_
                  refine wp_goto (tgt := 203) (pc := 144) d_Aligner_trace_144 rfl ?_
                  refine wp_iinc6 (pc := 203) d_Aligner_trace_203 rfl (by omega) (by omega) ?_
                  refine wp_goto (tgt := 9) (pc := 206) d_Aligner_trace_206 rfl ?_
                  have hdc : qDc (qTx M0 t) (qTx M0 s) (M0 t 1) (M0 s 1) b i j = 0 := by unfold qDc; rw [if_pos ⟨by omega, by omega, by omega⟩]
                  have hst9 : qSt (qTx M0 t) (qTx M0 s) (M0 t 1) (M0 s 1) b k = 0 := by unfold qSt; rw [← g2, ← g3]; exact hdc
                  have hkd : qKd (qTx M0 t) (qTx M0 s) (M0 t 1) (M0 s 1) b k = zKp (qTx M0 t i) (qTx M0 s j) := by unfold qKd; rw [hst9]; rw [if_pos rfl, ← g2, ← g3]
                  refine ih (k + 1) (i + 1) (j + 1) (x + 1) _ _ _ _ _ (by omega) (by omega) (by omega) ?_ ?_ (fun t9 ht9 => ?_) (g5.add (x := zKp (qTx M0 t i) (qTx M0 s j)) hkd.symm (by rw [hst9]; first | rfl | (rcases zKp_in (qTx M0 t i) (qTx M0 s j) with z | z | z <;> rw [z] <;> rfl)) (by first | omega | (rcases zKp_in (qTx M0 t i) (qTx M0 s j) with z | z | z <;> rw [z] <;> decide)) (by first | omega | (rcases zKp_in (qTx M0 t i) (qTx M0 s j) with z | z | z <;> rw [z] <;> decide)) h135)
                  · simp only [qPs]; rw [← g2, ← g3, hdc]; first | rfl | (rw [if_neg (by decide)]) | (rw [if_pos rfl, Int.add_zero])
                  · simp only [qPs]; rw [← g2, ← g3, hdc]; first | rfl | (rw [if_neg (by decide)]) | (rw [if_pos rfl, Int.add_zero])
                  · by_cases e9 : t9 = k
                    · rw [e9, ← g2, ← g3]; omega
                    · exact g4 t9 (by omega)
      · refine wp_iload (pc := 25) d_Aligner_trace_25 rfl ?_
        refine wp_aload_n (pc := 27) d_Aligner_trace_27 rfl ?_
        refine wp_callV0f (pc := 28) d_Aligner_trace_28 rfl rfl hs.1 rfl rfl (c_Text_size hs) ?_
        refine wp_icmp_ge (tgt := 209) (pc := 31) d_Aligner_trace_31 rfl (fun c31 => ?_) (fun c31 => ?_)
        · refine wp_return_ (pc := 209) d_Aligner_trace_209 rfl ?_
          have hend : i = M0 t 1 ∧ j = M0 s 1 := by omega
          refine ⟨rfl, g5.1, k, ⟨⟨by rw [← g2]; exact hend.1, by rw [← g3]; exact hend.2⟩, g4⟩, by omega, g5.2.1, ?_, g5.2.2.2.1, g5.2.2.2.2⟩
          have hz : zVl (qTx M0 t) (qTx M0 s) (M0 t 1) (M0 s 1) b (i) (j) = 0 := by rw [zVl_rec, if_neg (by omega), if_pos hend]
          rw [g5.2.2.1]; omega
        · have hne : ¬ (i = M0 t 1 ∧ j = M0 s 1) := by omega
          have hdo := qDc_ok (f := qTx M0 t) (g := qTx M0 s) he n11 n21 p1 p3 p2 p4 p5 p6 hne
          have t0 : M 11 (i * 26 + j).toNat = zVl (qTx M0 t) (qTx M0 s) (M0 t 1) (M0 s 1) b (i) (j) := by rw [e6]; exact hT i j p1 (by omega) p3 (by omega)
          have t1 : M 11 (i * 26 + j + 26 + 1).toNat = zVl (qTx M0 t) (qTx M0 s) (M0 t 1) (M0 s 1) b (i + 1) (j + 1) := by rw [e6, show i * 26 + j + 26 + 1 = (i + 1) * 26 + (j + 1) by omega]; exact hT (i + 1) (j + 1) (by omega) (by omega) (by omega) (by omega)
          have t2 : M 11 (i * 26 + j + 26).toNat = zVl (qTx M0 t) (qTx M0 s) (M0 t 1) (M0 s 1) b (i + 1) (j) := by rw [e6, show i * 26 + j + 26 = (i + 1) * 26 + j by omega]; exact hT (i + 1) j (by omega) (by omega) (by omega) (by omega)
          have v1 := zVl_ub (f := qTx M0 t) (g := qTx M0 s) (b := b) n11 n21 (show 0 ≤ i + 1 by omega) (show 0 ≤ j + 1 by omega)
          have v2 := zVl_ub (f := qTx M0 t) (g := qTx M0 s) (b := b) n11 n21 (show 0 ≤ i + 1 by omega) (show 0 ≤ j by omega)
          have w1 := zVl_0 (f := qTx M0 t) (g := qTx M0 s) (n1 := M0 t 1) (n2 := M0 s 1) (b := b) (i + 1) (j + 1)
          have w2 := zVl_0 (f := qTx M0 t) (g := qTx M0 s) (n1 := M0 t 1) (n2 := M0 s 1) (b := b) (i + 1) j
          have kp := zKc_p (qTx M0 t i) (qTx M0 s j)
          have ki := zKp_in (qTx M0 t i) (qTx M0 s j)
          have s15 : M 1 5 = 2 := (e5 1 (by decide) 5).trans rfl
          refine wp_iload (pc := 34) d_Aligner_trace_34 rfl ?_
          refine wp_bipush (pc := 36) d_Aligner_trace_36 rfl ?_
          refine wp_imul (pc := 38) d_Aligner_trace_38 (by omega) (by omega) ?_
          refine wp_iload (pc := 39) d_Aligner_trace_39 rfl ?_
          refine wp_iadd (pc := 41) d_Aligner_trace_41 (by omega) (by omega) ?_
          refine wp_ist7 (pc := 42) d_Aligner_trace_42 rfl ?_
          refine wp_aload_n (pc := 44) d_Aligner_trace_44 rfl ?_
          refine wp_iload (pc := 45) d_Aligner_trace_45 rfl ?_
          refine wp_callV1f (pc := 47) d_Aligner_trace_47 rfl rfl ht.1 rfl rfl (c_Text_at ht (by omega)) ?_
          rw [show (if 0 ≤ i ∧ i < M t 1 then M (t + 1) i.toNat else -1) = qTx M0 t i from f1 i]
          refine wp_aload_n (pc := 50) d_Aligner_trace_50 rfl ?_
          refine wp_iload (pc := 51) d_Aligner_trace_51 rfl ?_
          refine wp_callV1f (pc := 53) d_Aligner_trace_53 rfl rfl hs.1 rfl rfl (c_Text_at hs (by omega)) ?_
          rw [show (if 0 ≤ j ∧ j < M s 1 then M (s + 1) j.toNat else -1) = qTx M0 s j from f2 j]
          refine wp_callS2f (pc := 56) d_Aligner_trace_56 rfl rfl rfl rfl rfl (c_Ar_kind e5 (by have := b1 i; omega) (by have := b2 j; omega)) ?_
          refine wp_ist8 (pc := 59) d_Aligner_trace_59 rfl ?_
          refine wp_iload (pc := 61) d_Aligner_trace_61 rfl ?_
          refine wp_aload_n (pc := 63) d_Aligner_trace_63 rfl ?_
          refine wp_callV0f (pc := 64) d_Aligner_trace_64 rfl rfl ht.1 rfl rfl (c_Text_size ht) ?_
          refine wp_icmp_ge (tgt := 74) (pc := 67) d_Aligner_trace_67 rfl (fun c67 => ?_) (fun c67 => ?_)
          · refine wp_iconst (pc := 74) d_Aligner_trace_74 rfl ?_
            refine wp_ist9 (pc := 75) d_Aligner_trace_75 rfl ?_
            refine wp_iload (pc := 77) d_Aligner_trace_77 rfl ?_
            refine wp_aload_n (pc := 79) d_Aligner_trace_79 rfl ?_
            refine wp_callV0f (pc := 80) d_Aligner_trace_80 rfl rfl hs.1 rfl rfl (c_Text_size hs) ?_
            refine wp_icmp_ge (tgt := 90) (pc := 83) d_Aligner_trace_83 rfl (fun c83 => ?_) (fun c83 => ?_)
            · refine wp_iconst (pc := 90) d_Aligner_trace_90 rfl ?_
              refine wp_ist10 (pc := 91) d_Aligner_trace_91 rfl ?_
              refine wp_iload (pc := 93) d_Aligner_trace_93 rfl ?_
              refine wp_if_eq (tgt := 147) (pc := 95) d_Aligner_trace_95 rfl (fun c95 => ?_) (fun c95 => ?_)
              · refine wp_iload (pc := 147) d_Aligner_trace_147 rfl ?_
                refine wp_if_eq (tgt := 194) (pc := 149) d_Aligner_trace_149 rfl (fun c149 => ?_) (fun c149 => ?_)
                · refine wp_aload_n (pc := 194) d_Aligner_trace_194 rfl ?_
                  refine wp_bipush (pc := 195) d_Aligner_trace_195 rfl ?_
                  refine wp_callV1v (pc := 197) d_Aligner_trace_197 rfl rfl hr.1 rfl rfl (c_An_add hr e5 e7 (by rw [g5.2.1]; omega) (by rw [g5.2.1]; omega) (by omega) (by omega) hb7) (fun M197 h197 => ?_)
                  refine wp_iinc5 (pc := 200) d_Aligner_trace_200 rfl (by omega) (by omega) ?_
                  refine wp_iinc6 (pc := 203) d_Aligner_trace_203 rfl (by omega) (by omega) ?_
                  refine wp_goto (tgt := 9) (pc := 206) d_Aligner_trace_206 rfl ?_
                  have hdc : qDc (qTx M0 t) (qTx M0 s) (M0 t 1) (M0 s 1) b i j = 2 := by unfold qDc; rw [if_neg (by omega), if_neg (by omega)]
                  have hst9 : qSt (qTx M0 t) (qTx M0 s) (M0 t 1) (M0 s 1) b k = 2 := by unfold qSt; rw [← g2, ← g3]; exact hdc
                  have hkd : qKd (qTx M0 t) (qTx M0 s) (M0 t 1) (M0 s 1) b k = 6 := by unfold qKd; rw [hst9]; rw [if_neg (by decide), if_neg (by decide)]
                  refine ih (k + 1) i (j + 1) (x + 1) _ _ _ _ _ (by omega) (by omega) (by omega) ?_ ?_ (fun t9 ht9 => ?_) (g5.add (x := 6) hkd.symm (by rw [hst9]; first | rfl | (rcases zKp_in (qTx M0 t i) (qTx M0 s j) with z | z | z <;> rw [z] <;> rfl)) (by first | omega | (rcases zKp_in (qTx M0 t i) (qTx M0 s j) with z | z | z <;> rw [z] <;> decide)) (by first | omega | (rcases zKp_in (qTx M0 t i) (qTx M0 s j) with z | z | z <;> rw [z] <;> decide)) h197)
                  · simp only [qPs]; rw [← g2, ← g3, hdc]; first | rfl | (rw [if_neg (by decide)]) | (rw [if_pos rfl, Int.add_zero])
                  · simp only [qPs]; rw [← g2, ← g3, hdc]; first | rfl | (rw [if_neg (by decide)]) | (rw [if_pos rfl, Int.add_zero])
                  · by_cases e9 : t9 = k
                    · rw [e9, ← g2, ← g3]; omega
                    · exact g4 t9 (by omega)
                · exact absurd c149 (by decide)
              · exact absurd c95 (by decide)
            · refine wp_iconst (pc := 86) d_Aligner_trace_86 rfl ?_
              refine wp_goto (tgt := 91) (pc := 87) d_Aligner_trace_87 rfl ?_
              refine wp_ist10 (pc := 91) d_Aligner_trace_91 rfl ?_
              refine wp_iload (pc := 93) d_Aligner_trace_93 rfl ?_
              refine wp_if_eq (tgt := 147) (pc := 95) d_Aligner_trace_95 rfl (fun c95 => ?_) (fun c95 => ?_)
              · refine wp_iload (pc := 147) d_Aligner_trace_147 rfl ?_
                refine wp_if_eq (tgt := 194) (pc := 149) d_Aligner_trace_149 rfl (fun c149 => ?_) (fun c149 => ?_)
                · refine wp_aload_n (pc := 194) d_Aligner_trace_194 rfl ?_
                  refine wp_bipush (pc := 195) d_Aligner_trace_195 rfl ?_
                  refine wp_callV1v (pc := 197) d_Aligner_trace_197 rfl rfl hr.1 rfl rfl (c_An_add hr e5 e7 (by rw [g5.2.1]; omega) (by rw [g5.2.1]; omega) (by omega) (by omega) hb7) (fun M197 h197 => ?_)
                  refine wp_iinc5 (pc := 200) d_Aligner_trace_200 rfl (by omega) (by omega) ?_
                  refine wp_iinc6 (pc := 203) d_Aligner_trace_203 rfl (by omega) (by omega) ?_
                  refine wp_goto (tgt := 9) (pc := 206) d_Aligner_trace_206 rfl ?_
                  have hdc : qDc (qTx M0 t) (qTx M0 s) (M0 t 1) (M0 s 1) b i j = 2 := by unfold qDc; rw [if_neg (by omega), if_neg (by omega)]
                  have hst9 : qSt (qTx M0 t) (qTx M0 s) (M0 t 1) (M0 s 1) b k = 2 := by unfold qSt; rw [← g2, ← g3]; exact hdc
                  have hkd : qKd (qTx M0 t) (qTx M0 s) (M0 t 1) (M0 s 1) b k = 6 := by unfold qKd; rw [hst9]; rw [if_neg (by decide), if_neg (by decide)]
                  refine ih (k + 1) i (j + 1) (x + 1) _ _ _ _ _ (by omega) (by omega) (by omega) ?_ ?_ (fun t9 ht9 => ?_) (g5.add (x := 6) hkd.symm (by rw [hst9]; first | rfl | (rcases zKp_in (qTx M0 t i) (qTx M0 s j) with z | z | z <;> rw [z] <;> rfl)) (by first | omega | (rcases zKp_in (qTx M0 t i) (qTx M0 s j) with z | z | z <;> rw [z] <;> decide)) (by first | omega | (rcases zKp_in (qTx M0 t i) (qTx M0 s j) with z | z | z <;> rw [z] <;> decide)) h197)
                  · simp only [qPs]; rw [← g2, ← g3, hdc]; first | rfl | (rw [if_neg (by decide)]) | (rw [if_pos rfl, Int.add_zero])
                  · simp only [qPs]; rw [← g2, ← g3, hdc]; first | rfl | (rw [if_neg (by decide)]) | (rw [if_pos rfl, Int.add_zero])
                  · by_cases e9 : t9 = k
                    · rw [e9, ← g2, ← g3]; omega
                    · exact g4 t9 (by omega)
                · exact absurd c149 (by decide)
              · exact absurd c95 (by decide)
          · refine wp_iconst (pc := 70) d_Aligner_trace_70 rfl ?_
            refine wp_goto (tgt := 75) (pc := 71) d_Aligner_trace_71 rfl ?_
            refine wp_ist9 (pc := 75) d_Aligner_trace_75 rfl ?_
            refine wp_iload (pc := 77) d_Aligner_trace_77 rfl ?_
            refine wp_aload_n (pc := 79) d_Aligner_trace_79 rfl ?_
            refine wp_callV0f (pc := 80) d_Aligner_trace_80 rfl rfl hs.1 rfl rfl (c_Text_size hs) ?_
            refine wp_icmp_ge (tgt := 90) (pc := 83) d_Aligner_trace_83 rfl (fun c83 => ?_) (fun c83 => ?_)
            · refine wp_iconst (pc := 90) d_Aligner_trace_90 rfl ?_
              refine wp_ist10 (pc := 91) d_Aligner_trace_91 rfl ?_
              refine wp_iload (pc := 93) d_Aligner_trace_93 rfl ?_
              refine wp_if_eq (tgt := 147) (pc := 95) d_Aligner_trace_95 rfl (fun c95 => ?_) (fun c95 => ?_)
              · exact absurd c95 (by decide)
              · refine wp_iload (pc := 98) d_Aligner_trace_98 rfl ?_
                refine wp_if_eq (tgt := 147) (pc := 100) d_Aligner_trace_100 rfl (fun c100 => ?_) (fun c100 => ?_)
                · refine wp_iload (pc := 147) d_Aligner_trace_147 rfl ?_
                  refine wp_if_eq (tgt := 194) (pc := 149) d_Aligner_trace_149 rfl (fun c149 => ?_) (fun c149 => ?_)
                  · exact absurd c149 (by decide)
                  · refine wp_iload (pc := 152) d_Aligner_trace_152 rfl ?_
                    refine wp_if_eq (tgt := 183) (pc := 154) d_Aligner_trace_154 rfl (fun c154 => ?_) (fun c154 => ?_)
                    · refine wp_aload_n (pc := 183) d_Aligner_trace_183 rfl ?_
                      refine wp_iconst (pc := 184) d_Aligner_trace_184 rfl ?_
                      refine wp_callV1v (pc := 185) d_Aligner_trace_185 rfl rfl hr.1 rfl rfl (c_An_add hr e5 e7 (by rw [g5.2.1]; omega) (by rw [g5.2.1]; omega) (by omega) (by omega) hb7) (fun M185 h185 => ?_)
                      refine wp_iinc4 (pc := 188) d_Aligner_trace_188 rfl (by omega) (by omega) ?_
                      refine wp_goto (tgt := 203) (pc := 191) d_Aligner_trace_191 rfl ?_
                      refine wp_iinc6 (pc := 203) d_Aligner_trace_203 rfl (by omega) (by omega) ?_
                      refine wp_goto (tgt := 9) (pc := 206) d_Aligner_trace_206 rfl ?_
                      have hdc : qDc (qTx M0 t) (qTx M0 s) (M0 t 1) (M0 s 1) b i j = 1 := by unfold qDc; rw [if_neg (by omega), if_pos (by omega)]
                      have hst9 : qSt (qTx M0 t) (qTx M0 s) (M0 t 1) (M0 s 1) b k = 1 := by unfold qSt; rw [← g2, ← g3]; exact hdc
                      have hkd : qKd (qTx M0 t) (qTx M0 s) (M0 t 1) (M0 s 1) b k = 5 := by unfold qKd; rw [hst9]; rw [if_neg (by decide), if_pos rfl]
                      refine ih (k + 1) (i + 1) j (x + 1) _ _ _ _ _ (by omega) (by omega) (by omega) ?_ ?_ (fun t9 ht9 => ?_) (g5.add (x := 5) hkd.symm (by rw [hst9]; first | rfl | (rcases zKp_in (qTx M0 t i) (qTx M0 s j) with z | z | z <;> rw [z] <;> rfl)) (by first | omega | (rcases zKp_in (qTx M0 t i) (qTx M0 s j) with z | z | z <;> rw [z] <;> decide)) (by first | omega | (rcases zKp_in (qTx M0 t i) (qTx M0 s j) with z | z | z <;> rw [z] <;> decide)) h185)
                      · simp only [qPs]; rw [← g2, ← g3, hdc]; first | rfl | (rw [if_neg (by decide)]) | (rw [if_pos rfl, Int.add_zero])
                      · simp only [qPs]; rw [← g2, ← g3, hdc]; first | rfl | (rw [if_neg (by decide)]) | (rw [if_pos rfl, Int.add_zero])
                      · by_cases e9 : t9 = k
                        · rw [e9, ← g2, ← g3]; omega
                        · exact g4 t9 (by omega)
                    · exact absurd c154 (by decide)
                · exact absurd c100 (by decide)
            · refine wp_iconst (pc := 86) d_Aligner_trace_86 rfl ?_
              refine wp_goto (tgt := 91) (pc := 87) d_Aligner_trace_87 rfl ?_
              refine wp_ist10 (pc := 91) d_Aligner_trace_91 rfl ?_
              refine wp_iload (pc := 93) d_Aligner_trace_93 rfl ?_
              refine wp_if_eq (tgt := 147) (pc := 95) d_Aligner_trace_95 rfl (fun c95 => ?_) (fun c95 => ?_)
              · exact absurd c95 (by decide)
              · refine wp_iload (pc := 98) d_Aligner_trace_98 rfl ?_
                refine wp_if_eq (tgt := 147) (pc := 100) d_Aligner_trace_100 rfl (fun c100 => ?_) (fun c100 => ?_)
                · exact absurd c100 (by decide)
                · refine wp_aload_n (pc := 103) d_Aligner_trace_103 rfl ?_
                  refine wp_getR (pc := 104) d_Aligner_trace_104 rfl (zk_10 L) zx_10_0 ?_
                  refine wp_iload (pc := 107) d_Aligner_trace_107 rfl ?_
                  refine wp_iald (pc := 109) d_Aligner_trace_109 (zk_11 L) (by omega) (by omega) ?_
                  rw [t0]
                  refine wp_getS (pc := 110) d_Aligner_trace_110 rfl ?_
                  refine wp_iload (pc := 113) d_Aligner_trace_113 rfl ?_
                  refine wp_iald (pc := 115) d_Aligner_trace_115 (zk_1 L) (by omega) (by omega) ?_
                  rw [zSt_1 e5 (by omega) (by omega)]
                  refine wp_aload_n (pc := 116) d_Aligner_trace_116 rfl ?_
                  refine wp_getR (pc := 117) d_Aligner_trace_117 rfl (zk_10 L) zx_10_0 ?_
                  refine wp_iload (pc := 120) d_Aligner_trace_120 rfl ?_
                  refine wp_bipush (pc := 122) d_Aligner_trace_122 rfl ?_
                  refine wp_iadd (pc := 124) d_Aligner_trace_124 (by omega) (by omega) ?_
                  refine wp_iconst (pc := 125) d_Aligner_trace_125 rfl ?_
                  refine wp_iadd (pc := 126) d_Aligner_trace_126 (by omega) (by omega) ?_
                  refine wp_iald (pc := 127) d_Aligner_trace_127 (zk_11 L) (by omega) (by omega) ?_
                  rw [t1]
                  refine wp_iadd (pc := 128) d_Aligner_trace_128 (by omega) (by omega) ?_
                  refine wp_icmp_ne (tgt := 147) (pc := 129) d_Aligner_trace_129 rfl (fun c129 => ?_) (fun c129 => ?_)
                  · refine wp_iload (pc := 147) d_Aligner_trace_147 rfl ?_
                    refine wp_if_eq (tgt := 194) (pc := 149) d_Aligner_trace_149 rfl (fun c149 => ?_) (fun c149 => ?_)
                    · exact absurd c149 (by decide)
                    · refine wp_iload (pc := 152) d_Aligner_trace_152 rfl ?_
                      refine wp_if_eq (tgt := 183) (pc := 154) d_Aligner_trace_154 rfl (fun c154 => ?_) (fun c154 => ?_)
                      · exact absurd c154 (by decide)
                      · refine wp_aload_n (pc := 157) d_Aligner_trace_157 rfl ?_
                        refine wp_getR (pc := 158) d_Aligner_trace_158 rfl (zk_10 L) zx_10_0 ?_
                        refine wp_iload (pc := 161) d_Aligner_trace_161 rfl ?_
                        refine wp_iald (pc := 163) d_Aligner_trace_163 (zk_11 L) (by omega) (by omega) ?_
                        rw [t0]
                        refine wp_getS (pc := 164) d_Aligner_trace_164 rfl ?_
                        refine wp_iconst (pc := 167) d_Aligner_trace_167 rfl ?_
                        refine wp_ialdc 5 (pc := 168) d_Aligner_trace_168 (zk_1 L) rfl rfl ?_
                        rw [s15]
                        refine wp_aload_n (pc := 169) d_Aligner_trace_169 rfl ?_
                        refine wp_getR (pc := 170) d_Aligner_trace_170 rfl (zk_10 L) zx_10_0 ?_
                        refine wp_iload (pc := 173) d_Aligner_trace_173 rfl ?_
                        refine wp_bipush (pc := 175) d_Aligner_trace_175 rfl ?_
                        refine wp_iadd (pc := 177) d_Aligner_trace_177 (by omega) (by omega) ?_
                        refine wp_iald (pc := 178) d_Aligner_trace_178 (zk_11 L) (by omega) (by omega) ?_
                        rw [t2]
                        refine wp_iadd (pc := 179) d_Aligner_trace_179 (by omega) (by omega) ?_
                        refine wp_icmp_ne (tgt := 194) (pc := 180) d_Aligner_trace_180 rfl (fun c180 => ?_) (fun c180 => ?_)
                        · refine wp_aload_n (pc := 194) d_Aligner_trace_194 rfl ?_
                          refine wp_bipush (pc := 195) d_Aligner_trace_195 rfl ?_
                          refine wp_callV1v (pc := 197) d_Aligner_trace_197 rfl rfl hr.1 rfl rfl (c_An_add hr e5 e7 (by rw [g5.2.1]; omega) (by rw [g5.2.1]; omega) (by omega) (by omega) hb7) (fun M197 h197 => ?_)
                          refine wp_iinc5 (pc := 200) d_Aligner_trace_200 rfl (by omega) (by omega) ?_
                          refine wp_iinc6 (pc := 203) d_Aligner_trace_203 rfl (by omega) (by omega) ?_
                          refine wp_goto (tgt := 9) (pc := 206) d_Aligner_trace_206 rfl ?_
                          have hdc : qDc (qTx M0 t) (qTx M0 s) (M0 t 1) (M0 s 1) b i j = 2 := by unfold qDc; rw [if_neg (by omega), if_neg (by omega)]
                          have hst9 : qSt (qTx M0 t) (qTx M0 s) (M0 t 1) (M0 s 1) b k = 2 := by unfold qSt; rw [← g2, ← g3]; exact hdc
                          have hkd : qKd (qTx M0 t) (qTx M0 s) (M0 t 1) (M0 s 1) b k = 6 := by unfold qKd; rw [hst9]; rw [if_neg (by decide), if_neg (by decide)]
                          refine ih (k + 1) i (j + 1) (x + 1) _ _ _ _ _ (by omega) (by omega) (by omega) ?_ ?_ (fun t9 ht9 => ?_) (g5.add (x := 6) hkd.symm (by rw [hst9]; first | rfl | (rcases zKp_in (qTx M0 t i) (qTx M0 s j) with z | z | z <;> rw [z] <;> rfl)) (by first | omega | (rcases zKp_in (qTx M0 t i) (qTx M0 s j) with z | z | z <;> rw [z] <;> decide)) (by first | omega | (rcases zKp_in (qTx M0 t i) (qTx M0 s j) with z | z | z <;> rw [z] <;> decide)) h197)
                          · simp only [qPs]; rw [← g2, ← g3, hdc]; first | rfl | (rw [if_neg (by decide)]) | (rw [if_pos rfl, Int.add_zero])
                          · simp only [qPs]; rw [← g2, ← g3, hdc]; first | rfl | (rw [if_neg (by decide)]) | (rw [if_pos rfl, Int.add_zero])
                          · by_cases e9 : t9 = k
                            · rw [e9, ← g2, ← g3]; omega
                            · exact g4 t9 (by omega)
                        · refine wp_aload_n (pc := 183) d_Aligner_trace_183 rfl ?_
                          refine wp_iconst (pc := 184) d_Aligner_trace_184 rfl ?_
                          refine wp_callV1v (pc := 185) d_Aligner_trace_185 rfl rfl hr.1 rfl rfl (c_An_add hr e5 e7 (by rw [g5.2.1]; omega) (by rw [g5.2.1]; omega) (by omega) (by omega) hb7) (fun M185 h185 => ?_)
                          refine wp_iinc4 (pc := 188) d_Aligner_trace_188 rfl (by omega) (by omega) ?_
                          refine wp_goto (tgt := 203) (pc := 191) d_Aligner_trace_191 rfl ?_
                          refine wp_iinc6 (pc := 203) d_Aligner_trace_203 rfl (by omega) (by omega) ?_
                          refine wp_goto (tgt := 9) (pc := 206) d_Aligner_trace_206 rfl ?_
                          have hdc : qDc (qTx M0 t) (qTx M0 s) (M0 t 1) (M0 s 1) b i j = 1 := by unfold qDc; rw [if_neg (by omega), if_pos (by omega)]
                          have hst9 : qSt (qTx M0 t) (qTx M0 s) (M0 t 1) (M0 s 1) b k = 1 := by unfold qSt; rw [← g2, ← g3]; exact hdc
                          have hkd : qKd (qTx M0 t) (qTx M0 s) (M0 t 1) (M0 s 1) b k = 5 := by unfold qKd; rw [hst9]; rw [if_neg (by decide), if_pos rfl]
                          refine ih (k + 1) (i + 1) j (x + 1) _ _ _ _ _ (by omega) (by omega) (by omega) ?_ ?_ (fun t9 ht9 => ?_) (g5.add (x := 5) hkd.symm (by rw [hst9]; first | rfl | (rcases zKp_in (qTx M0 t i) (qTx M0 s j) with z | z | z <;> rw [z] <;> rfl)) (by first | omega | (rcases zKp_in (qTx M0 t i) (qTx M0 s j) with z | z | z <;> rw [z] <;> decide)) (by first | omega | (rcases zKp_in (qTx M0 t i) (qTx M0 s j) with z | z | z <;> rw [z] <;> decide)) h185)
                          · simp only [qPs]; rw [← g2, ← g3, hdc]; first | rfl | (rw [if_neg (by decide)]) | (rw [if_pos rfl, Int.add_zero])
                          · simp only [qPs]; rw [← g2, ← g3, hdc]; first | rfl | (rw [if_neg (by decide)]) | (rw [if_pos rfl, Int.add_zero])
                          · by_cases e9 : t9 = k
                            · rw [e9, ← g2, ← g3]; omega
                            · exact g4 t9 (by omega)
                  · refine wp_aload_n (pc := 132) d_Aligner_trace_132 rfl ?_
                    refine wp_iload (pc := 133) d_Aligner_trace_133 rfl ?_
                    refine wp_callV1v (pc := 135) d_Aligner_trace_135 rfl rfl hr.1 rfl rfl (c_An_add hr e5 e7 (by rw [g5.2.1]; omega) (by rw [g5.2.1]; omega) (by omega) (by omega) hb7) (fun M135 h135 => ?_)
                    refine wp_iinc4 (pc := 138) d_Aligner_trace_138 rfl (by omega) (by omega) ?_
                    refine wp_iinc5 (pc := 141) d_Aligner_trace_141 rfl (by omega) (by omega) ?_
                    refine wp_goto (tgt := 203) (pc := 144) d_Aligner_trace_144 rfl ?_
                    refine wp_iinc6 (pc := 203) d_Aligner_trace_203 rfl (by omega) (by omega) ?_
                    refine wp_goto (tgt := 9) (pc := 206) d_Aligner_trace_206 rfl ?_
                    have hdc : qDc (qTx M0 t) (qTx M0 s) (M0 t 1) (M0 s 1) b i j = 0 := by unfold qDc; rw [if_pos ⟨by omega, by omega, by omega⟩]
                    have hst9 : qSt (qTx M0 t) (qTx M0 s) (M0 t 1) (M0 s 1) b k = 0 := by unfold qSt; rw [← g2, ← g3]; exact hdc
                    have hkd : qKd (qTx M0 t) (qTx M0 s) (M0 t 1) (M0 s 1) b k = zKp (qTx M0 t i) (qTx M0 s j) := by unfold qKd; rw [hst9]; rw [if_pos rfl, ← g2, ← g3]
                    refine ih (k + 1) (i + 1) (j + 1) (x + 1) _ _ _ _ _ (by omega) (by omega) (by omega) ?_ ?_ (fun t9 ht9 => ?_) (g5.add (x := zKp (qTx M0 t i) (qTx M0 s j)) hkd.symm (by rw [hst9]; first | rfl | (rcases zKp_in (qTx M0 t i) (qTx M0 s j) with z | z | z <;> rw [z] <;> rfl)) (by first | omega | (rcases zKp_in (qTx M0 t i) (qTx M0 s j) with z | z | z <;> rw [z] <;> decide)) (by first | omega | (rcases zKp_in (qTx M0 t i) (qTx M0 s j) with z | z | z <;> rw [z] <;> decide)) h135)
                    · simp only [qPs]; rw [← g2, ← g3, hdc]; first | rfl | (rw [if_neg (by decide)]) | (rw [if_pos rfl, Int.add_zero])
                    · simp only [qPs]; rw [← g2, ← g3, hdc]; first | rfl | (rw [if_neg (by decide)]) | (rw [if_pos rfl, Int.add_zero])
                    · by_cases e9 : t9 = k
                      · rw [e9, ← g2, ← g3]; omega
                      · exact g4 t9 (by omega)
end ZAr
