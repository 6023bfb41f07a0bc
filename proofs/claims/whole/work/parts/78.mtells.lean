/-! what the model tells of states and copies: the counts -/
theorem qB_n {b : Bool} (h : qB b = 0) : ¬ b = true := by rw [qB_0 h]; decide
section ZM8
variable {L : Nat} {M : zM} {D : qDt} {Y : qYt} {g : qPt} {x y z w c p s i j : Int}
theorem c_M_readingOf (h : mH M D) (hd : mDi D) (hs : mSt M D) (x0 : 0 ≤ x) (x1 : x < uN D) (p0 : 0 ≤ p) (p1 : p < uPl D) : Cf L 0 zm_M_readingOf [rV 174, iV x, iV p] M (iV (uRS D x p)) M := by
  show wp L _ zm_M_readingOf 0 [rV 174, iV x, iV p] [] M _
  have hd1 := hd.1
  have hn := uN_m hd
  have hp := hd.pl
  have e20 : M 174 20 = uN D := hs.1.1
  have e2 := h.1
  obtain ⟨f1, f2, f3, f4⟩ := hs.1.f hd x0 x1
  refine wp_aload_n (pc := 0) d_M_readingOf_0 rfl ?_
  refine wp_getR (pc := 1) d_M_readingOf_1 rfl (zk_174 L) zx_174_18 ?_
  refine wp_bipush (pc := 4) d_M_readingOf_4 rfl ?_
  refine wp_aload_n (pc := 6) d_M_readingOf_6 rfl ?_
  refine wp_getR (pc := 7) d_M_readingOf_7 rfl (zk_174 L) zx_174_22 ?_
  refine wp_iload_n (pc := 10) d_M_readingOf_10 rfl ?_
  refine wp_iald (pc := 11) d_M_readingOf_11 (zk_187 L) (by omega) (by omega) ?_
  rw [f1]
  refine wp_imul (pc := 12) d_M_readingOf_12 (by omega) (by omega) ?_
  refine wp_iload_n (pc := 13) d_M_readingOf_13 rfl ?_
  refine wp_iadd (pc := 14) d_M_readingOf_14 (by omega) (by omega) ?_
  refine wp_iald (pc := 15) d_M_readingOf_15 (zk_184 L) (by omega) (by omega) ?_
  refine wp_ireturn (pc := 16) d_M_readingOf_16 rfl ?_
  refine ⟨?_, rfl⟩
  unfold uRS
  rw [if_pos ⟨x0, x1⟩, ← f4 p p0 p1]
theorem lp_M_isTurned (h : mH M D) (hd : mDi D) (hs : mSt M D) (x0 : 0 ≤ x) (x1 : x < uN D) (p0 : 0 ≤ p) (p1 : p < uPl D) {W : Int} : ∀ (n9 : Nat) (n : Nat) (a : Int), (n : Int) < n9 → (a = -1 ∨ (0 ≤ a ∧ a < uN D) ∧ (uT D).2.2 a < n) → (uGl D p (uRS D x p) n a = W) → wp L 1 zm_M_isTurned 36 [rV 174, iV x, iV p, iV a] [] M (fun r M' => r = some (iV W) ∧ M' = M) := by
  intro n9
  induction n9 with
  | zero =>
    intro n  a  h9 g1 g2
    exact absurd h9 (by omega)
  | succ n9 ih =>
    intro n  a  h9 g1 g2
    have hd1 := hd.1
    have hn := uN_m hd
    have hp := hd.pl
    have e20 : M 174 20 = uN D := hs.1.1
    have e2 := h.1
    refine wp_iload_n (pc := 36) d_M_isTurned_36 rfl ?_
    refine wp_iconst (pc := 37) d_M_isTurned_37 rfl ?_
    refine wp_icmp_eq (tgt := 66) (pc := 38) d_M_isTurned_38 rfl (fun c38 => ?_) (fun c38 => ?_)
    · refine wp_iload_n (pc := 66) d_M_isTurned_66 rfl ?_
      refine wp_iconst (pc := 67) d_M_isTurned_67 rfl ?_
      refine wp_icmp_eq (tgt := 75) (pc := 68) d_M_isTurned_68 rfl (fun c68 => ?_) (fun c68 => ?_)
      · refine wp_iconst (pc := 75) d_M_isTurned_75 rfl ?_
        refine wp_zreturn (pc := 76) d_M_isTurned_76 rfl (by omega) ?_
        refine ⟨?_, rfl⟩
        first
        | (exfalso; omega)
        | (have ea : a = -1 := by omega
           rw [← g2, ea, uGl_n])
        | (obtain ⟨m, rfl⟩ : ∃ m, n = m + 1 := ⟨n - 1, by have := (uT_p hd (show 0 ≤ a by omega) (by omega)).2.1; omega⟩
           simp only [uGl] at g2
           rw [if_neg (by omega), if_pos c53] at g2
           rw [← g2])
      · refine wp_iconst (pc := 71) d_M_isTurned_71 rfl ?_
        refine wp_goto (tgt := 76) (pc := 72) d_M_isTurned_72 rfl ?_
        refine wp_zreturn (pc := 76) d_M_isTurned_76 rfl (by omega) ?_
        refine ⟨?_, rfl⟩
        first
        | (exfalso; omega)
        | (have ea : a = -1 := by omega
           rw [← g2, ea, uGl_n])
        | (obtain ⟨m, rfl⟩ : ∃ m, n = m + 1 := ⟨n - 1, by have := (uT_p hd (show 0 ≤ a by omega) (by omega)).2.1; omega⟩
           simp only [uGl] at g2
           rw [if_neg (by omega), if_pos c53] at g2
           rw [← g2])
    · refine wp_aload_n (pc := 41) d_M_isTurned_41 rfl ?_
      refine wp_iload_n (pc := 42) d_M_isTurned_42 rfl ?_
      refine wp_iload_n (pc := 43) d_M_isTurned_43 rfl ?_
      refine wp_callV2f (pc := 44) d_M_isTurned_44 rfl rfl (zk_174 L) rfl rfl (c_M_readingOf h hd hs (by omega) (by omega) p0 p1) ?_
      refine wp_aload_n (pc := 47) d_M_isTurned_47 rfl ?_
      refine wp_iload_n (pc := 48) d_M_isTurned_48 rfl ?_
      refine wp_iload_n (pc := 49) d_M_isTurned_49 rfl ?_
      refine wp_callV2f (pc := 50) d_M_isTurned_50 rfl rfl (zk_174 L) rfl rfl (c_M_readingOf h hd hs x0 x1 p0 p1) ?_
      refine wp_icmp_eq (tgt := 66) (pc := 53) d_M_isTurned_53 rfl (fun c53 => ?_) (fun c53 => ?_)
      · refine wp_iload_n (pc := 66) d_M_isTurned_66 rfl ?_
        refine wp_iconst (pc := 67) d_M_isTurned_67 rfl ?_
        refine wp_icmp_eq (tgt := 75) (pc := 68) d_M_isTurned_68 rfl (fun c68 => ?_) (fun c68 => ?_)
        · refine wp_iconst (pc := 75) d_M_isTurned_75 rfl ?_
          refine wp_zreturn (pc := 76) d_M_isTurned_76 rfl (by omega) ?_
          refine ⟨?_, rfl⟩
          first
          | (exfalso; omega)
          | (have ea : a = -1 := by omega
             rw [← g2, ea, uGl_n])
          | (obtain ⟨m, rfl⟩ : ∃ m, n = m + 1 := ⟨n - 1, by have := (uT_p hd (show 0 ≤ a by omega) (by omega)).2.1; omega⟩
             simp only [uGl] at g2
             rw [if_neg (by omega), if_pos c53] at g2
             rw [← g2])
        · refine wp_iconst (pc := 71) d_M_isTurned_71 rfl ?_
          refine wp_goto (tgt := 76) (pc := 72) d_M_isTurned_72 rfl ?_
          refine wp_zreturn (pc := 76) d_M_isTurned_76 rfl (by omega) ?_
          refine ⟨?_, rfl⟩
          first
          | (exfalso; omega)
          | (have ea : a = -1 := by omega
             rw [← g2, ea, uGl_n])
          | (obtain ⟨m, rfl⟩ : ∃ m, n = m + 1 := ⟨n - 1, by have := (uT_p hd (show 0 ≤ a by omega) (by omega)).2.1; omega⟩
             simp only [uGl] at g2
             rw [if_neg (by omega), if_pos c53] at g2
             rw [← g2])
      · refine wp_aload_n (pc := 56) d_M_isTurned_56 rfl ?_
        refine wp_getR (pc := 57) d_M_isTurned_57 rfl (zk_174 L) zx_174_23 ?_
        refine wp_iload_n (pc := 60) d_M_isTurned_60 rfl ?_
        refine wp_iald (pc := 61) d_M_isTurned_61 (zk_188 L) (by omega) (by omega) ?_
        rw [(hs.2 a (by omega) (by omega)).1]
        refine wp_ist3 (pc := 62) d_M_isTurned_62 rfl ?_
        refine wp_goto (tgt := 36) (pc := 63) d_M_isTurned_63 rfl ?_
        have hj := uT_p hd (show 0 ≤ a by omega) (by omega)
        have hu := uT_u hd (show 0 ≤ a by omega) (by omega)
        obtain ⟨m, rfl⟩ : ∃ m, n = m + 1 := ⟨n - 1, by omega⟩
        refine ih m _ (by omega) (by omega) ?_
        simp only [uGl] at g2
        rw [if_neg (by omega), if_neg c53, hj.1] at g2
        exact g2
theorem c_M_isTurned (h : mH M D) (hd : mDi D) (hs : mSt M D) (x0 : 0 ≤ x) (x1 : x < uN D) (p0 : 0 ≤ p) (p1 : p < uPl D) : Cf L 1 zm_M_isTurned [rV 174, iV x, iV p] M (iV (uGb D x p)) M := by
  show wp L _ zm_M_isTurned 0 [rV 174, iV x, iV p, uV] [] M _
  have hd1 := hd.1
  have hn := uN_m hd
  have hp := hd.pl
  have e20 : M 174 20 = uN D := hs.1.1
  have e2 := h.1
  have t1 := (hs.2 x x0 x1).1
  have hx := uT_p hd x0 x1
  have hu := uT_u hd x0 x1
  refine wp_aload_n (pc := 0) d_M_isTurned_0 rfl ?_
  refine wp_getR (pc := 1) d_M_isTurned_1 rfl (zk_174 L) zx_174_23 ?_
  refine wp_iload_n (pc := 4) d_M_isTurned_4 rfl ?_
  refine wp_iald (pc := 5) d_M_isTurned_5 (zk_188 L) (by omega) (by omega) ?_
  rw [t1]
  refine wp_ist3 (pc := 6) d_M_isTurned_6 rfl ?_
  refine wp_iload_n (pc := 7) d_M_isTurned_7 rfl ?_
  refine wp_iconst (pc := 8) d_M_isTurned_8 rfl ?_
  refine wp_icmp_eq (tgt := 27) (pc := 9) d_M_isTurned_9 rfl (fun c9 => ?_) (fun c9 => ?_)
  · refine wp_iconst (pc := 27) d_M_isTurned_27 rfl ?_
    refine wp_zreturn (pc := 28) d_M_isTurned_28 rfl (by omega) ?_
    refine ⟨?_, rfl⟩
    unfold uGb
    rw [hx.1]
    first
    | rw [if_pos (Or.inl c9)]
    | rw [if_pos (Or.inr (Decidable.of_not_not c24))]
  · refine wp_aload_n (pc := 12) d_M_isTurned_12 rfl ?_
    refine wp_iload_n (pc := 13) d_M_isTurned_13 rfl ?_
    refine wp_iload_n (pc := 14) d_M_isTurned_14 rfl ?_
    refine wp_callV2f (pc := 15) d_M_isTurned_15 rfl rfl (zk_174 L) rfl rfl (c_M_readingOf h hd hs (by omega) (by omega) p0 p1) ?_
    refine wp_aload_n (pc := 18) d_M_isTurned_18 rfl ?_
    refine wp_iload_n (pc := 19) d_M_isTurned_19 rfl ?_
    refine wp_iload_n (pc := 20) d_M_isTurned_20 rfl ?_
    refine wp_callV2f (pc := 21) d_M_isTurned_21 rfl rfl (zk_174 L) rfl rfl (c_M_readingOf h hd hs x0 x1 p0 p1) ?_
    refine wp_icmp_ne (tgt := 29) (pc := 24) d_M_isTurned_24 rfl (fun c24 => ?_) (fun c24 => ?_)
    · refine wp_aload_n (pc := 29) d_M_isTurned_29 rfl ?_
      refine wp_getR (pc := 30) d_M_isTurned_30 rfl (zk_174 L) zx_174_23 ?_
      refine wp_iload_n (pc := 33) d_M_isTurned_33 rfl ?_
      refine wp_iald (pc := 34) d_M_isTurned_34 (zk_188 L) (by omega) (by omega) ?_
      rw [(hs.2 _ (by omega) (by omega)).1]
      refine wp_ist3 (pc := 35) d_M_isTurned_35 rfl ?_
      have hy := uT_p hd (show 0 ≤ (uT D).1 x by omega) (by omega)
      have hv := uT_u hd (show 0 ≤ (uT D).1 x by omega) (by omega)
      refine lp_M_isTurned h hd hs x0 x1 p0 p1 (W := uGb D x p) 100 (uN D).toNat _ (by omega) (by omega) ?_
      unfold uGb
      rw [hx.1, hy.1, if_neg (fun z => z.elim c9 c24)]
    · refine wp_iconst (pc := 27) d_M_isTurned_27 rfl ?_
      refine wp_zreturn (pc := 28) d_M_isTurned_28 rfl (by omega) ?_
      refine ⟨?_, rfl⟩
      unfold uGb
      rw [hx.1]
      first
      | rw [if_pos (Or.inl c9)]
      | rw [if_pos (Or.inr (Decidable.of_not_not c24))]
theorem lp_M_turnedMany (h : mH M D) (hd : mDi D) (hs : mSt M D) (x0 : 0 ≤ x) (x1 : x < uN D) : ∀ (n9 : Nat) (k : Nat) (v : Int), uPl D - k < n9 → ((k : Int) ≤ uPl D) → (v = qN (fun q => decide (¬ uGb D x q = 0)) k) → wp L 2 zm_M_turnedMany 4 [rV 174, iV x, iV v, iV k] [] M (fun r M' => r = some (iV (qPc (uMk D x) 24)) ∧ M' = M) := by
  intro n9
  induction n9 with
  | zero =>
    intro k  v  h9 g0 g1
    have hd1 := hd.1
    have hn := uN_m hd
    have hp := hd.pl
    have e20 : M 174 20 = uN D := hs.1.1
    have e2 := h.1
    exact absurd h9 (by omega)
  | succ n9 ih =>
    intro k  v  h9 g0 g1
    have hd1 := hd.1
    have hn := uN_m hd
    have hp := hd.pl
    have e20 : M 174 20 = uN D := hs.1.1
    have e2 := h.1
    have hv := qN_b (fun q => decide (¬ uGb D x q = 0)) k
    rw [← g1] at hv
    refine wp_iload_n (pc := 4) d_M_turnedMany_4 rfl ?_
    refine wp_aload_n (pc := 5) d_M_turnedMany_5 rfl ?_
    refine wp_callV0f (pc := 6) d_M_turnedMany_6 rfl rfl (zk_174 L) rfl rfl (c_M_places h hd) ?_
    refine wp_icmp_ge (tgt := 35) (pc := 9) d_M_turnedMany_9 rfl (fun c9 => ?_) (fun c9 => ?_)
    · refine wp_iload_n (pc := 35) d_M_turnedMany_35 rfl ?_
      refine wp_ireturn (pc := 36) d_M_turnedMany_36 rfl ?_
      refine ⟨?_, rfl⟩
      rw [g1, show k = (uPl D).toNat by omega]
      rw [uMk_n hd]
    · refine zcut (pc' := 27) (fun (v27 : Int) => v27 = if ¬ uGb D x (k : Int) = 0 then 1 else 0) (fun (v27 : Int) => [rV 174, iV x, iV v, iV (k : Int)]) (fun (v27 : Int) => [iV v27, iV v]) (fun (v27 : Int) => M) ?_ (fun K27 => ?_)
      · intro v27 h27
        show wp L _ zm_M_turnedMany 27 [rV 174, iV x, iV v, iV (k : Int)] [iV v27, iV v] (M) _
        have hv2 : v27 = 0 ∨ v27 = 1 := by rw [h27]; split <;> omega
        refine wp_iadd (pc := 27) d_M_turnedMany_27 (by omega) (by omega) ?_
        refine wp_ist2 (pc := 28) d_M_turnedMany_28 rfl ?_
        refine wp_iinc3 (pc := 29) d_M_turnedMany_29 rfl (by omega) (by omega) ?_
        refine wp_goto (tgt := 4) (pc := 32) d_M_turnedMany_32 rfl ?_
        refine ih (k + 1) _ (by omega) (by omega) ?_
        simp only [qN, decide_eq_true_eq]
        rw [← g1, h27]
      · refine wp_iload_n (pc := 12) d_M_turnedMany_12 rfl ?_
        refine wp_aload_n (pc := 13) d_M_turnedMany_13 rfl ?_
        refine wp_iload_n (pc := 14) d_M_turnedMany_14 rfl ?_
        refine wp_iload_n (pc := 15) d_M_turnedMany_15 rfl ?_
        refine wp_callV2f (pc := 16) d_M_turnedMany_16 rfl rfl (zk_174 L) rfl rfl (c_M_isTurned h hd hs x0 x1 (by omega) (by omega)) ?_
        refine wp_if_eq (tgt := 26) (pc := 19) d_M_turnedMany_19 rfl (fun c19 => ?_) (fun c19 => ?_)
        · refine wp_iconst (pc := 26) d_M_turnedMany_26 rfl ?_
          first | exact K27 _ (if_pos c19).symm | exact K27 _ (if_neg (fun z => z c19)).symm
        · refine wp_iconst (pc := 22) d_M_turnedMany_22 rfl ?_
          refine wp_goto (tgt := 27) (pc := 23) d_M_turnedMany_23 rfl ?_
          first | exact K27 _ (if_pos c19).symm | exact K27 _ (if_neg (fun z => z c19)).symm
theorem c_M_turnedMany (h : mH M D) (hd : mDi D) (hs : mSt M D) (x0 : 0 ≤ x) (x1 : x < uN D) : Cf L 2 zm_M_turnedMany [rV 174, iV x] M (iV (qPc (uMk D x) 24)) M := by
  show wp L _ zm_M_turnedMany 0 [rV 174, iV x, uV, uV] [] M _
  have hd1 := hd.1
  have hn := uN_m hd
  have hp := hd.pl
  have e20 : M 174 20 = uN D := hs.1.1
  have e2 := h.1
  refine wp_iconst (pc := 0) d_M_turnedMany_0 rfl ?_
  refine wp_ist2 (pc := 1) d_M_turnedMany_1 rfl ?_
  refine wp_iconst (pc := 2) d_M_turnedMany_2 rfl ?_
  refine wp_ist3 (pc := 3) d_M_turnedMany_3 rfl ?_
  exact lp_M_turnedMany h hd hs x0 x1 100 0 0 (by omega) (by omega) rfl
theorem c_M_moreOf (h : mH M D) (hd : mDi D) (c0 : 0 ≤ c) (c1 : c < D.2.2.2) (he : uIn D 0 c) : Ci L 5 zm_M_moreOf [rV 174, iV c] M (fun z M' => z = uTa D 0 c 6 ∧ mF mPc1 M M') := by
  show wp L _ zm_M_moreOf 0 [rV 174, iV c] [] M _
  refine wp_aload_n (pc := 0) d_M_moreOf_0 rfl ?_
  refine wp_iconst (pc := 1) d_M_moreOf_1 rfl ?_
  refine wp_iload_n (pc := 2) d_M_moreOf_2 rfl ?_
  refine wp_callV2v (pc := 3) d_M_moreOf_3 rfl rfl (zk_174 L) rfl rfl (c_M_layCollation h hd (Int.le_refl 0) (by omega) c0 c1) (fun M3 h3 => ?_)
  obtain ⟨k1, hc⟩ := h3
  have h1 : mH M3 D := h.keep k1 (by omega) (by omega) (by omega)
  have lx := hd.l (Int.le_refl 0) (show 0 < D.2.2.2 by omega)
  have ly := hd.l c0 c1
  have hd2 := hd.2.1
  have hin := mVl_in (f := D.1 0) (g := D.1 c) (n1 := D.2.1 0) (n2 := D.2.1 c) (b := D.2.2.1) lx.2 ly.2 (by omega) (by omega) hd2.1
  have hsm := mVl_sm (f := D.1 0) (g := D.1 c) (n1 := D.2.1 0) (n2 := D.2.1 c) (b := D.2.2.1) lx.2 ly.2 (Int.le_refl 0) (Int.le_refl 0)
  have e0 := hc.2.2.1
  refine wp_aload_n (pc := 6) d_M_moreOf_6 rfl ?_
  refine wp_bipush (pc := 7) d_M_moreOf_7 rfl ?_
  refine wp_callV1f (pc := 9) d_M_moreOf_9 rfl rfl (zk_174 L) rfl rfl (c_M_stepsOf h1 hd (Int.le_refl 0) (by omega) c0 c1 hc he) ?_
  refine wp_ireturn (pc := 12) d_M_moreOf_12 rfl ?_
  exact ⟨_, rfl, by unfold uTa; rw [if_pos he, if_neg (by decide), if_neg (by decide)], k1⟩
theorem c_M_costOf (h : mH M D) (hd : mDi D) (c0 : 0 ≤ c) (c1 : c < D.2.2.2) (he : uIn D 0 c) : Ci L 5 zm_M_costOf [rV 174, iV c] M (fun z M' => z = uTa D 0 c 0 ∧ mF mPc1 M M') := by
  show wp L _ zm_M_costOf 0 [rV 174, iV c] [] M _
  refine wp_aload_n (pc := 0) d_M_costOf_0 rfl ?_
  refine wp_iconst (pc := 1) d_M_costOf_1 rfl ?_
  refine wp_iload_n (pc := 2) d_M_costOf_2 rfl ?_
  refine wp_callV2v (pc := 3) d_M_costOf_3 rfl rfl (zk_174 L) rfl rfl (c_M_layCollation h hd (Int.le_refl 0) (by omega) c0 c1) (fun M3 h3 => ?_)
  obtain ⟨k1, hc⟩ := h3
  have h1 : mH M3 D := h.keep k1 (by omega) (by omega) (by omega)
  have lx := hd.l (Int.le_refl 0) (show 0 < D.2.2.2 by omega)
  have ly := hd.l c0 c1
  have hd2 := hd.2.1
  have hin := mVl_in (f := D.1 0) (g := D.1 c) (n1 := D.2.1 0) (n2 := D.2.1 c) (b := D.2.2.1) lx.2 ly.2 (by omega) (by omega) hd2.1
  have hsm := mVl_sm (f := D.1 0) (g := D.1 c) (n1 := D.2.1 0) (n2 := D.2.1 c) (b := D.2.2.1) lx.2 ly.2 (Int.le_refl 0) (Int.le_refl 0)
  have e0 := hc.2.2.1
  refine wp_aload_n (pc := 6) d_M_costOf_6 rfl ?_
  refine wp_getR (pc := 7) d_M_costOf_7 rfl (zk_174 L) zx_174_13 ?_
  refine wp_iconst (pc := 10) d_M_costOf_10 rfl ?_
  refine wp_ialdc 0 (pc := 11) d_M_costOf_11 (zk_182 L) rfl rfl ?_
  refine wp_ireturn (pc := 12) d_M_costOf_12 rfl ?_
  refine ⟨_, rfl, ?_, k1⟩
  have := hin.2 he
  unfold uTa
  rw [if_pos he, if_pos rfl, e0]
  omega
theorem lp_M_otherReadings (h : mH M D) (hd : mDi D) (hs : mSt M D) (c0 : 0 ≤ c) (c1 : c < D.2.2.2) (he : uIn D 0 c) : ∀ (n9 : Nat) (k : Nat) (v : Int), uPl D - k < n9 → ((k : Int) ≤ uPl D) → (v = qN (fun q => decide (¬ uRd D 0 q = uRd D c q)) k) → wp L 1 zm_M_otherReadings 4 [rV 174, iV c, iV v, iV k] [] M (fun r M' => r = some (iV (uDf D 0 c)) ∧ M' = M) := by
  intro n9
  induction n9 with
  | zero =>
    intro k  v  h9 g0 g1
    have hd1 := hd.1
    have hn := uN_m hd
    have hp := hd.pl
    have e20 : M 174 20 = uN D := hs.1.1
    have e2 := h.1
    exact absurd h9 (by omega)
  | succ n9 ih =>
    intro k  v  h9 g0 g1
    have hd1 := hd.1
    have hn := uN_m hd
    have hp := hd.pl
    have e20 : M 174 20 = uN D := hs.1.1
    have e2 := h.1
    have hv := qN_b (fun q => decide (¬ uRd D 0 q = uRd D c q)) k
    rw [← g1] at hv
    refine wp_iload_n (pc := 4) d_M_otherReadings_4 rfl ?_
    refine wp_aload_n (pc := 5) d_M_otherReadings_5 rfl ?_
    refine wp_callV0f (pc := 6) d_M_otherReadings_6 rfl rfl (zk_174 L) rfl rfl (c_M_places h hd) ?_
    refine wp_icmp_ge (tgt := 46) (pc := 9) d_M_otherReadings_9 rfl (fun c9 => ?_) (fun c9 => ?_)
    · refine wp_iload_n (pc := 46) d_M_otherReadings_46 rfl ?_
      refine wp_ireturn (pc := 47) d_M_otherReadings_47 rfl ?_
      refine ⟨?_, rfl⟩
      rw [g1, show k = (uPl D).toNat by omega]
      rfl
    · refine zcut (pc' := 38) (fun (v38 : Int) => v38 = if ¬ uRd D 0 (k : Int) = uRd D c (k : Int) then 1 else 0) (fun (v38 : Int) => [rV 174, iV c, iV v, iV (k : Int)]) (fun (v38 : Int) => [iV v38, iV v]) (fun (v38 : Int) => M) ?_ (fun K38 => ?_)
      · intro v38 h38
        show wp L _ zm_M_otherReadings 38 [rV 174, iV c, iV v, iV (k : Int)] [iV v38, iV v] (M) _
        have hv2 : v38 = 0 ∨ v38 = 1 := by rw [h38]; split <;> omega
        refine wp_iadd (pc := 38) d_M_otherReadings_38 (by omega) (by omega) ?_
        refine wp_ist2 (pc := 39) d_M_otherReadings_39 rfl ?_
        refine wp_iinc3 (pc := 40) d_M_otherReadings_40 rfl (by omega) (by omega) ?_
        refine wp_goto (tgt := 4) (pc := 43) d_M_otherReadings_43 rfl ?_
        refine ih (k + 1) _ (by omega) (by omega) ?_
        simp only [qN, decide_eq_true_eq]
        rw [← g1, h38]
      · refine wp_iload_n (pc := 12) d_M_otherReadings_12 rfl ?_
        refine wp_aload_n (pc := 13) d_M_otherReadings_13 rfl ?_
        refine wp_getR (pc := 14) d_M_otherReadings_14 rfl (zk_174 L) zx_174_18 ?_
        refine wp_bipush (pc := 17) d_M_otherReadings_17 rfl ?_
        refine wp_iload_n (pc := 19) d_M_otherReadings_19 rfl ?_
        refine wp_imul (pc := 20) d_M_otherReadings_20 (by omega) (by omega) ?_
        refine wp_iload_n (pc := 21) d_M_otherReadings_21 rfl ?_
        refine wp_iadd (pc := 22) d_M_otherReadings_22 (by omega) (by omega) ?_
        refine wp_iald (pc := 23) d_M_otherReadings_23 (zk_184 L) (by omega) (by omega) ?_
        rw [hs.1.2.2.2 c c0 (by omega) he (k : Int) (by omega) (by omega)]
        refine wp_aload_n (pc := 24) d_M_otherReadings_24 rfl ?_
        refine wp_iconst (pc := 25) d_M_otherReadings_25 rfl ?_
        refine wp_iload_n (pc := 26) d_M_otherReadings_26 rfl ?_
        refine wp_callV2f (pc := 27) d_M_otherReadings_27 rfl rfl (zk_174 L) rfl rfl (c_M_letterAt h hd (Int.le_refl 0) (by omega) (by omega) (by have : uPl D = D.2.1 0 := if_pos (by omega); omega)) ?_
        refine wp_icmp_ne (tgt := 37) (pc := 30) d_M_otherReadings_30 rfl (fun c30 => ?_) (fun c30 => ?_)
        · refine wp_iconst (pc := 37) d_M_otherReadings_37 rfl ?_
          have e0 := uRd_0 hd (by omega) (show 0 ≤ (k : Int) by omega) (by omega)
          first
          | exact K38 _ (if_pos (by omega)).symm
          | exact K38 _ (if_neg (by omega)).symm
        · refine wp_iconst (pc := 33) d_M_otherReadings_33 rfl ?_
          refine wp_goto (tgt := 38) (pc := 34) d_M_otherReadings_34 rfl ?_
          have e0 := uRd_0 hd (by omega) (show 0 ≤ (k : Int) by omega) (by omega)
          first
          | exact K38 _ (if_pos (by omega)).symm
          | exact K38 _ (if_neg (by omega)).symm
theorem c_M_otherReadings (h : mH M D) (hd : mDi D) (hs : mSt M D) (c0 : 0 ≤ c) (c1 : c < D.2.2.2) (he : uIn D 0 c) : Cf L 1 zm_M_otherReadings [rV 174, iV c] M (iV (uDf D 0 c)) M := by
  show wp L _ zm_M_otherReadings 0 [rV 174, iV c, uV, uV] [] M _
  have hd1 := hd.1
  have hn := uN_m hd
  have hp := hd.pl
  have e20 : M 174 20 = uN D := hs.1.1
  have e2 := h.1
  refine wp_iconst (pc := 0) d_M_otherReadings_0 rfl ?_
  refine wp_ist2 (pc := 1) d_M_otherReadings_1 rfl ?_
  refine wp_iconst (pc := 2) d_M_otherReadings_2 rfl ?_
  refine wp_ist3 (pc := 3) d_M_otherReadings_3 rfl ?_
  exact lp_M_otherReadings h hd hs c0 c1 he 100 0 0 (by omega) (by omega) rfl
theorem lp_M_outMany (h : mH M D) (hd : mDi D) (hs : mSt M D) : ∀ (n9 : Nat) (k : Nat) (v : Int), D.2.2.2 - k < n9 → ((k : Int) ≤ D.2.2.2) → (v = qN (fun q => decide (¬ uIn D 0 q)) k) → wp L 0 zm_M_outMany 4 [rV 174, iV v, iV k] [] M (fun r M' => r = some (iV (uE D)) ∧ M' = M) := by
  intro n9
  induction n9 with
  | zero =>
    intro k  v  h9 g0 g1
    have hd1 := hd.1
    have hn := uN_m hd
    have hp := hd.pl
    have e20 : M 174 20 = uN D := hs.1.1
    have e2 := h.1
    exact absurd h9 (by omega)
  | succ n9 ih =>
    intro k  v  h9 g0 g1
    have hd1 := hd.1
    have hn := uN_m hd
    have hp := hd.pl
    have e20 : M 174 20 = uN D := hs.1.1
    have e2 := h.1
    have hv := qN_b (fun q => decide (¬ uIn D 0 q)) k
    rw [← g1] at hv
    refine wp_iload_n (pc := 4) d_M_outMany_4 rfl ?_
    refine wp_aload_n (pc := 5) d_M_outMany_5 rfl ?_
    refine wp_getI (pc := 6) d_M_outMany_6 rfl (by decide) (zk_174 L) ?_
    refine wp_icmp_ge (tgt := 35) (pc := 9) d_M_outMany_9 rfl (fun c9 => ?_) (fun c9 => ?_)
    · refine wp_iload_n (pc := 35) d_M_outMany_35 rfl ?_
      refine wp_ireturn (pc := 36) d_M_outMany_36 rfl ?_
      refine ⟨?_, rfl⟩
      rw [g1, show k = D.2.2.2.toNat by omega]
      rw [uE_n]
    · refine zcut (pc' := 27) (fun (v27 : Int) => v27 = if ¬ uIn D 0 (k : Int) then 1 else 0) (fun (v27 : Int) => [rV 174, iV v, iV (k : Int)]) (fun (v27 : Int) => [iV v27, iV v]) (fun (v27 : Int) => M) ?_ (fun K27 => ?_)
      · intro v27 h27
        show wp L _ zm_M_outMany 27 [rV 174, iV v, iV (k : Int)] [iV v27, iV v] (M) _
        have hv2 : v27 = 0 ∨ v27 = 1 := by rw [h27]; split <;> omega
        refine wp_iadd (pc := 27) d_M_outMany_27 (by omega) (by omega) ?_
        refine wp_ist1 (pc := 28) d_M_outMany_28 rfl ?_
        refine wp_iinc2 (pc := 29) d_M_outMany_29 rfl (by omega) (by omega) ?_
        refine wp_goto (tgt := 4) (pc := 32) d_M_outMany_32 rfl ?_
        refine ih (k + 1) _ (by omega) (by omega) ?_
        simp only [qN, decide_eq_true_eq]
        rw [← g1, h27]
      · refine wp_iload_n (pc := 12) d_M_outMany_12 rfl ?_
        refine wp_aload_n (pc := 13) d_M_outMany_13 rfl ?_
        refine wp_getR (pc := 14) d_M_outMany_14 rfl (zk_174 L) zx_174_19 ?_
        refine wp_iload_n (pc := 17) d_M_outMany_17 rfl ?_
        refine wp_bald (pc := 18) d_M_outMany_18 (zk_185 L) (by omega) (by omega) ?_
        rw [(hs.1.2.2.1 (k : Int) (by omega) (by omega)).2]
        refine wp_if_eq (tgt := 26) (pc := 19) d_M_outMany_19 rfl (fun c19 => ?_) (fun c19 => ?_)
        · refine wp_iconst (pc := 26) d_M_outMany_26 rfl ?_
          first | exact K27 _ (if_neg (fun z => z (zc_eq0 c19))).symm | exact K27 _ (if_pos (zc_ne0 c19)).symm
        · refine wp_iconst (pc := 22) d_M_outMany_22 rfl ?_
          refine wp_goto (tgt := 27) (pc := 23) d_M_outMany_23 rfl ?_
          first | exact K27 _ (if_neg (fun z => z (zc_eq0 c19))).symm | exact K27 _ (if_pos (zc_ne0 c19)).symm
theorem c_M_outMany (h : mH M D) (hd : mDi D) (hs : mSt M D) : Cf L 0 zm_M_outMany [rV 174] M (iV (uE D)) M := by
  show wp L _ zm_M_outMany 0 [rV 174, uV, uV] [] M _
  have hd1 := hd.1
  have hn := uN_m hd
  have hp := hd.pl
  have e20 : M 174 20 = uN D := hs.1.1
  have e2 := h.1
  refine wp_iconst (pc := 0) d_M_outMany_0 rfl ?_
  refine wp_ist1 (pc := 1) d_M_outMany_1 rfl ?_
  refine wp_iconst (pc := 2) d_M_outMany_2 rfl ?_
  refine wp_ist2 (pc := 3) d_M_outMany_3 rfl ?_
  exact lp_M_outMany h hd hs 100 0 0 (by omega) (by omega) rfl
theorem lp_M_copiesIn (h : mH M D) (hd : mDi D) (hs : mSt M D) (x0 : 0 ≤ x) (x1 : x < uN D) : ∀ (n9 : Nat) (k : Nat) (v : Int), D.2.2.2 - k < n9 → ((k : Int) ≤ D.2.2.2) → (v = qN (fun q => decide (uSo D q = x)) k) → wp L 0 zm_M_copiesIn 4 [rV 174, iV x, iV v, iV k] [] M (fun r M' => r = some (iV (uMe D x)) ∧ M' = M) := by
  intro n9
  induction n9 with
  | zero =>
    intro k  v  h9 g0 g1
    have hd1 := hd.1
    have hn := uN_m hd
    have hp := hd.pl
    have e20 : M 174 20 = uN D := hs.1.1
    have e2 := h.1
    exact absurd h9 (by omega)
  | succ n9 ih =>
    intro k  v  h9 g0 g1
    have hd1 := hd.1
    have hn := uN_m hd
    have hp := hd.pl
    have e20 : M 174 20 = uN D := hs.1.1
    have e2 := h.1
    have hv := qN_b (fun q => decide (uSo D q = x)) k
    rw [← g1] at hv
    refine wp_iload_n (pc := 4) d_M_copiesIn_4 rfl ?_
    refine wp_aload_n (pc := 5) d_M_copiesIn_5 rfl ?_
    refine wp_getI (pc := 6) d_M_copiesIn_6 rfl (by decide) (zk_174 L) ?_
    refine wp_icmp_ge (tgt := 36) (pc := 9) d_M_copiesIn_9 rfl (fun c9 => ?_) (fun c9 => ?_)
    · refine wp_iload_n (pc := 36) d_M_copiesIn_36 rfl ?_
      refine wp_ireturn (pc := 37) d_M_copiesIn_37 rfl ?_
      refine ⟨?_, rfl⟩
      rw [g1, show k = D.2.2.2.toNat by omega]
      rw [uMe_n hd x0 x1]
    · refine zcut (pc' := 28) (fun (v28 : Int) => v28 = if uSo D (k : Int) = x then 1 else 0) (fun (v28 : Int) => [rV 174, iV x, iV v, iV (k : Int)]) (fun (v28 : Int) => [iV v28, iV v]) (fun (v28 : Int) => M) ?_ (fun K28 => ?_)
      · intro v28 h28
        show wp L _ zm_M_copiesIn 28 [rV 174, iV x, iV v, iV (k : Int)] [iV v28, iV v] (M) _
        have hv2 : v28 = 0 ∨ v28 = 1 := by rw [h28]; split <;> omega
        refine wp_iadd (pc := 28) d_M_copiesIn_28 (by omega) (by omega) ?_
        refine wp_ist2 (pc := 29) d_M_copiesIn_29 rfl ?_
        refine wp_iinc3 (pc := 30) d_M_copiesIn_30 rfl (by omega) (by omega) ?_
        refine wp_goto (tgt := 4) (pc := 33) d_M_copiesIn_33 rfl ?_
        refine ih (k + 1) _ (by omega) (by omega) ?_
        simp only [qN, decide_eq_true_eq]
        rw [← g1, h28]
      · refine wp_iload_n (pc := 12) d_M_copiesIn_12 rfl ?_
        refine wp_aload_n (pc := 13) d_M_copiesIn_13 rfl ?_
        refine wp_getR (pc := 14) d_M_copiesIn_14 rfl (zk_174 L) zx_174_21 ?_
        refine wp_iload_n (pc := 17) d_M_copiesIn_17 rfl ?_
        refine wp_iald (pc := 18) d_M_copiesIn_18 (zk_186 L) (by omega) (by omega) ?_
        rw [show M 186 ((k : Int)).toNat = uSo D (k : Int) from (hs.1.2.2.1 (k : Int) (by omega) (by omega)).1]
        refine wp_iload_n (pc := 19) d_M_copiesIn_19 rfl ?_
        refine wp_icmp_ne (tgt := 27) (pc := 20) d_M_copiesIn_20 rfl (fun c20 => ?_) (fun c20 => ?_)
        · refine wp_iconst (pc := 27) d_M_copiesIn_27 rfl ?_
          first | exact K28 _ (if_neg c20).symm | exact K28 _ (if_pos (Decidable.of_not_not c20)).symm
        · refine wp_iconst (pc := 23) d_M_copiesIn_23 rfl ?_
          refine wp_goto (tgt := 28) (pc := 24) d_M_copiesIn_24 rfl ?_
          first | exact K28 _ (if_neg c20).symm | exact K28 _ (if_pos (Decidable.of_not_not c20)).symm
theorem c_M_copiesIn (h : mH M D) (hd : mDi D) (hs : mSt M D) (x0 : 0 ≤ x) (x1 : x < uN D) : Cf L 0 zm_M_copiesIn [rV 174, iV x] M (iV (uMe D x)) M := by
  show wp L _ zm_M_copiesIn 0 [rV 174, iV x, uV, uV] [] M _
  have hd1 := hd.1
  have hn := uN_m hd
  have hp := hd.pl
  have e20 : M 174 20 = uN D := hs.1.1
  have e2 := h.1
  refine wp_iconst (pc := 0) d_M_copiesIn_0 rfl ?_
  refine wp_ist2 (pc := 1) d_M_copiesIn_1 rfl ?_
  refine wp_iconst (pc := 2) d_M_copiesIn_2 rfl ?_
  refine wp_ist3 (pc := 3) d_M_copiesIn_3 rfl ?_
  exact lp_M_copiesIn h hd hs x0 x1 100 0 0 (by omega) (by omega) rfl
theorem lp_M_changes (h : mH M D) (hd : mDi D) (hs : mSt M D) : ∀ (n9 : Nat) (k : Nat) (v : Int), uN D + 1 - k < n9 → (1 ≤ k) → (k ≤ 1 ∨ (k : Int) ≤ uN D) → (v = qS (fun s => (uT D).2.1 s) k) → (0 ≤ v ∧ v ≤ 24 * (k : Int)) → wp L 3 zm_M_changes 4 [rV 174, iV v, iV k] [] M (fun r M' => r = some (iV (qS (fun s => (uT D).2.1 s) (uN D).toNat)) ∧ M' = M) := by
  intro n9
  induction n9 with
  | zero =>
    intro k  v  h9 g0 g1 g2 g3
    have hd1 := hd.1
    have hn := uN_m hd
    have hp := hd.pl
    have e20 : M 174 20 = uN D := hs.1.1
    have e2 := h.1
    exact absurd h9 (by omega)
  | succ n9 ih =>
    intro k  v  h9 g0 g1 g2 g3
    have hd1 := hd.1
    have hn := uN_m hd
    have hp := hd.pl
    have e20 : M 174 20 = uN D := hs.1.1
    have e2 := h.1
    refine wp_iload_n (pc := 4) d_M_changes_4 rfl ?_
    refine wp_aload_n (pc := 5) d_M_changes_5 rfl ?_
    refine wp_getI (pc := 6) d_M_changes_6 rfl (by decide) (zk_174 L) ?_
    refine wp_icmp_ge (tgt := 32) (pc := 9) d_M_changes_9 rfl (fun c9 => ?_) (fun c9 => ?_)
    · refine wp_iload_n (pc := 32) d_M_changes_32 rfl ?_
      refine wp_ireturn (pc := 33) d_M_changes_33 rfl ?_
      refine ⟨?_, rfl⟩
      by_cases e : uN D = 0
      · rw [g2, show k = 1 by omega, e]
        have : (uT D).2.1 = fun _ => 0 := by unfold uT; rw [e]; rfl
        rw [this]; rfl
      · rw [g2, show k = (uN D).toNat by omega]
    · have hx := uT_p hd (show 0 ≤ (k : Int) by omega) (by omega)
      have hy := hx.2.2.2 (by omega)
      have hb := uDs_b D hp.1 hp.2 (k : Int) ((uT D).1 (k : Int))
      refine wp_iload_n (pc := 12) d_M_changes_12 rfl ?_
      refine wp_aload_n (pc := 13) d_M_changes_13 rfl ?_
      refine wp_iload_n (pc := 14) d_M_changes_14 rfl ?_
      refine wp_aload_n (pc := 15) d_M_changes_15 rfl ?_
      refine wp_getR (pc := 16) d_M_changes_16 rfl (zk_174 L) zx_174_23 ?_
      refine wp_iload_n (pc := 19) d_M_changes_19 rfl ?_
      refine wp_iald (pc := 20) d_M_changes_20 (zk_188 L) (by omega) (by omega) ?_
      rw [(hs.2 (k : Int) (by omega) (by omega)).1]
      refine wp_callV2f (pc := 21) d_M_changes_21 rfl rfl (zk_174 L) rfl rfl (c_M_farNow h hd hs.1 (by omega) (by omega) (by omega) (by omega)) ?_
      refine wp_iadd (pc := 24) d_M_changes_24 (by omega) (by omega) ?_
      refine wp_ist1 (pc := 25) d_M_changes_25 rfl ?_
      refine wp_iinc2 (pc := 26) d_M_changes_26 rfl (by omega) (by omega) ?_
      refine wp_goto (tgt := 4) (pc := 29) d_M_changes_29 rfl ?_
      refine ih (k + 1) _ (by omega) (by omega) (by omega) ?_ (by omega)
      simp only [qS]
      rw [← g2, hy.2.2]
theorem c_M_changes (h : mH M D) (hd : mDi D) (hs : mSt M D) : Cf L 3 zm_M_changes [rV 174] M (iV (qS (fun s => (uT D).2.1 s) (uN D).toNat)) M := by
  show wp L _ zm_M_changes 0 [rV 174, uV, uV] [] M _
  have hd1 := hd.1
  have hn := uN_m hd
  have hp := hd.pl
  have e20 : M 174 20 = uN D := hs.1.1
  have e2 := h.1
  refine wp_iconst (pc := 0) d_M_changes_0 rfl ?_
  refine wp_ist1 (pc := 1) d_M_changes_1 rfl ?_
  refine wp_iconst (pc := 2) d_M_changes_2 rfl ?_
  refine wp_ist2 (pc := 3) d_M_changes_3 rfl ?_
  have h0 : (uT D).2.1 0 = 0 := by
    by_cases e : uN D = 0
    · have : (uT D).2.1 = fun _ => 0 := by unfold uT; rw [e]; rfl
      rw [this]
    · exact ((uT_p hd (Int.le_refl 0) (by omega)).2.2.1 rfl).2
  exact lp_M_changes h hd hs 100 1 0 (by omega) (by omega) (by omega) (by simp only [qS]; show (0 : Int) = 0 + (uT D).2.1 0; rw [h0]; rfl) (by omega)
theorem lp_M_turnedAll (h : mH M D) (hd : mDi D) (hs : mSt M D) : ∀ (n9 : Nat) (k : Nat) (v : Int), uN D - k < n9 → ((k : Int) ≤ uN D) → (v = qS (fun s => qPc (uMk D s) 24) k) → (0 ≤ v ∧ v ≤ 24 * (k : Int)) → wp L 3 zm_M_turnedAll 4 [rV 174, iV v, iV k] [] M (fun r M' => r = some (iV (qS (fun s => qPc (uMk D s) 24) (uN D).toNat)) ∧ M' = M) := by
  intro n9
  induction n9 with
  | zero =>
    intro k  v  h9 g1 g2 g3
    have hd1 := hd.1
    have hn := uN_m hd
    have hp := hd.pl
    have e20 : M 174 20 = uN D := hs.1.1
    have e2 := h.1
    exact absurd h9 (by omega)
  | succ n9 ih =>
    intro k  v  h9 g1 g2 g3
    have hd1 := hd.1
    have hn := uN_m hd
    have hp := hd.pl
    have e20 : M 174 20 = uN D := hs.1.1
    have e2 := h.1
    refine wp_iload_n (pc := 4) d_M_turnedAll_4 rfl ?_
    refine wp_aload_n (pc := 5) d_M_turnedAll_5 rfl ?_
    refine wp_getI (pc := 6) d_M_turnedAll_6 rfl (by decide) (zk_174 L) ?_
    refine wp_icmp_ge (tgt := 26) (pc := 9) d_M_turnedAll_9 rfl (fun c9 => ?_) (fun c9 => ?_)
    · refine wp_iload_n (pc := 26) d_M_turnedAll_26 rfl ?_
      refine wp_ireturn (pc := 27) d_M_turnedAll_27 rfl ?_
      refine ⟨?_, rfl⟩
      rw [g2, show k = (uN D).toNat by omega]
    · have hb := qPc_b (uMk D (k : Int)) 24
      refine wp_iload_n (pc := 12) d_M_turnedAll_12 rfl ?_
      refine wp_aload_n (pc := 13) d_M_turnedAll_13 rfl ?_
      refine wp_iload_n (pc := 14) d_M_turnedAll_14 rfl ?_
      refine wp_callV1f (pc := 15) d_M_turnedAll_15 rfl rfl (zk_174 L) rfl rfl (c_M_turnedMany h hd hs (by omega) (by omega)) ?_
      refine wp_iadd (pc := 18) d_M_turnedAll_18 (by omega) (by omega) ?_
      refine wp_ist1 (pc := 19) d_M_turnedAll_19 rfl ?_
      refine wp_iinc2 (pc := 20) d_M_turnedAll_20 rfl (by omega) (by omega) ?_
      refine wp_goto (tgt := 4) (pc := 23) d_M_turnedAll_23 rfl ?_
      refine ih (k + 1) _ (by omega) (by omega) ?_ (by omega)
      simp only [qS]
      rw [← g2]
theorem c_M_turnedAll (h : mH M D) (hd : mDi D) (hs : mSt M D) : Cf L 3 zm_M_turnedAll [rV 174] M (iV (qS (fun s => qPc (uMk D s) 24) (uN D).toNat)) M := by
  show wp L _ zm_M_turnedAll 0 [rV 174, uV, uV] [] M _
  have hd1 := hd.1
  have hn := uN_m hd
  have hp := hd.pl
  have e20 : M 174 20 = uN D := hs.1.1
  have e2 := h.1
  refine wp_iconst (pc := 0) d_M_turnedAll_0 rfl ?_
  refine wp_ist1 (pc := 1) d_M_turnedAll_1 rfl ?_
  refine wp_iconst (pc := 2) d_M_turnedAll_2 rfl ?_
  refine wp_ist2 (pc := 3) d_M_turnedAll_3 rfl ?_
  exact lp_M_turnedAll h hd hs 100 0 0 (by omega) (by omega) rfl (by omega)
theorem lp_M_up1 (h : mH M D) (hd : mDi D) (hs : mSt M D) (p0 : 0 ≤ p) (p1 : p < uPl D) {v : Int} {Qx : Option zV → zM → Prop} (hq : ∀ u4 : zV, wp L 1 zm_M_unlikePlaces 58 [rV 174, iV v, iV p, iV (qB (qEx (fun s => decide (¬ uRS D s p = uRS D 0 p)) (uN D).toNat)), u4] [] M Qx) : ∀ (n9 : Nat) (k : Nat) (f : Int), uN D - k < n9 → (1 ≤ k) → ((k : Int) ≤ uN D) → (f = qB (qEx (fun s => decide (¬ uRS D s p = uRS D 0 p)) k)) → wp L 1 zm_M_unlikePlaces 17 [rV 174, iV v, iV p, iV f, iV k] [] M (Qx) := by
  intro n9
  induction n9 with
  | zero =>
    intro k  f  h9 g0 g1 g3
    have hd1 := hd.1
    have hn := uN_m hd
    have hp := hd.pl
    have e20 : M 174 20 = uN D := hs.1.1
    have e2 := h.1
    exact absurd h9 (by omega)
  | succ n9 ih =>
    intro k  f  h9 g0 g1 g3
    have hd1 := hd.1
    have hn := uN_m hd
    have hp := hd.pl
    have e20 : M 174 20 = uN D := hs.1.1
    have e2 := h.1
    refine wp_iload (pc := 17) d_M_unlikePlaces_17 rfl ?_
    refine wp_aload_n (pc := 19) d_M_unlikePlaces_19 rfl ?_
    refine wp_getI (pc := 20) d_M_unlikePlaces_20 rfl (by decide) (zk_174 L) ?_
    refine wp_icmp_ge (tgt := 58) (pc := 23) d_M_unlikePlaces_23 rfl (fun c23 => ?_) (fun c23 => ?_)
    · rw [g3, show k = (uN D).toNat by omega]
      exact hq _
    · have hT : ¬ f = 0 → qEx (fun s => decide (¬ uRS D s p = uRS D 0 p)) k = true := fun z => qB_1 (by rw [← g3]; exact z)
      have hF : f = 0 → qEx (fun s => decide (¬ uRS D s p = uRS D 0 p)) k = false := fun z => qB_0 (by rw [← g3]; exact z)
      refine zcut (pc' := 51) (fun (v51 : Int) => v51 = qB (qEx (fun s => decide (¬ uRS D s p = uRS D 0 p)) (k + 1))) (fun (v51 : Int) => [rV 174, iV v, iV p, iV f, iV (k : Int)]) (fun (v51 : Int) => [iV v51]) (fun (v51 : Int) => M) ?_ (fun K51 => ?_)
      · intro v51 h51
        show wp L _ zm_M_unlikePlaces 51 [rV 174, iV v, iV p, iV f, iV (k : Int)] [iV v51] (M) _
        refine wp_ist3 (pc := 51) d_M_unlikePlaces_51 rfl ?_
        refine wp_iinc4 (pc := 52) d_M_unlikePlaces_52 rfl (by omega) (by omega) ?_
        refine wp_goto (tgt := 17) (pc := 55) d_M_unlikePlaces_55 rfl ?_
        exact ih (k + 1) _ (by omega) (by omega) (by omega) h51
      · refine wp_iload_n (pc := 26) d_M_unlikePlaces_26 rfl ?_
        refine wp_if_ne (tgt := 46) (pc := 27) d_M_unlikePlaces_27 rfl (fun c27 => ?_) (fun c27 => ?_)
        · refine wp_iconst (pc := 46) d_M_unlikePlaces_46 rfl ?_
          refine wp_goto (tgt := 51) (pc := 47) d_M_unlikePlaces_47 rfl ?_
          refine K51 _ ?_
          rw [qEx_s]
          first
          | (rw [hT c27]; rfl)
          | (rw [hF (Decidable.of_not_not c27), decide_eq_false (not_not_intro c43)]; rfl)
          | (rw [hF (Decidable.of_not_not c27), decide_eq_true c43]; rfl)
        · refine wp_aload_n (pc := 30) d_M_unlikePlaces_30 rfl ?_
          refine wp_iload (pc := 31) d_M_unlikePlaces_31 rfl ?_
          refine wp_iload_n (pc := 33) d_M_unlikePlaces_33 rfl ?_
          refine wp_callV2f (pc := 34) d_M_unlikePlaces_34 rfl rfl (zk_174 L) rfl rfl (c_M_readingOf h hd hs (by omega) (by omega) p0 p1) ?_
          refine wp_aload_n (pc := 37) d_M_unlikePlaces_37 rfl ?_
          refine wp_iconst (pc := 38) d_M_unlikePlaces_38 rfl ?_
          refine wp_iload_n (pc := 39) d_M_unlikePlaces_39 rfl ?_
          refine wp_callV2f (pc := 40) d_M_unlikePlaces_40 rfl rfl (zk_174 L) rfl rfl (c_M_readingOf h hd hs (by omega) (by omega) p0 p1) ?_
          refine wp_icmp_eq (tgt := 50) (pc := 43) d_M_unlikePlaces_43 rfl (fun c43 => ?_) (fun c43 => ?_)
          · refine wp_iconst (pc := 50) d_M_unlikePlaces_50 rfl ?_
            refine K51 _ ?_
            rw [qEx_s]
            first
            | (rw [hT c27]; rfl)
            | (rw [hF (Decidable.of_not_not c27), decide_eq_false (not_not_intro c43)]; rfl)
            | (rw [hF (Decidable.of_not_not c27), decide_eq_true c43]; rfl)
          · refine wp_iconst (pc := 46) d_M_unlikePlaces_46 rfl ?_
            refine wp_goto (tgt := 51) (pc := 47) d_M_unlikePlaces_47 rfl ?_
            refine K51 _ ?_
            rw [qEx_s]
            first
            | (rw [hT c27]; rfl)
            | (rw [hF (Decidable.of_not_not c27), decide_eq_false (not_not_intro c43)]; rfl)
            | (rw [hF (Decidable.of_not_not c27), decide_eq_true c43]; rfl)
theorem lp_M_up (h : mH M D) (hd : mDi D) (hs : mSt M D) : ∀ (n9 : Nat) (k : Nat) (v : Int) (u3 : zV) (u4 : zV), uPl D - k < n9 → ((k : Int) ≤ uPl D) → (v = qN (fun p => qEx (fun s => decide (¬ uRS D s p = uRS D 0 p)) (uN D).toNat) k) → wp L 1 zm_M_unlikePlaces 4 [rV 174, iV v, iV k, u3, u4] [] M (fun r M' => r = some (iV (uVp D)) ∧ M' = M) := by
  intro n9
  induction n9 with
  | zero =>
    intro k  v  u3  u4  h9 g0 g1
    have hd1 := hd.1
    have hn := uN_m hd
    have hp := hd.pl
    have e20 : M 174 20 = uN D := hs.1.1
    have e2 := h.1
    exact absurd h9 (by omega)
  | succ n9 ih =>
    intro k  v  u3  u4  h9 g0 g1
    have hd1 := hd.1
    have hn := uN_m hd
    have hp := hd.pl
    have e20 : M 174 20 = uN D := hs.1.1
    have e2 := h.1
    have hv := qN_b (fun p => qEx (fun s => decide (¬ uRS D s p = uRS D 0 p)) (uN D).toNat) k
    rw [← g1] at hv
    refine wp_iload_n (pc := 4) d_M_unlikePlaces_4 rfl ?_
    refine wp_aload_n (pc := 5) d_M_unlikePlaces_5 rfl ?_
    refine wp_callV0f (pc := 6) d_M_unlikePlaces_6 rfl rfl (zk_174 L) rfl rfl (c_M_places h hd) ?_
    refine wp_icmp_ge (tgt := 76) (pc := 9) d_M_unlikePlaces_9 rfl (fun c9 => ?_) (fun c9 => ?_)
    · refine wp_iload_n (pc := 76) d_M_unlikePlaces_76 rfl ?_
      refine wp_ireturn (pc := 77) d_M_unlikePlaces_77 rfl ?_
      refine ⟨?_, rfl⟩
      rw [g1, show k = (uPl D).toNat by omega]
      rfl
    · refine wp_iconst (pc := 12) d_M_unlikePlaces_12 rfl ?_
      refine wp_ist3 (pc := 13) d_M_unlikePlaces_13 rfl ?_
      refine wp_iconst (pc := 14) d_M_unlikePlaces_14 rfl ?_
      refine wp_ist4 (pc := 15) d_M_unlikePlaces_15 rfl ?_
      have hpos : 0 < uN D := uN_pos hd (by
        by_cases e : 0 < D.2.2.2
        · exact e
        · have : uPl D = 0 := if_neg e
          omega)
      refine lp_M_up1 h hd hs (p := (k : Int)) (by omega) (by omega) (v := v) (fun u4 => ?_) 100 1 0 (by omega) (by omega) (by omega) (by
        rw [show qEx (fun s => decide (¬ uRS D s (k : Int) = uRS D 0 (k : Int))) 1 = (false || decide (¬ uRS D 0 (k : Int) = uRS D 0 (k : Int))) from rfl, decide_eq_false (fun z => z rfl)]; rfl)
      have hq := qB_in ((fun p => qEx (fun s => decide (¬ uRS D s p = uRS D 0 p)) (uN D).toNat) (k : Int))
      refine zcut (pc' := 68) (fun (v68 : Int) => v68 = (if (fun p => qEx (fun s => decide (¬ uRS D s p = uRS D 0 p)) (uN D).toNat) (k : Int) = true then 1 else 0)) (fun (v68 : Int) => [rV 174, iV v, iV (k : Int), iV (qB ((fun p => qEx (fun s => decide (¬ uRS D s p = uRS D 0 p)) (uN D).toNat) (k : Int))), u4]) (fun (v68 : Int) => [iV v68, iV v]) (fun (v68 : Int) => M) ?_ (fun K68 => ?_)
      · intro v68 h68
        show wp L _ zm_M_unlikePlaces 68 [rV 174, iV v, iV (k : Int), iV (qB ((fun p => qEx (fun s => decide (¬ uRS D s p = uRS D 0 p)) (uN D).toNat) (k : Int))), u4] [iV v68, iV v] (M) _
        have hv2 : v68 = 0 ∨ v68 = 1 := by rw [h68]; split <;> omega
        refine wp_iadd (pc := 68) d_M_unlikePlaces_68 (by omega) (by omega) ?_
        refine wp_ist1 (pc := 69) d_M_unlikePlaces_69 rfl ?_
        refine wp_iinc2 (pc := 70) d_M_unlikePlaces_70 rfl (by omega) (by omega) ?_
        refine wp_goto (tgt := 4) (pc := 73) d_M_unlikePlaces_73 rfl ?_
        refine ih (k + 1) _ _ _ (by omega) (by omega) ?_
        simp only [qN]
        rw [← g1, h68]
      · refine wp_iload_n (pc := 58) d_M_unlikePlaces_58 rfl ?_
        refine wp_iload_n (pc := 59) d_M_unlikePlaces_59 rfl ?_
        refine wp_if_eq (tgt := 67) (pc := 60) d_M_unlikePlaces_60 rfl (fun c60 => ?_) (fun c60 => ?_)
        · refine wp_iconst (pc := 67) d_M_unlikePlaces_67 rfl ?_
          first | exact K68 _ (if_pos (qB_1 c60)).symm | exact K68 _ (if_neg (qB_n c60)).symm
        · refine wp_iconst (pc := 63) d_M_unlikePlaces_63 rfl ?_
          refine wp_goto (tgt := 68) (pc := 64) d_M_unlikePlaces_64 rfl ?_
          first | exact K68 _ (if_pos (qB_1 c60)).symm | exact K68 _ (if_neg (qB_n c60)).symm
theorem c_M_unlikePlaces (h : mH M D) (hd : mDi D) (hs : mSt M D) : Cf L 1 zm_M_unlikePlaces [rV 174] M (iV (uVp D)) M := by
  show wp L _ zm_M_unlikePlaces 0 [rV 174, uV, uV, uV, uV] [] M _
  have hd1 := hd.1
  have hn := uN_m hd
  have hp := hd.pl
  have e20 : M 174 20 = uN D := hs.1.1
  have e2 := h.1
  refine wp_iconst (pc := 0) d_M_unlikePlaces_0 rfl ?_
  refine wp_ist1 (pc := 1) d_M_unlikePlaces_1 rfl ?_
  refine wp_iconst (pc := 2) d_M_unlikePlaces_2 rfl ?_
  refine wp_ist2 (pc := 3) d_M_unlikePlaces_3 rfl ?_
  exact lp_M_up h hd hs 100 0 0 _ _ (by omega) (by omega) rfl
theorem lp_M_ch1 (h : mH M D) (hd : mDi D) (hs : mSt M D) {v : Int} {Qx : Option zV → zM → Prop} (hq : ∀ u4 : zV, wp L 0 zm_M_childless 53 [rV 174, iV v, iV x, iV (qB (!qEx (fun t => decide ((uT D).1 t = x)) (uN D).toNat)), u4] [] M Qx) : ∀ (n9 : Nat) (k : Nat) (f : Int), uN D - k < n9 → ((k : Int) ≤ uN D) → (f = qB (!qEx (fun t => decide ((uT D).1 t = x)) k)) → wp L 0 zm_M_childless 17 [rV 174, iV v, iV x, iV f, iV k] [] M (Qx) := by
  intro n9
  induction n9 with
  | zero =>
    intro k  f  h9 g1 g3
    have hd1 := hd.1
    have hn := uN_m hd
    have hp := hd.pl
    have e20 : M 174 20 = uN D := hs.1.1
    have e2 := h.1
    exact absurd h9 (by omega)
  | succ n9 ih =>
    intro k  f  h9 g1 g3
    have hd1 := hd.1
    have hn := uN_m hd
    have hp := hd.pl
    have e20 : M 174 20 = uN D := hs.1.1
    have e2 := h.1
    refine wp_iload (pc := 17) d_M_childless_17 rfl ?_
    refine wp_aload_n (pc := 19) d_M_childless_19 rfl ?_
    refine wp_getI (pc := 20) d_M_childless_20 rfl (by decide) (zk_174 L) ?_
    refine wp_icmp_ge (tgt := 53) (pc := 23) d_M_childless_23 rfl (fun c23 => ?_) (fun c23 => ?_)
    · rw [g3, show k = (uN D).toNat by omega]
      exact hq _
    · have hF : f = 0 → qEx (fun t => decide ((uT D).1 t = x)) k = true := fun z => by have := qB_0 (b := !qEx (fun t => decide ((uT D).1 t = x)) k) (by rw [← g3]; exact z); cases e : qEx (fun t => decide ((uT D).1 t = x)) k <;> simp_all
      have hT : ¬ f = 0 → qEx (fun t => decide ((uT D).1 t = x)) k = false := fun z => by have := qB_1 (b := !qEx (fun t => decide ((uT D).1 t = x)) k) (by rw [← g3]; exact z); cases e : qEx (fun t => decide ((uT D).1 t = x)) k <;> simp_all
      refine zcut (pc' := 46) (fun (v46 : Int) => v46 = qB (!qEx (fun t => decide ((uT D).1 t = x)) (k + 1))) (fun (v46 : Int) => [rV 174, iV v, iV x, iV f, iV (k : Int)]) (fun (v46 : Int) => [iV v46]) (fun (v46 : Int) => M) ?_ (fun K46 => ?_)
      · intro v46 h46
        show wp L _ zm_M_childless 46 [rV 174, iV v, iV x, iV f, iV (k : Int)] [iV v46] (M) _
        refine wp_ist3 (pc := 46) d_M_childless_46 rfl ?_
        refine wp_iinc4 (pc := 47) d_M_childless_47 rfl (by omega) (by omega) ?_
        refine wp_goto (tgt := 17) (pc := 50) d_M_childless_50 rfl ?_
        exact ih (k + 1) _ (by omega) (by omega) h46
      · refine wp_iload_n (pc := 26) d_M_childless_26 rfl ?_
        refine wp_if_eq (tgt := 45) (pc := 27) d_M_childless_27 rfl (fun c27 => ?_) (fun c27 => ?_)
        · refine wp_iconst (pc := 45) d_M_childless_45 rfl ?_
          refine K46 _ ?_
          rw [qEx_s]
          first
          | (rw [hF c27]; rfl)
          | (rw [hT c27, decide_eq_true c38]; rfl)
          | (rw [hT c27, decide_eq_false c38]; rfl)
        · refine wp_aload_n (pc := 30) d_M_childless_30 rfl ?_
          refine wp_getR (pc := 31) d_M_childless_31 rfl (zk_174 L) zx_174_23 ?_
          refine wp_iload (pc := 34) d_M_childless_34 rfl ?_
          refine wp_iald (pc := 36) d_M_childless_36 (zk_188 L) (by omega) (by omega) ?_
          rw [(hs.2 (k : Int) (by omega) (by omega)).1]
          refine wp_iload_n (pc := 37) d_M_childless_37 rfl ?_
          refine wp_icmp_eq (tgt := 45) (pc := 38) d_M_childless_38 rfl (fun c38 => ?_) (fun c38 => ?_)
          · refine wp_iconst (pc := 45) d_M_childless_45 rfl ?_
            refine K46 _ ?_
            rw [qEx_s]
            first
            | (rw [hF c27]; rfl)
            | (rw [hT c27, decide_eq_true c38]; rfl)
            | (rw [hT c27, decide_eq_false c38]; rfl)
          · refine wp_iconst (pc := 41) d_M_childless_41 rfl ?_
            refine wp_goto (tgt := 46) (pc := 42) d_M_childless_42 rfl ?_
            refine K46 _ ?_
            rw [qEx_s]
            first
            | (rw [hF c27]; rfl)
            | (rw [hT c27, decide_eq_true c38]; rfl)
            | (rw [hT c27, decide_eq_false c38]; rfl)
theorem lp_M_ch (h : mH M D) (hd : mDi D) (hs : mSt M D) : ∀ (n9 : Nat) (k : Nat) (v : Int) (u3 : zV) (u4 : zV), uN D - k < n9 → ((k : Int) ≤ uN D) → (v = qN (fun x => !qEx (fun t => decide ((uT D).1 t = x)) (uN D).toNat) k) → wp L 0 zm_M_childless 4 [rV 174, iV v, iV k, u3, u4] [] M (fun r M' => r = some (iV (uN D - qPc (uPr D) 24)) ∧ M' = M) := by
  intro n9
  induction n9 with
  | zero =>
    intro k  v  u3  u4  h9 g0 g1
    have hd1 := hd.1
    have hn := uN_m hd
    have hp := hd.pl
    have e20 : M 174 20 = uN D := hs.1.1
    have e2 := h.1
    exact absurd h9 (by omega)
  | succ n9 ih =>
    intro k  v  u3  u4  h9 g0 g1
    have hd1 := hd.1
    have hn := uN_m hd
    have hp := hd.pl
    have e20 : M 174 20 = uN D := hs.1.1
    have e2 := h.1
    have hv := qN_b (fun x => !qEx (fun t => decide ((uT D).1 t = x)) (uN D).toNat) k
    rw [← g1] at hv
    refine wp_iload_n (pc := 4) d_M_childless_4 rfl ?_
    refine wp_aload_n (pc := 5) d_M_childless_5 rfl ?_
    refine wp_getI (pc := 6) d_M_childless_6 rfl (by decide) (zk_174 L) ?_
    refine wp_icmp_ge (tgt := 71) (pc := 9) d_M_childless_9 rfl (fun c9 => ?_) (fun c9 => ?_)
    · refine wp_iload_n (pc := 71) d_M_childless_71 rfl ?_
      refine wp_ireturn (pc := 72) d_M_childless_72 rfl ?_
      refine ⟨?_, rfl⟩
      rw [g1, show k = (uN D).toNat by omega, uCh_n hd]
    · refine wp_iconst (pc := 12) d_M_childless_12 rfl ?_
      refine wp_ist3 (pc := 13) d_M_childless_13 rfl ?_
      refine wp_iconst (pc := 14) d_M_childless_14 rfl ?_
      refine wp_ist4 (pc := 15) d_M_childless_15 rfl ?_
      refine lp_M_ch1 h hd hs (x := (k : Int)) (v := v) (fun u4 => ?_) 100 0 1 (by omega) (by omega) rfl
      have hq := qB_in ((fun x => !qEx (fun t => decide ((uT D).1 t = x)) (uN D).toNat) (k : Int))
      refine zcut (pc' := 63) (fun (v63 : Int) => v63 = (if (fun x => !qEx (fun t => decide ((uT D).1 t = x)) (uN D).toNat) (k : Int) = true then 1 else 0)) (fun (v63 : Int) => [rV 174, iV v, iV (k : Int), iV (qB ((fun x => !qEx (fun t => decide ((uT D).1 t = x)) (uN D).toNat) (k : Int))), u4]) (fun (v63 : Int) => [iV v63, iV v]) (fun (v63 : Int) => M) ?_ (fun K63 => ?_)
      · intro v63 h63
        show wp L _ zm_M_childless 63 [rV 174, iV v, iV (k : Int), iV (qB ((fun x => !qEx (fun t => decide ((uT D).1 t = x)) (uN D).toNat) (k : Int))), u4] [iV v63, iV v] (M) _
        have hv2 : v63 = 0 ∨ v63 = 1 := by rw [h63]; split <;> omega
        refine wp_iadd (pc := 63) d_M_childless_63 (by omega) (by omega) ?_
        refine wp_ist1 (pc := 64) d_M_childless_64 rfl ?_
        refine wp_iinc2 (pc := 65) d_M_childless_65 rfl (by omega) (by omega) ?_
        refine wp_goto (tgt := 4) (pc := 68) d_M_childless_68 rfl ?_
        refine ih (k + 1) _ _ _ (by omega) (by omega) ?_
        simp only [qN]
        rw [← g1, h63]
      · refine wp_iload_n (pc := 53) d_M_childless_53 rfl ?_
        refine wp_iload_n (pc := 54) d_M_childless_54 rfl ?_
        refine wp_if_eq (tgt := 62) (pc := 55) d_M_childless_55 rfl (fun c55 => ?_) (fun c55 => ?_)
        · refine wp_iconst (pc := 62) d_M_childless_62 rfl ?_
          first | exact K63 _ (if_pos (qB_1 c55)).symm | exact K63 _ (if_neg (qB_n c55)).symm
        · refine wp_iconst (pc := 58) d_M_childless_58 rfl ?_
          refine wp_goto (tgt := 63) (pc := 59) d_M_childless_59 rfl ?_
          first | exact K63 _ (if_pos (qB_1 c55)).symm | exact K63 _ (if_neg (qB_n c55)).symm
theorem c_M_childless (h : mH M D) (hd : mDi D) (hs : mSt M D) : Cf L 0 zm_M_childless [rV 174] M (iV (uN D - qPc (uPr D) 24)) M := by
  show wp L _ zm_M_childless 0 [rV 174, uV, uV, uV, uV] [] M _
  have hd1 := hd.1
  have hn := uN_m hd
  have hp := hd.pl
  have e20 : M 174 20 = uN D := hs.1.1
  have e2 := h.1
  refine wp_iconst (pc := 0) d_M_childless_0 rfl ?_
  refine wp_ist1 (pc := 1) d_M_childless_1 rfl ?_
  refine wp_iconst (pc := 2) d_M_childless_2 rfl ?_
  refine wp_ist2 (pc := 3) d_M_childless_3 rfl ?_
  exact lp_M_ch h hd hs 100 0 0 _ _ (by omega) (by omega) rfl
theorem lp_M_above (h : mH M D) (hd : mDi D) (hs : mSt M D) {W : Int} : ∀ (n9 : Nat) (n : Nat) (a : Int) (v : Int), (n : Int) < n9 → (a = -1 ∨ (0 ≤ a ∧ a < uN D) ∧ (uT D).2.2 a < n) → (v + uAc D n a = W) → (0 ≤ v ∧ v + n ≤ 6) → wp L 0 zm_M_above 9 [rV 174, iV x, iV v, iV a] [] M (fun r M' => r = some (iV W) ∧ M' = M) := by
  intro n9
  induction n9 with
  | zero =>
    intro n  a  v  h9 g1 g2 g3
    exact absurd h9 (by omega)
  | succ n9 ih =>
    intro n  a  v  h9 g1 g2 g3
    have hd1 := hd.1
    have hn := uN_m hd
    have hp := hd.pl
    have e20 : M 174 20 = uN D := hs.1.1
    have e2 := h.1
    refine wp_iload_n (pc := 9) d_M_above_9 rfl ?_
    refine wp_iconst (pc := 10) d_M_above_10 rfl ?_
    refine wp_icmp_eq (tgt := 27) (pc := 11) d_M_above_11 rfl (fun c11 => ?_) (fun c11 => ?_)
    · refine wp_iload_n (pc := 27) d_M_above_27 rfl ?_
      refine wp_ireturn (pc := 28) d_M_above_28 rfl ?_
      refine ⟨?_, rfl⟩
      have ea : a = -1 := by omega
      rw [← g2, ea, uAc_n, Int.add_zero]
    · have hj := uT_p hd (show 0 ≤ a by omega) (by omega)
      have hu := uT_u hd (show 0 ≤ a by omega) (by omega)
      refine wp_iinc2 (pc := 14) d_M_above_14 rfl (by omega) (by omega) ?_
      refine wp_aload_n (pc := 17) d_M_above_17 rfl ?_
      refine wp_getR (pc := 18) d_M_above_18 rfl (zk_174 L) zx_174_23 ?_
      refine wp_iload_n (pc := 21) d_M_above_21 rfl ?_
      refine wp_iald (pc := 22) d_M_above_22 (zk_188 L) (by omega) (by omega) ?_
      rw [(hs.2 a (by omega) (by omega)).1]
      refine wp_ist3 (pc := 23) d_M_above_23 rfl ?_
      refine wp_goto (tgt := 9) (pc := 24) d_M_above_24 rfl ?_
      obtain ⟨m, rfl⟩ : ∃ m, n = m + 1 := ⟨n - 1, by omega⟩
      refine ih m _ _ (by omega) (by omega) ?_ (by omega)
      simp only [uAc] at g2
      rw [if_neg (by omega), hj.1] at g2
      omega
theorem c_M_above (h : mH M D) (hd : mDi D) (hs : mSt M D) (x0 : 0 ≤ x) (x1 : x < uN D) : Cf L 0 zm_M_above [rV 174, iV x] M (iV (uAc D (uN D).toNat (uPm D x))) M := by
  show wp L _ zm_M_above 0 [rV 174, iV x, uV, uV] [] M _
  have hd1 := hd.1
  have hn := uN_m hd
  have hp := hd.pl
  have e20 : M 174 20 = uN D := hs.1.1
  have e2 := h.1
  have hx := uT_p hd x0 x1
  have hu := uT_u hd x0 x1
  refine wp_iconst (pc := 0) d_M_above_0 rfl ?_
  refine wp_ist2 (pc := 1) d_M_above_1 rfl ?_
  refine wp_aload_n (pc := 2) d_M_above_2 rfl ?_
  refine wp_getR (pc := 3) d_M_above_3 rfl (zk_174 L) zx_174_23 ?_
  refine wp_iload_n (pc := 6) d_M_above_6 rfl ?_
  refine wp_iald (pc := 7) d_M_above_7 (zk_188 L) (by omega) (by omega) ?_
  rw [(hs.2 x x0 x1).1, ← hx.1]
  refine wp_ist3 (pc := 8) d_M_above_8 rfl ?_
  exact lp_M_above h hd hs 100 (uN D).toNat _ 0 (by omega) (by rw [hx.1]; omega) (Int.zero_add _) (by omega)
end ZM8
