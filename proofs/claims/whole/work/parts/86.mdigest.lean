/-! the model's digest -/
def mHh (M : zM) (h : Int64) : Prop := zLg (M 174 31) (M 174 1031) = h
abbrev mPh (a k : Nat) : Prop := a = 174 ∧ (k = 31 ∨ k = 1031)
abbrev mPd (a k : Nat) : Prop := (182 ≤ a ∧ a < 190) ∨ a = 174 ∧ (k = 14 ∨ k = 16 ∨ k = 17 ∨ k = 20 ∨ k = 31 ∨ k = 1031)
theorem mHh.keep {P : Nat → Nat → Prop} {M M' : zM} {h : Int64} (hh : mHh M h) (hf : mF P M M') (h1 : ¬ P 174 31 ∧ ¬ P 174 1031) : mHh M' h := by
  unfold mHh
  rw [hf _ _ h1.1, hf _ _ h1.2]; exact hh
theorem wF_0 (g : Int → Int64 → Int64) (h : Int64) : wF g 0 h = h := rfl
theorem wF_mul (F : Int → Int → Int) (m : Nat) (h0 : Int64) : ∀ n : Nat, wF (fun k h => uX h (F (((k.toNat / m : Nat)) : Int) (((k.toNat % m : Nat)) : Int))) (m * n) h0 = wF (fun i h => wF (fun w h => uX h (F i w)) m h) n h0 := by
  have key : ∀ n j : Nat, j ≤ m → ∀ h, wF (fun k h => uX h (F (((k.toNat / m : Nat)) : Int) (((k.toNat % m : Nat)) : Int))) (m * n) h0 = h → wF (fun k h => uX h (F (((k.toNat / m : Nat)) : Int) (((k.toNat % m : Nat)) : Int))) (m * n + j) h0 = wF (fun w h => uX h (F (n : Int) w)) j h := by
    intro n j
    induction j with
    | zero => intro _ h e; exact e
    | succ j ih =>
      intro hj h e
      have hm : 0 < m := by omega
      rw [show m * n + (j + 1) = (m * n + j) + 1 by omega, wF_s, wF_s, ih (by omega) h e]
      rw [show ((((m * n + j : Nat) : Int)).toNat) = m * n + j by omega, Nat.mul_add_div hm, Nat.mul_add_mod, Nat.div_eq_of_lt (by omega), Nat.mod_eq_of_lt (by omega), Nat.add_zero]
  intro n
  induction n with
  | zero => rfl
  | succ n ih =>
    rw [Nat.mul_succ, key n m (Nat.le_refl _) _ rfl, wF_s, ih]
theorem zn_d4 : ∀ k : Nat, k < 48 → zI2 (· / ·) (k : Int) 4 = ((k / 4 : Nat) : Int) ∧ zI2 zRem (k : Int) 4 = ((k % 4 : Nat) : Int) := by decide +kernel
theorem zn_d5 : ∀ k : Nat, k < 30 → zI2 (· / ·) (k : Int) 5 = ((k / 5 : Nat) : Int) ∧ zI2 zRem (k : Int) 5 = ((k % 5 : Nat) : Int) := by decide +kernel
section ZM17
variable {L : Nat} {M : zM} {D : qDt} {Y : qYt} {g : qPt} {x y z w c p s i j : Int}
theorem c_M_mix {h v : Int64} (hh : mHh M h) : Cv L 0 zm_M_mix [rV 174, lV v] M (fun M' => mF mPh M M' ∧ mHh M' (31 * h + v)) := by
  show wp L _ zm_M_mix 0 [rV 174, lV v, uV] [] M _
  refine wp_aload_n (pc := 0) d_M_mix_0 rfl ?_
  refine wp_ldc2_w (pc := 1) d_M_mix_1 rfl ?_
  refine wp_aload_n (pc := 4) d_M_mix_4 rfl ?_
  refine wp_getL (pc := 5) d_M_mix_5 rfl (zk_174 L) ?_
  rw [show zLg (M 174 31) (M 174 (31 + 1000)) = h from hh]
  refine wp_lmul (pc := 8) d_M_mix_8 ?_
  refine wp_lload_n (pc := 9) d_M_mix_9 rfl ?_
  refine wp_ladd (pc := 10) d_M_mix_10 ?_
  refine wp_putL (pc := 11) d_M_mix_11 rfl (zk_174 L) (by decide) ?_
  refine wp_return_ (pc := 14) d_M_mix_14 rfl ?_
  refine ⟨rfl, (mF.rf.u (by omega)).u (by omega), ?_⟩
  unfold mHh
  rw [zU_nk (by decide), zU_eq, zU_eq, z_lg]
theorem lp_mc1 {M0 : zM} (h : mH M0 D) (hd : mDi D) (c0 : 0 ≤ c) (c1 : c < D.2.2.2) {hb : Int64} {Qx : Option zV → zM → Prop} {u3 : zV} (hq : ∀ (M' : zM) (u2 : zV), mF mPd M0 M' → mSt M' D → mHh M' (dCp D c hb) → wp L 8 zm_M_mixCopies 34 [rV 174, iV c, u2, u3] [] M' Qx) : ∀ (n9 : Nat) (k : Nat) (M : zM) (hv : Int64), 5 - (k : Int) < n9 → (k ≤ 5) → (mF mPd M0 M) → (k = 0 ∨ mSt M D) → (mHh M hv) → (hv = wF (fun w h => uX h (uCp D c w)) k hb) → wp L 8 zm_M_mixCopies 12 [rV 174, iV c, iV k, u3] [] M (Qx) := by
  intro n9
  induction n9 with
  | zero =>
    intro k  M  hv  h9 g0 g3 g4 g5 g6
    exact absurd h9 (by omega)
  | succ n9 ih =>
    intro k  M  hv  h9 g0 g3 g4 g5 g6
    have hd1 := hd.1
    have hpl := hd.pl
    have hM : mH M D := h.keep g3 (by omega) (by omega) (by omega)
    have e2 := hM.1
    refine wp_iload_n (pc := 12) d_M_mixCopies_12 rfl ?_
    refine wp_iconst (pc := 13) d_M_mixCopies_13 rfl ?_
    refine wp_icmp_ge (tgt := 34) (pc := 14) d_M_mixCopies_14 rfl (fun c14 => ?_) (fun c14 => ?_)
    · refine hq M _ g3 (g4.resolve_left (by omega)) ?_
      unfold dCp
      rw [show 5 = k by omega, ← g6]; exact g5
    · refine wp_aload_n (pc := 17) d_M_mixCopies_17 rfl ?_
      refine wp_aload_n (pc := 18) d_M_mixCopies_18 rfl ?_
      refine wp_iload_n (pc := 19) d_M_mixCopies_19 rfl ?_
      refine wp_iload_n (pc := 20) d_M_mixCopies_20 rfl ?_
      refine wp_callV2i (pc := 21) d_M_mixCopies_21 rfl rfl (zk_174 L) rfl rfl (c_M_copyNow hM hd c0 c1 (by omega) (by omega)) (fun x21 M21 h21 => ?_)
      obtain ⟨a1, a2, a3⟩ := h21
      have hh := g5.keep a2 (by omega)
      refine wp_i2l (pc := 24) d_M_mixCopies_24 ?_
      refine wp_callV1v (pc := 25) d_M_mixCopies_25 rfl rfl (zk_174 L) rfl rfl (c_M_mix hh) (fun M25 h25 => ?_)
      refine wp_iinc2 (pc := 28) d_M_mixCopies_28 rfl (by omega) (by omega) ?_
      refine wp_goto (tgt := 12) (pc := 31) d_M_mixCopies_31 rfl ?_
      obtain ⟨m1, m2⟩ := h25
      refine ih (k + 1) M25 _ (by omega) (by omega) ((g3.tr (a2.up (fun a k z => by omega))).tr (m1.up (fun a k z => by omega))) (Or.inr (a3.keep hd m1 (by omega) (by omega))) m2 ?_
      rw [wF_s, ← g6, a1]
      rfl
theorem lp_mc2 {M0 : zM} (h : mH M0 D) (hd : mDi D) (c0 : 0 ≤ c) (c1 : c < D.2.2.2) {hb : Int64} {Qx : Option zV → zM → Prop} {u3 : zV} (hq : ∀ (M' : zM) (u2 : zV), mF mPh M0 M' → mHh M' (dTx D c hb) → wp L 8 zm_M_mixCopies 63 [rV 174, iV c, u2, u3] [] M' Qx) : ∀ (n9 : Nat) (k : Nat) (M : zM) (hv : Int64), D.2.1 c - (k : Int) < n9 → ((k : Int) ≤ D.2.1 c) → (mF mPh M0 M) → (mHh M hv) → (hv = wF (fun i h => uX h (D.1 c i)) k hb) → wp L 8 zm_M_mixCopies 36 [rV 174, iV c, iV k, u3] [] M (Qx) := by
  intro n9
  induction n9 with
  | zero =>
    intro k  M  hv  h9 g0 g3 g5 g6
    have ll := hd.l c0 c1
    exact absurd h9 (by omega)
  | succ n9 ih =>
    intro k  M  hv  h9 g0 g3 g5 g6
    have hd1 := hd.1
    have hpl := hd.pl
    have hM : mH M D := h.keep g3 (by omega) (by omega) (by omega)
    have e2 := hM.1
    have ll := hd.l c0 c1
    have el := (hM.2.2 c c0 c1).1
    refine wp_iload_n (pc := 36) d_M_mixCopies_36 rfl ?_
    refine wp_aload_n (pc := 37) d_M_mixCopies_37 rfl ?_
    refine wp_getR (pc := 38) d_M_mixCopies_38 rfl (zk_174 L) zx_174_3 ?_
    refine wp_iload_n (pc := 41) d_M_mixCopies_41 rfl ?_
    refine wp_iald (pc := 42) d_M_mixCopies_42 (zk_176 L) (by omega) (by omega) ?_
    rw [el]
    refine wp_icmp_ge (tgt := 63) (pc := 43) d_M_mixCopies_43 rfl (fun c43 => ?_) (fun c43 => ?_)
    · refine hq M _ g3 ?_
      unfold dTx
      rw [show (D.2.1 c).toNat = k by omega, ← g6]; exact g5
    · refine wp_aload_n (pc := 46) d_M_mixCopies_46 rfl ?_
      refine wp_aload_n (pc := 47) d_M_mixCopies_47 rfl ?_
      refine wp_iload_n (pc := 48) d_M_mixCopies_48 rfl ?_
      refine wp_iload_n (pc := 49) d_M_mixCopies_49 rfl ?_
      refine wp_callV2f (pc := 50) d_M_mixCopies_50 rfl rfl (zk_174 L) rfl rfl (c_M_letterAt hM hd c0 c1 (by omega) (by omega)) ?_
      refine wp_i2l (pc := 53) d_M_mixCopies_53 ?_
      refine wp_callV1v (pc := 54) d_M_mixCopies_54 rfl rfl (zk_174 L) rfl rfl (c_M_mix g5) (fun M54 h54 => ?_)
      refine wp_iinc2 (pc := 57) d_M_mixCopies_57 rfl (by omega) (by omega) ?_
      refine wp_goto (tgt := 36) (pc := 60) d_M_mixCopies_60 rfl ?_
      obtain ⟨m1, m2⟩ := h54
      refine ih (k + 1) M54 _ (by omega) (by omega) (g3.tr m1) m2 ?_
      rw [wF_s, ← g6]
      rfl
theorem lp_mc3 {M0 : zM} (h : mH M0 D) (hd : mDi D) (hs : mSt M0 D) (c0 : 0 ≤ c) (c1 : c < D.2.2.2) {hb : Int64} {Qx : Option zV → zM → Prop} {u3 : zV} (hq : ∀ (M' : zM) (u2 : zV), mF mPh M0 M' → mHh M' (dRd D c hb) → wp L 8 zm_M_mixCopies 104 [rV 174, iV c, u2, u3] [] M' Qx) : ∀ (n9 : Nat) (k : Nat) (M : zM) (hv : Int64), uPl D - (k : Int) < n9 → ((k : Int) ≤ uPl D) → (uIn D 0 c ∨ k = 0) → (mF mPh M0 M) → (mHh M hv) → (hv = wF (fun p h => uX h (uRd D c p)) k hb) → wp L 8 zm_M_mixCopies 65 [rV 174, iV c, iV k, u3] [] M (Qx) := by
  intro n9
  induction n9 with
  | zero =>
    intro k  M  hv  h9 g0 g1 g3 g5 g6
    have hpl := hd.pl
    exact absurd h9 (by omega)
  | succ n9 ih =>
    intro k  M  hv  h9 g0 g1 g3 g5 g6
    have hd1 := hd.1
    have hpl := hd.pl
    have hM : mH M D := h.keep g3 (by omega) (by omega) (by omega)
    have e2 := hM.1
    have hsM : mSt M D := hs.keep hd g3 (by omega) (by omega)
    have ho := (hsM.1.2.2.1 c c0 (by omega)).2
    refine wp_iload_n (pc := 65) d_M_mixCopies_65 rfl ?_
    refine wp_aload_n (pc := 66) d_M_mixCopies_66 rfl ?_
    refine wp_callV0f (pc := 67) d_M_mixCopies_67 rfl rfl (zk_174 L) rfl rfl (c_M_places hM hd) ?_
    refine wp_icmp_ge (tgt := 104) (pc := 70) d_M_mixCopies_70 rfl (fun c70 => ?_) (fun c70 => ?_)
    · refine hq M _ g3 ?_
      unfold dRd
      have en : (if uIn D 0 c then uPl D else 0).toNat = k := by
        by_cases e : uIn D 0 c
        · first
          | exact absurd e c79
          | (rw [if_pos e]; omega)
        · rw [if_neg e]; have := g1.resolve_left e; omega
      rw [en, ← g6]; exact g5
    · refine wp_aload_n (pc := 73) d_M_mixCopies_73 rfl ?_
      refine wp_getR (pc := 74) d_M_mixCopies_74 rfl (zk_174 L) zx_174_19 ?_
      refine wp_iload_n (pc := 77) d_M_mixCopies_77 rfl ?_
      refine wp_bald (pc := 78) d_M_mixCopies_78 (zk_185 L) (by omega) (by omega) ?_
      rw [ho]
      refine wp_if_ne (tgt := 104) (pc := 79) d_M_mixCopies_79 rfl (fun c79 => ?_) (fun c79 => ?_)
      · have c79 := zc_ne0 c79
        refine hq M _ g3 ?_
        unfold dRd
        have en : (if uIn D 0 c then uPl D else 0).toNat = k := by
          by_cases e : uIn D 0 c
          · first
            | exact absurd e c79
            | (rw [if_pos e]; omega)
          · rw [if_neg e]; have := g1.resolve_left e; omega
        rw [en, ← g6]; exact g5
      · have c79 := zc_eq0 (Decidable.of_not_not c79)
        refine wp_aload_n (pc := 82) d_M_mixCopies_82 rfl ?_
        refine wp_aload_n (pc := 83) d_M_mixCopies_83 rfl ?_
        refine wp_getR (pc := 84) d_M_mixCopies_84 rfl (zk_174 L) zx_174_18 ?_
        refine wp_bipush (pc := 87) d_M_mixCopies_87 rfl ?_
        refine wp_iload_n (pc := 89) d_M_mixCopies_89 rfl ?_
        refine wp_imul (pc := 90) d_M_mixCopies_90 (by omega) (by omega) ?_
        refine wp_iload_n (pc := 91) d_M_mixCopies_91 rfl ?_
        refine wp_iadd (pc := 92) d_M_mixCopies_92 (by omega) (by omega) ?_
        refine wp_iald (pc := 93) d_M_mixCopies_93 (zk_184 L) (by omega) (by omega) ?_
        rw [hsM.1.2.2.2 c c0 (by omega) c79 (k : Int) (by omega) (by omega)]
        refine wp_i2l (pc := 94) d_M_mixCopies_94 ?_
        refine wp_callV1v (pc := 95) d_M_mixCopies_95 rfl rfl (zk_174 L) rfl rfl (c_M_mix g5) (fun M95 h95 => ?_)
        refine wp_iinc2 (pc := 98) d_M_mixCopies_98 rfl (by omega) (by omega) ?_
        refine wp_goto (tgt := 65) (pc := 101) d_M_mixCopies_101 rfl ?_
        obtain ⟨m1, m2⟩ := h95
        refine ih (k + 1) M95 _ (by omega) (by omega) (Or.inl c79) (g3.tr m1) m2 ?_
        rw [wF_s, ← g6]
        rfl
theorem lp_mc4 {M0 : zM} (h : mH M0 D) (hd : mDi D) {hb : Int64} {Qx : Option zV → zM → Prop} (hq : ∀ (M' : zM) (u1 u2 : zV), mF mPd M0 M' → mHh M' (dCopies D hb) → wp L 8 zm_M_mixCopies 110 [rV 174, u1, u2, uV] [] M' Qx) : ∀ (n9 : Nat) (k : Nat) (x : Int) (M : zM) (hv : Int64) (u2 : zV), D.2.2.2 - x < n9 → (x = k) → ((k : Int) ≤ D.2.2.2) → (mF mPd M0 M) → (mHh M hv) → (hv = wF (fun c h => dRd D c (dTx D c (dCp D c h))) k hb) → wp L 8 zm_M_mixCopies 2 [rV 174, iV x, u2, uV] [] M (Qx) := by
  intro n9
  induction n9 with
  | zero =>
    intro k  x  M  hv  u2  h9 g1 g0 g3 g5 g6
    have hd1 := hd.1
    exact absurd h9 (by omega)
  | succ n9 ih =>
    intro k  x  M  hv  u2  h9 g1 g0 g3 g5 g6
    have hd1 := hd.1
    have hpl := hd.pl
    have hM : mH M D := h.keep g3 (by omega) (by omega) (by omega)
    have e2 := hM.1
    refine wp_iload_n (pc := 2) d_M_mixCopies_2 rfl ?_
    refine wp_aload_n (pc := 3) d_M_mixCopies_3 rfl ?_
    refine wp_getI (pc := 4) d_M_mixCopies_4 rfl (by decide) (zk_174 L) ?_
    refine wp_icmp_ge (tgt := 110) (pc := 7) d_M_mixCopies_7 rfl (fun c7 => ?_) (fun c7 => ?_)
    · refine hq M _ _ g3 ?_
      unfold dCopies
      rw [show D.2.2.2.toNat = k by omega, ← g6]; exact g5
    · refine wp_iconst (pc := 10) d_M_mixCopies_10 rfl ?_
      refine wp_ist2 (pc := 11) d_M_mixCopies_11 rfl ?_
      refine lp_mc1 hM hd (c := x) (by omega) (by omega) (hb := hv) (fun M1 v2 n1 n2 n3 => ?_) 100 0 M hv (by omega) (by omega) mF.rf (Or.inl rfl) g5 rfl
      have hM1 : mH M1 D := hM.keep n1 (by omega) (by omega) (by omega)
      have ll := hd.l (show 0 ≤ x by omega) (by omega)
      refine wp_iconst (pc := 34) d_M_mixCopies_34 rfl ?_
      refine wp_ist2 (pc := 35) d_M_mixCopies_35 rfl ?_
      refine lp_mc2 hM1 hd (c := x) (by omega) (by omega) (hb := dCp D x hv) (fun M2 v2' n4 n5 => ?_) 100 0 M1 _ (by omega) (by omega) mF.rf n3 rfl
      have hM2 : mH M2 D := hM1.keep n4 (by omega) (by omega) (by omega)
      refine wp_iconst (pc := 63) d_M_mixCopies_63 rfl ?_
      refine wp_ist2 (pc := 64) d_M_mixCopies_64 rfl ?_
      refine lp_mc3 hM2 hd (n2.keep hd n4 (by omega) (by omega)) (c := x) (by omega) (by omega) (hb := dTx D x (dCp D x hv)) (fun M3 v2'' n6 n7 => ?_) 100 0 M2 _ (by omega) (by omega) (Or.inr rfl) mF.rf n5 rfl
      refine wp_iinc1 (pc := 104) d_M_mixCopies_104 rfl (by omega) (by omega) ?_
      refine wp_goto (tgt := 2) (pc := 107) d_M_mixCopies_107 rfl ?_
      refine ih (k + 1) _ M3 _ _ (by omega) (by omega) (by omega) (((g3.tr n1).tr (n4.up (fun a k z => by omega))).tr (n6.up (fun a k z => by omega))) n7 ?_
      rw [wF_s, ← g6, g1]
theorem lp_mp1 {M0 : zM} (h : mH M0 D) (hd : mDi D) (x0 : 0 ≤ x) (x1 : x < D.2.2.2) (y0 : 0 ≤ y) (y1 : y < D.2.2.2) {hb : Int64} {Qx : Option zV → zM → Prop} (hq : ∀ (M' : zM) (u3 : zV), mF mPd M0 M' → mHh M' (dTa D x y hb) → wp L 8 zm_M_mixCopies 158 [rV 174, iV x, iV y, u3] [] M' Qx) : ∀ (n9 : Nat) (k : Nat) (M : zM) (hv : Int64), 7 - (k : Int) < n9 → (k ≤ 7) → (mF mPd M0 M) → (mHh M hv) → (hv = wF (fun w h => uX h (uTa D x y w)) k hb) → wp L 8 zm_M_mixCopies 134 [rV 174, iV x, iV y, iV k] [] M (Qx) := by
  intro n9
  induction n9 with
  | zero =>
    intro k  M  hv  h9 g0 g3 g5 g6
    exact absurd h9 (by omega)
  | succ n9 ih =>
    intro k  M  hv  h9 g0 g3 g5 g6
    have hd1 := hd.1
    have hpl := hd.pl
    have hM : mH M D := h.keep g3 (by omega) (by omega) (by omega)
    have e2 := hM.1
    refine wp_iload_n (pc := 134) d_M_mixCopies_134 rfl ?_
    refine wp_bipush (pc := 135) d_M_mixCopies_135 rfl ?_
    refine wp_icmp_ge (tgt := 158) (pc := 137) d_M_mixCopies_137 rfl (fun c137 => ?_) (fun c137 => ?_)
    · refine hq M _ g3 ?_
      unfold dTa
      rw [show 7 = k by omega, ← g6]; exact g5
    · refine wp_aload_n (pc := 140) d_M_mixCopies_140 rfl ?_
      refine wp_aload_n (pc := 141) d_M_mixCopies_141 rfl ?_
      refine wp_iload_n (pc := 142) d_M_mixCopies_142 rfl ?_
      refine wp_iload_n (pc := 143) d_M_mixCopies_143 rfl ?_
      refine wp_iload_n (pc := 144) d_M_mixCopies_144 rfl ?_
      refine wp_callV3i (pc := 145) d_M_mixCopies_145 rfl rfl (zk_174 L) rfl rfl (c_M_collateNow hM hd x0 x1 y0 y1) (fun x145 M145 h145 => ?_)
      obtain ⟨a1, a2, a3⟩ := h145
      have hh := g5.keep a2 (by omega)
      refine wp_i2l (pc := 148) d_M_mixCopies_148 ?_
      refine wp_callV1v (pc := 149) d_M_mixCopies_149 rfl rfl (zk_174 L) rfl rfl (c_M_mix hh) (fun M149 h149 => ?_)
      refine wp_iinc3 (pc := 152) d_M_mixCopies_152 rfl (by omega) (by omega) ?_
      refine wp_goto (tgt := 134) (pc := 155) d_M_mixCopies_155 rfl ?_
      obtain ⟨m1, m2⟩ := h149
      refine ih (k + 1) M149 _ (by omega) (by omega) ((g3.tr (a2.up (fun a k z => by omega))).tr (m1.up (fun a k z => by omega))) m2 ?_
      rw [wF_s, ← g6, a1]
      rfl
theorem lp_mp2 {M0 : zM} (h : mH M0 D) (hd : mDi D) (x0 : 0 ≤ x) (x1 : x < D.2.2.2) {hb : Int64} {Qx : Option zV → zM → Prop} (hq : ∀ (M' : zM) (u2 u3 : zV), mF mPd M0 M' → mHh M' (wF (fun j h => dTa D x (x + 1 + j) h) (D.2.2.2 - (x + 1)).toNat hb) → wp L 8 zm_M_mixCopies 164 [rV 174, iV x, u2, u3] [] M' Qx) : ∀ (n9 : Nat) (k : Nat) (y : Int) (M : zM) (hv : Int64) (u3 : zV), D.2.2.2 - y < n9 → (y = x + 1 + k) → (y ≤ D.2.2.2) → (mF mPd M0 M) → (mHh M hv) → (hv = wF (fun j h => dTa D x (x + 1 + j) h) k hb) → wp L 8 zm_M_mixCopies 124 [rV 174, iV x, iV y, u3] [] M (Qx) := by
  intro n9
  induction n9 with
  | zero =>
    intro k  y  M  hv  u3  h9 g1 g0 g3 g5 g6
    exact absurd h9 (by omega)
  | succ n9 ih =>
    intro k  y  M  hv  u3  h9 g1 g0 g3 g5 g6
    have hd1 := hd.1
    have hpl := hd.pl
    have hM : mH M D := h.keep g3 (by omega) (by omega) (by omega)
    have e2 := hM.1
    refine wp_iload_n (pc := 124) d_M_mixCopies_124 rfl ?_
    refine wp_aload_n (pc := 125) d_M_mixCopies_125 rfl ?_
    refine wp_getI (pc := 126) d_M_mixCopies_126 rfl (by decide) (zk_174 L) ?_
    refine wp_icmp_ge (tgt := 164) (pc := 129) d_M_mixCopies_129 rfl (fun c129 => ?_) (fun c129 => ?_)
    · refine hq M _ _ g3 ?_
      rw [show (D.2.2.2 - (x + 1)).toNat = k by omega, ← g6]; exact g5
    · refine wp_iconst (pc := 132) d_M_mixCopies_132 rfl ?_
      refine wp_ist3 (pc := 133) d_M_mixCopies_133 rfl ?_
      refine lp_mp1 hM hd x0 x1 (y := y) (by omega) (by omega) (hb := hv) (fun M1 u3' n1 n2 => ?_) 100 0 M hv (by omega) (by omega) mF.rf g5 rfl
      refine wp_iinc2 (pc := 158) d_M_mixCopies_158 rfl (by omega) (by omega) ?_
      refine wp_goto (tgt := 124) (pc := 161) d_M_mixCopies_161 rfl ?_
      refine ih (k + 1) _ M1 _ _ (by omega) (by omega) (by omega) (g3.tr n1) n2 ?_
      rw [wF_s, ← g6, g1]
theorem lp_mp3 {M0 : zM} (h : mH M0 D) (hd : mDi D) {hb : Int64} {Qx : Option zV → zM → Prop} (hq : ∀ (M' : zM), mF mPd M0 M' → mHh M' (dPairs D hb) → Qx none M') : ∀ (n9 : Nat) (k : Nat) (x : Int) (M : zM) (hv : Int64) (u2 : zV) (u3 : zV), D.2.2.2 - x < n9 → (x = k) → (x ≤ D.2.2.2) → (mF mPd M0 M) → (mHh M hv) → (hv = wF (fun x h => wF (fun j h => dTa D x (x + 1 + j) h) (D.2.2.2 - (x + 1)).toNat h) k hb) → wp L 8 zm_M_mixCopies 112 [rV 174, iV x, u2, u3] [] M (Qx) := by
  intro n9
  induction n9 with
  | zero =>
    intro k  x  M  hv  u2  u3  h9 g1 g0 g3 g5 g6
    exact absurd h9 (by omega)
  | succ n9 ih =>
    intro k  x  M  hv  u2  u3  h9 g1 g0 g3 g5 g6
    have hd1 := hd.1
    have hpl := hd.pl
    have hM : mH M D := h.keep g3 (by omega) (by omega) (by omega)
    have e2 := hM.1
    refine wp_iload_n (pc := 112) d_M_mixCopies_112 rfl ?_
    refine wp_aload_n (pc := 113) d_M_mixCopies_113 rfl ?_
    refine wp_getI (pc := 114) d_M_mixCopies_114 rfl (by decide) (zk_174 L) ?_
    refine wp_icmp_ge (tgt := 170) (pc := 117) d_M_mixCopies_117 rfl (fun c117 => ?_) (fun c117 => ?_)
    · refine wp_return_ (pc := 170) d_M_mixCopies_170 rfl ?_
      refine hq M g3 ?_
      unfold dPairs
      rw [show D.2.2.2.toNat = k by omega, ← g6]; exact g5
    · refine wp_iload_n (pc := 120) d_M_mixCopies_120 rfl ?_
      refine wp_iconst (pc := 121) d_M_mixCopies_121 rfl ?_
      refine wp_iadd (pc := 122) d_M_mixCopies_122 (by omega) (by omega) ?_
      refine wp_ist2 (pc := 123) d_M_mixCopies_123 rfl ?_
      refine lp_mp2 hM hd (x := x) (by omega) (by omega) (hb := hv) (fun M1 u2' u3' n1 n2 => ?_) 100 0 _ M hv _ (by omega) (by omega) (by omega) mF.rf g5 rfl
      refine wp_iinc1 (pc := 164) d_M_mixCopies_164 rfl (by omega) (by omega) ?_
      refine wp_goto (tgt := 112) (pc := 167) d_M_mixCopies_167 rfl ?_
      refine ih (k + 1) _ M1 _ _ _ (by omega) (by omega) (by omega) (g3.tr n1) n2 ?_
      rw [wF_s, ← g6, g1]
theorem c_M_mixCopies (h : mH M D) (hd : mDi D) {hb : Int64} (hh : mHh M hb) : Cv L 8 zm_M_mixCopies [rV 174] M (fun M' => mF mPd M M' ∧ mHh M' (dPairs D (dCopies D hb))) := by
  show wp L _ zm_M_mixCopies 0 [rV 174, uV, uV, uV] [] M _
  have hd1 := hd.1
  refine wp_iconst (pc := 0) d_M_mixCopies_0 rfl ?_
  refine wp_ist1 (pc := 1) d_M_mixCopies_1 rfl ?_
  refine lp_mc4 (M0 := M) h hd (hb := hb) (fun M1 v1 v2 n1 n2 => ?_) 100 0 0 M hb _ (by omega) rfl (by omega) mF.rf hh rfl
  refine wp_iconst (pc := 110) d_M_mixCopies_110 rfl ?_
  refine wp_ist1 (pc := 111) d_M_mixCopies_111 rfl ?_
  exact lp_mp3 (M0 := M1) (h.keep n1 (by omega) (by omega) (by omega)) hd (hb := dCopies D hb) (fun M2 n3 n4 => ⟨rfl, n1.tr n3, n4⟩) 100 0 0 M1 _ _ _ (by omega) rfl (by omega) mF.rf n2 rfl
theorem lp_ms1 {M0 : zM} (h : mH M0 D) (hd : mDi D) (hs : mSt M0 D) (s0 : 0 ≤ s) (s1 : s < uN D) {hb : Int64} {Qx : Option zV → zM → Prop} (hq : ∀ (M' : zM) (u2 : zV), mF mPd M0 M' → mHh M' (dSt D s hb) → mSt M' D → wp L 8 zm_M_mixStates 59 [rV 174, iV s, u2] [] M' Qx) : ∀ (n9 : Nat) (k : Nat) (M : zM) (hv : Int64), 7 - (k : Int) < n9 → (k ≤ 7) → (mF mPh M0 M) → (mHh M hv) → (hv = wF (fun w h => uX h (uDe D s w)) k hb) → wp L 8 zm_M_mixStates 36 [rV 174, iV s, iV k] [] M (Qx) := by
  intro n9
  induction n9 with
  | zero =>
    intro k  M  hv  h9 g0 g3 g5 g6
    exact absurd h9 (by omega)
  | succ n9 ih =>
    intro k  M  hv  h9 g0 g3 g5 g6
    have hd1 := hd.1
    have hpl := hd.pl
    have hM : mH M D := h.keep g3 (by omega) (by omega) (by omega)
    have e2 := hM.1
    have hsM : mSt M D := hs.keep hd g3 (by omega) (by omega)
    refine wp_iload_n (pc := 36) d_M_mixStates_36 rfl ?_
    refine wp_bipush (pc := 37) d_M_mixStates_37 rfl ?_
    refine wp_icmp_ge (tgt := 59) (pc := 39) d_M_mixStates_39 rfl (fun c39 => ?_) (fun c39 => ?_)
    · refine hq M _ (g3.up (fun a k z => by omega)) ?_ hsM
      unfold dSt
      rw [show 7 = k by omega, ← g6]; exact g5
    · refine wp_aload_n (pc := 42) d_M_mixStates_42 rfl ?_
      refine wp_aload_n (pc := 43) d_M_mixStates_43 rfl ?_
      refine wp_iload_n (pc := 44) d_M_mixStates_44 rfl ?_
      refine wp_iload_n (pc := 45) d_M_mixStates_45 rfl ?_
      refine wp_callV2f (pc := 46) d_M_mixStates_46 rfl rfl (zk_174 L) rfl rfl (c_M_tellState hM hd hsM s0 s1 (by omega) (by omega)) ?_
      refine wp_i2l (pc := 49) d_M_mixStates_49 ?_
      refine wp_callV1v (pc := 50) d_M_mixStates_50 rfl rfl (zk_174 L) rfl rfl (c_M_mix g5) (fun M50 h50 => ?_)
      refine wp_iinc2 (pc := 53) d_M_mixStates_53 rfl (by omega) (by omega) ?_
      refine wp_goto (tgt := 36) (pc := 56) d_M_mixStates_56 rfl ?_
      obtain ⟨m1, m2⟩ := h50
      refine ih (k + 1) M50 _ (by omega) (by omega) (g3.tr m1) m2 ?_
      rw [wF_s, ← g6]
      rfl
theorem lp_ms2 {M0 : zM} (h : mH M0 D) (hd : mDi D) {hb : Int64} : ∀ (n9 : Nat) (k : Nat) (x : Int) (M : zM) (hv : Int64) (u2 : zV), uN D - x < n9 → (x = k) → (x ≤ uN D) → (mF mPd M0 M) → (mSt M D) → (mHh M hv) → (hv = wF (fun s h => dSt D s h) k (wF (fun w h => uX h (uDa D w)) 6 hb)) → wp L 8 zm_M_mixStates 26 [rV 174, iV x, u2] [] M (fun r M' => r = none ∧ (mF mPd M0 M' ∧ mHh M' (dStates D hb))) := by
  intro n9
  induction n9 with
  | zero =>
    intro k  x  M  hv  u2  h9 g1 g0 g3 g4 g5 g6
    exact absurd h9 (by omega)
  | succ n9 ih =>
    intro k  x  M  hv  u2  h9 g1 g0 g3 g4 g5 g6
    have hd1 := hd.1
    have hpl := hd.pl
    have hM : mH M D := h.keep g3 (by omega) (by omega) (by omega)
    have e2 := hM.1
    have hn := uN_m hd
    have e20 : M 174 20 = uN D := g4.1.1
    refine wp_iload_n (pc := 26) d_M_mixStates_26 rfl ?_
    refine wp_aload_n (pc := 27) d_M_mixStates_27 rfl ?_
    refine wp_getI (pc := 28) d_M_mixStates_28 rfl (by decide) (zk_174 L) ?_
    refine wp_icmp_ge (tgt := 65) (pc := 31) d_M_mixStates_31 rfl (fun c31 => ?_) (fun c31 => ?_)
    · refine wp_return_ (pc := 65) d_M_mixStates_65 rfl ?_
      refine ⟨rfl, g3, ?_⟩
      unfold dStates
      rw [show (uN D).toNat = k by omega, ← g6]; exact g5
    · refine wp_iconst (pc := 34) d_M_mixStates_34 rfl ?_
      refine wp_ist2 (pc := 35) d_M_mixStates_35 rfl ?_
      refine lp_ms1 hM hd g4 (s := x) (by omega) (by omega) (hb := hv) (fun M1 u2' n1 n2 n3 => ?_) 100 0 M hv (by omega) (by omega) mF.rf g5 rfl
      refine wp_iinc1 (pc := 59) d_M_mixStates_59 rfl (by omega) (by omega) ?_
      refine wp_goto (tgt := 26) (pc := 62) d_M_mixStates_62 rfl ?_
      refine ih (k + 1) _ M1 _ _ (by omega) (by omega) (by omega) (g3.tr n1) n3 n2 ?_
      rw [wF_s, ← g6, g1]
theorem lp_ms3 {M0 : zM} (h : mH M0 D) (hd : mDi D) {hb : Int64} : ∀ (n9 : Nat) (k : Nat) (M : zM) (hv : Int64), 6 - (k : Int) < n9 → (k ≤ 6) → (mF mPd M0 M) → (k = 0 ∨ mSt M D) → (mHh M hv) → (hv = wF (fun w h => uX h (uDa D w)) k hb) → wp L 8 zm_M_mixStates 2 [rV 174, iV k, uV] [] M (fun r M' => r = none ∧ (mF mPd M0 M' ∧ mHh M' (dStates D hb))) := by
  intro n9
  induction n9 with
  | zero =>
    intro k  M  hv  h9 g0 g3 g4 g5 g6
    exact absurd h9 (by omega)
  | succ n9 ih =>
    intro k  M  hv  h9 g0 g3 g4 g5 g6
    have hd1 := hd.1
    have hpl := hd.pl
    have hM : mH M D := h.keep g3 (by omega) (by omega) (by omega)
    have e2 := hM.1
    have hn := uN_m hd
    refine wp_iload_n (pc := 2) d_M_mixStates_2 rfl ?_
    refine wp_bipush (pc := 3) d_M_mixStates_3 rfl ?_
    refine wp_icmp_ge (tgt := 24) (pc := 5) d_M_mixStates_5 rfl (fun c5 => ?_) (fun c5 => ?_)
    · refine wp_iconst (pc := 24) d_M_mixStates_24 rfl ?_
      refine wp_ist1 (pc := 25) d_M_mixStates_25 rfl ?_
      exact lp_ms2 h hd (hb := hb) 100 0 0 M hv _ (by omega) rfl (by omega) g3 (g4.resolve_left (by omega)) g5 (by rw [wF_0, show 6 = k by omega]; exact g6)
    · refine wp_aload_n (pc := 8) d_M_mixStates_8 rfl ?_
      refine wp_aload_n (pc := 9) d_M_mixStates_9 rfl ?_
      refine wp_iload_n (pc := 10) d_M_mixStates_10 rfl ?_
      refine wp_callV1i (pc := 11) d_M_mixStates_11 rfl rfl (zk_174 L) rfl rfl (c_M_statesNow hM hd (by omega) (by omega)) (fun x11 M11 h11 => ?_)
      obtain ⟨a1, a2, a3⟩ := h11
      have hh := g5.keep a2 (by omega)
      refine wp_i2l (pc := 14) d_M_mixStates_14 ?_
      refine wp_callV1v (pc := 15) d_M_mixStates_15 rfl rfl (zk_174 L) rfl rfl (c_M_mix hh) (fun M15 h15 => ?_)
      refine wp_iinc1 (pc := 18) d_M_mixStates_18 rfl (by omega) (by omega) ?_
      refine wp_goto (tgt := 2) (pc := 21) d_M_mixStates_21 rfl ?_
      obtain ⟨m1, m2⟩ := h15
      refine ih (k + 1) M15 _ (by omega) (by omega) ((g3.tr (a2.up (fun a k z => by omega))).tr (m1.up (fun a k z => by omega))) (Or.inr (a3.keep hd m1 (by omega) (by omega))) m2 ?_
      rw [wF_s, ← g6, a1]
      rfl
theorem c_M_mixStates (h : mH M D) (hd : mDi D) {hb : Int64} (hh : mHh M hb) : Cv L 8 zm_M_mixStates [rV 174] M (fun M' => mF mPd M M' ∧ mHh M' (dStates D hb)) := by
  show wp L _ zm_M_mixStates 0 [rV 174, uV, uV] [] M _
  refine wp_iconst (pc := 0) d_M_mixStates_0 rfl ?_
  refine wp_ist1 (pc := 1) d_M_mixStates_1 rfl ?_
  exact lp_ms3 (M0 := M) h hd 100 0 M hb (by omega) (by omega) mF.rf (Or.inl rfl) hh rfl
theorem lp_mf4 {M0 : zM} (hy : mY M0 Y) (hi : qYi Y) {hb : Int64} : ∀ (n9 : Nat) (k : Nat) (M : zM) (hv : Int64), vOl Y - (k : Int) < n9 → ((k : Int) ≤ vOl Y) → (mF (fun a k => mPz a k ∨ mPh a k) M0 M) → (mHh M hv) → (hv = wF (fun p h => uX h (vFi Y p)) k (wF (fun w h => uX h (vFs Y w)) 6 (wF (fun f h => dFm Y f h) 6 (dSight Y hb)))) → wp L 8 zm_M_mixFormes 88 [rV 174, iV k] [] M (fun r M' => r = none ∧ (mF (fun a k => mPz a k ∨ mPh a k) M0 M' ∧ mHh M' (dFormes Y (dSight Y hb)))) := by
  intro n9
  induction n9 with
  | zero =>
    intro k  M  hv  h9 g0 g3 g5 g6
    have hv6 : vOl Y ≤ 24 := by unfold vOl; have := qPc_b (vS Y vAll) 24; split <;> omega
    exact absurd h9 (by omega)
  | succ n9 ih =>
    intro k  M  hv  h9 g0 g3 g5 g6
    have h12 := hi.1
    have hyM : mY M Y := hy.keep g3 (by omega) (by omega)
    have e7 := hyM.1
    have hv6 : vOl Y ≤ 24 := by unfold vOl; have := qPc_b (vS Y vAll) 24; split <;> omega
    refine wp_aload_n (pc := 88) d_M_mixFormes_88 rfl ?_
    refine wp_iload_n (pc := 89) d_M_mixFormes_89 rfl ?_
    refine wp_callV1i (pc := 90) d_M_mixFormes_90 rfl rfl (zk_174 L) rfl rfl (c_M_orderAt hyM hi) (fun x90 M90 h90 => ?_)
    obtain ⟨a1, a2, a3⟩ := h90
    have hy1 : mY M90 Y := hyM.keep a2 (by omega) (by omega)
    have hh1 := g5.keep a2 (by omega)
    refine wp_iconst (pc := 93) d_M_mixFormes_93 rfl ?_
    refine wp_icmp_eq (tgt := 113) (pc := 94) d_M_mixFormes_94 rfl (fun c94 => ?_) (fun c94 => ?_)
    · refine wp_return_ (pc := 113) d_M_mixFormes_113 rfl ?_
      have hk : ¬ (k : Int) < vOl Y := fun e => by
        unfold vFa at a1
        rw [if_pos ⟨by omega, e⟩] at a1
        have := vFi_p hi (show 0 ≤ (k : Int) by omega) e
        omega
      refine ⟨rfl, g3.tr (a2.up (fun a k z => by omega)), ?_⟩
      unfold dFormes
      rw [show (vOl Y).toNat = k by omega, ← g6]; exact hh1
    · refine wp_aload_n (pc := 97) d_M_mixFormes_97 rfl ?_
      refine wp_aload_n (pc := 98) d_M_mixFormes_98 rfl ?_
      refine wp_iload_n (pc := 99) d_M_mixFormes_99 rfl ?_
      refine wp_callV1i (pc := 100) d_M_mixFormes_100 rfl rfl (zk_174 L) rfl rfl (c_M_orderAt hy1 hi) (fun x100 M100 h100 => ?_)
      obtain ⟨b1, b2, b3⟩ := h100
      have hh := hh1.keep b2 (by omega)
      refine wp_i2l (pc := 103) d_M_mixFormes_103 ?_
      refine wp_callV1v (pc := 104) d_M_mixFormes_104 rfl rfl (zk_174 L) rfl rfl (c_M_mix hh) (fun M104 h104 => ?_)
      refine wp_iinc1 (pc := 107) d_M_mixFormes_107 rfl (by omega) (by omega) ?_
      refine wp_goto (tgt := 88) (pc := 110) d_M_mixFormes_110 rfl ?_
      obtain ⟨m1, m2⟩ := h104
      have hk : (k : Int) < vOl Y := by
        by_cases e : (k : Int) < vOl Y
        · exact e
        · unfold vFa at a1; rw [if_neg (by omega)] at a1; exact absurd a1 c94
      have hf : vFa Y (k : Int) = vFi Y (k : Int) := if_pos ⟨by omega, hk⟩
      refine ih (k + 1) M104 _ (by omega) (by omega) (((g3.tr (a2.up (fun a k z => by omega))).tr (b2.up (fun a k z => by omega))).tr (m1.up (fun a k z => by omega))) m2 ?_
      rw [wF_s, ← g6, b1, hf]
      rfl
theorem lp_mf3 {M0 : zM} (hy : mY M0 Y) (hi : qYi Y) {hb : Int64} : ∀ (n9 : Nat) (k : Nat) (M : zM) (hv : Int64), 6 - (k : Int) < n9 → (k ≤ 6) → (mF (fun a k => mPz a k ∨ mPh a k) M0 M) → (mHh M hv) → (hv = wF (fun w h => uX h (vFs Y w)) k (wF (fun f h => dFm Y f h) 6 (dSight Y hb))) → wp L 8 zm_M_mixFormes 64 [rV 174, iV k] [] M (fun r M' => r = none ∧ (mF (fun a k => mPz a k ∨ mPh a k) M0 M' ∧ mHh M' (dFormes Y (dSight Y hb)))) := by
  intro n9
  induction n9 with
  | zero =>
    intro k  M  hv  h9 g0 g3 g5 g6
    exact absurd h9 (by omega)
  | succ n9 ih =>
    intro k  M  hv  h9 g0 g3 g5 g6
    have h12 := hi.1
    have hyM : mY M Y := hy.keep g3 (by omega) (by omega)
    have e7 := hyM.1
    refine wp_iload_n (pc := 64) d_M_mixFormes_64 rfl ?_
    refine wp_bipush (pc := 65) d_M_mixFormes_65 rfl ?_
    refine wp_icmp_ge (tgt := 86) (pc := 67) d_M_mixFormes_67 rfl (fun c67 => ?_) (fun c67 => ?_)
    · refine wp_iconst (pc := 86) d_M_mixFormes_86 rfl ?_
      refine wp_ist1 (pc := 87) d_M_mixFormes_87 rfl ?_
      have hv0 : 0 ≤ vOl Y ∧ vOl Y ≤ 24 := by unfold vOl; have := qPc_b (vS Y vAll) 24; split <;> omega
      have hk : k = 6 := by omega
      subst hk
      exact lp_mf4 hy hi (hb := hb) 100 0 M hv (by omega) (by omega) g3 g5 (by rw [wF_0]; exact g6)
    · refine wp_aload_n (pc := 70) d_M_mixFormes_70 rfl ?_
      refine wp_aload_n (pc := 71) d_M_mixFormes_71 rfl ?_
      refine wp_iload_n (pc := 72) d_M_mixFormes_72 rfl ?_
      refine wp_callV1i (pc := 73) d_M_mixFormes_73 rfl rfl (zk_174 L) rfl rfl (c_M_formesNow hyM hi (by omega) (by omega)) (fun x73 M73 h73 => ?_)
      obtain ⟨a1, a2⟩ := h73
      have hh := g5.keep a2 (by omega)
      refine wp_i2l (pc := 76) d_M_mixFormes_76 ?_
      refine wp_callV1v (pc := 77) d_M_mixFormes_77 rfl rfl (zk_174 L) rfl rfl (c_M_mix hh) (fun M77 h77 => ?_)
      refine wp_iinc1 (pc := 80) d_M_mixFormes_80 rfl (by omega) (by omega) ?_
      refine wp_goto (tgt := 64) (pc := 83) d_M_mixFormes_83 rfl ?_
      obtain ⟨m1, m2⟩ := h77
      refine ih (k + 1) M77 _ (by omega) (by omega) ((g3.tr (a2.up (fun a k z => by omega))).tr (m1.up (fun a k z => by omega))) m2 ?_
      rw [wF_s, ← g6, a1]
      rfl
theorem lp_mf2 {M0 : zM} (hy : mY M0 Y) (hi : qYi Y) {hb : Int64} : ∀ (n9 : Nat) (k : Nat) (M : zM) (hv : Int64), 30 - (k : Int) < n9 → (k ≤ 30) → (mF (fun a k => mPz a k ∨ mPh a k) M0 M) → (mHh M hv) → (hv = wF (fun k h => uX h (vFm Y ((k.toNat / 5 : Nat) : Int) ((k.toNat % 5 : Nat) : Int))) k (dSight Y hb)) → wp L 8 zm_M_mixFormes 35 [rV 174, iV k] [] M (fun r M' => r = none ∧ (mF (fun a k => mPz a k ∨ mPh a k) M0 M' ∧ mHh M' (dFormes Y (dSight Y hb)))) := by
  intro n9
  induction n9 with
  | zero =>
    intro k  M  hv  h9 g0 g3 g5 g6
    exact absurd h9 (by omega)
  | succ n9 ih =>
    intro k  M  hv  h9 g0 g3 g5 g6
    have h12 := hi.1
    have hyM : mY M Y := hy.keep g3 (by omega) (by omega)
    have e7 := hyM.1
    refine wp_iload_n (pc := 35) d_M_mixFormes_35 rfl ?_
    refine wp_bipush (pc := 36) d_M_mixFormes_36 rfl ?_
    refine wp_icmp_ge (tgt := 62) (pc := 38) d_M_mixFormes_38 rfl (fun c38 => ?_) (fun c38 => ?_)
    · refine wp_iconst (pc := 62) d_M_mixFormes_62 rfl ?_
      refine wp_ist1 (pc := 63) d_M_mixFormes_63 rfl ?_
      have he : hv = wF (fun f h => dFm Y f h) 6 (dSight Y hb) := by
        rw [g6, show k = 5 * 6 by omega]
        exact wF_mul (vFm Y) 5 (dSight Y hb) 6
      exact lp_mf3 hy hi (hb := hb) 100 0 M hv (by omega) (by omega) g3 g5 (by rw [wF_0]; exact he)
    · have hq5 := zn_d5 k (by omega)
      refine wp_aload_n (pc := 41) d_M_mixFormes_41 rfl ?_
      refine wp_aload_n (pc := 42) d_M_mixFormes_42 rfl ?_
      refine wp_iload_n (pc := 43) d_M_mixFormes_43 rfl ?_
      refine wp_iconst (pc := 44) d_M_mixFormes_44 rfl ?_
      refine wp_idiv (v := ((k / 5 : Nat) : Int)) (pc := 45) d_M_mixFormes_45 (by omega) hq5.1 ?_
      refine wp_iload_n (pc := 46) d_M_mixFormes_46 rfl ?_
      refine wp_iconst (pc := 47) d_M_mixFormes_47 rfl ?_
      refine wp_irem (v := ((k % 5 : Nat) : Int)) (pc := 48) d_M_mixFormes_48 (by omega) hq5.2 ?_
      refine wp_callV2i (pc := 49) d_M_mixFormes_49 rfl rfl (zk_174 L) rfl rfl (c_M_formeNow hyM hi (by omega) (by omega) (by omega)) (fun x49 M49 h49 => ?_)
      obtain ⟨a1, a2⟩ := h49
      have hh := g5.keep a2 (by omega)
      refine wp_i2l (pc := 52) d_M_mixFormes_52 ?_
      refine wp_callV1v (pc := 53) d_M_mixFormes_53 rfl rfl (zk_174 L) rfl rfl (c_M_mix hh) (fun M53 h53 => ?_)
      refine wp_iinc1 (pc := 56) d_M_mixFormes_56 rfl (by omega) (by omega) ?_
      refine wp_goto (tgt := 35) (pc := 59) d_M_mixFormes_59 rfl ?_
      obtain ⟨m1, m2⟩ := h53
      refine ih (k + 1) M53 _ (by omega) (by omega) ((g3.tr (a2.up (fun a k z => by omega))).tr (m1.up (fun a k z => by omega))) m2 ?_
      rw [wF_s, ← g6, a1]
      rfl
theorem lp_mf1 {M0 : zM} (hy : mY M0 Y) (hi : qYi Y) {hb : Int64} : ∀ (n9 : Nat) (k : Nat) (M : zM) (hv : Int64), 4 * Y.1 - (k : Int) < n9 → ((k : Int) ≤ 4 * Y.1) → (mF (fun a k => mPz a k ∨ mPh a k) M0 M) → (mHh M hv) → (hv = wF (fun k h => uX h (Y.2 ((k.toNat / 4 : Nat) : Int) ((k.toNat % 4 : Nat) : Int))) k hb) → wp L 8 zm_M_mixFormes 2 [rV 174, iV k] [] M (fun r M' => r = none ∧ (mF (fun a k => mPz a k ∨ mPh a k) M0 M' ∧ mHh M' (dFormes Y (dSight Y hb)))) := by
  intro n9
  induction n9 with
  | zero =>
    intro k  M  hv  h9 g0 g3 g5 g6
    have h12 := hi.1
    exact absurd h9 (by omega)
  | succ n9 ih =>
    intro k  M  hv  h9 g0 g3 g5 g6
    have h12 := hi.1
    have hyM : mY M Y := hy.keep g3 (by omega) (by omega)
    have e7 := hyM.1
    refine wp_iload_n (pc := 2) d_M_mixFormes_2 rfl ?_
    refine wp_iconst (pc := 3) d_M_mixFormes_3 rfl ?_
    refine wp_aload_n (pc := 4) d_M_mixFormes_4 rfl ?_
    refine wp_getI (pc := 5) d_M_mixFormes_5 rfl (by decide) (zk_174 L) ?_
    refine wp_imul (pc := 8) d_M_mixFormes_8 (by omega) (by omega) ?_
    refine wp_icmp_ge (tgt := 33) (pc := 9) d_M_mixFormes_9 rfl (fun c9 => ?_) (fun c9 => ?_)
    · refine wp_iconst (pc := 33) d_M_mixFormes_33 rfl ?_
      refine wp_ist1 (pc := 34) d_M_mixFormes_34 rfl ?_
      have he : hv = dSight Y hb := by
        rw [g6, show k = 4 * Y.1.toNat by omega]
        exact wF_mul Y.2 4 hb Y.1.toNat
      exact lp_mf2 hy hi (hb := hb) 100 0 M hv (by omega) (by omega) g3 g5 (by rw [wF_0]; exact he)
    · have hq4 := zn_d4 k (by omega)
      refine wp_aload_n (pc := 12) d_M_mixFormes_12 rfl ?_
      refine wp_aload_n (pc := 13) d_M_mixFormes_13 rfl ?_
      refine wp_iload_n (pc := 14) d_M_mixFormes_14 rfl ?_
      refine wp_iconst (pc := 15) d_M_mixFormes_15 rfl ?_
      refine wp_idiv (v := ((k / 4 : Nat) : Int)) (pc := 16) d_M_mixFormes_16 (by omega) hq4.1 ?_
      refine wp_iload_n (pc := 17) d_M_mixFormes_17 rfl ?_
      refine wp_iconst (pc := 18) d_M_mixFormes_18 rfl ?_
      refine wp_irem (v := ((k % 4 : Nat) : Int)) (pc := 19) d_M_mixFormes_19 (by omega) hq4.2 ?_
      refine wp_callV2f (pc := 20) d_M_mixFormes_20 rfl rfl (zk_174 L) rfl rfl (c_M_sightingNow hyM hi (by omega) (by omega) (by omega) (by omega)) ?_
      refine wp_i2l (pc := 23) d_M_mixFormes_23 ?_
      refine wp_callV1v (pc := 24) d_M_mixFormes_24 rfl rfl (zk_174 L) rfl rfl (c_M_mix g5) (fun M24 h24 => ?_)
      refine wp_iinc1 (pc := 27) d_M_mixFormes_27 rfl (by omega) (by omega) ?_
      refine wp_goto (tgt := 2) (pc := 30) d_M_mixFormes_30 rfl ?_
      obtain ⟨m1, m2⟩ := h24
      refine ih (k + 1) M24 _ (by omega) (by omega) (g3.tr (m1.up (fun a k z => by omega))) m2 ?_
      rw [wF_s, ← g6]
      rfl
theorem c_M_mixFormes (hy : mY M Y) (hi : qYi Y) {hb : Int64} (hh : mHh M hb) : Cv L 8 zm_M_mixFormes [rV 174] M (fun M' => mF (fun a k => mPz a k ∨ mPh a k) M M' ∧ mHh M' (dFormes Y (dSight Y hb))) := by
  show wp L _ zm_M_mixFormes 0 [rV 174, uV] [] M _
  refine wp_iconst (pc := 0) d_M_mixFormes_0 rfl ?_
  refine wp_ist1 (pc := 1) d_M_mixFormes_1 rfl ?_
  exact lp_mf1 (M0 := M) hy hi 100 0 M hb (by have := hi.1; omega) (by have := hi.1; omega) mF.rf hh rfl
theorem lp_md2 {M0 : zM} (h : mH M0 D) (hy : mY M0 Y) (hg : mG M0 g) (h24 : 0 ≤ g.1 ∧ g.1 ≤ 24) {hb : Int64} : ∀ (n9 : Nat) (k : Nat) (M : zM) (hv : Int64), 6 - (k : Int) < n9 → (k ≤ 6) → (mF mPh M0 M) → (mHh M hv) → (hv = wF (fun w h => uX h (xCt D Y g (M0 174 6) (M0 174 12) w)) k (wF (fun i h => uX h (g.2 i)) g.1.toNat hb)) → wp L 9 zm_M_digest 48 [rV 174, iV k] [] M (fun r M' => ∃ x, r = some (lV x) ∧ (x = wF (fun w h => uX h (xCt D Y g (M0 174 6) (M0 174 12) w)) 6 (wF (fun i h => uX h (g.2 i)) g.1.toNat hb) ∧ mF mPh M0 M')) := by
  intro n9
  induction n9 with
  | zero =>
    intro k  M  hv  h9 g0 g3 g5 g6
    exact absurd h9 (by omega)
  | succ n9 ih =>
    intro k  M  hv  h9 g0 g3 g5 g6
    have hM : mH M D := h.keep g3 (by omega) (by omega) (by omega)
    have hyM : mY M Y := hy.keep g3 (by omega) (by omega)
    have hgM : mG M g := hg.keep g3 (by omega) (by omega)
    have eg := hgM.1
    have e6 : M 174 6 = M0 174 6 := g3 174 6 (by omega)
    have e12 : M 174 12 = M0 174 12 := g3 174 12 (by omega)
    refine wp_iload_n (pc := 48) d_M_digest_48 rfl ?_
    refine wp_bipush (pc := 49) d_M_digest_49 rfl ?_
    refine wp_icmp_ge (tgt := 70) (pc := 51) d_M_digest_51 rfl (fun c51 => ?_) (fun c51 => ?_)
    · refine wp_aload_n (pc := 70) d_M_digest_70 rfl ?_
      refine wp_getL (pc := 71) d_M_digest_71 rfl (zk_174 L) ?_
      rw [show zLg (M 174 31) (M 174 (31 + 1000)) = hv from g5]
      refine wp_lreturn (pc := 74) d_M_digest_74 rfl ?_
      exact ⟨_, rfl, by rw [g6, show 6 = k by omega], g3⟩
    · refine wp_aload_n (pc := 54) d_M_digest_54 rfl ?_
      refine wp_aload_n (pc := 55) d_M_digest_55 rfl ?_
      refine wp_iload_n (pc := 56) d_M_digest_56 rfl ?_
      refine wp_callV1f (pc := 57) d_M_digest_57 rfl rfl (zk_174 L) rfl rfl (c_M_howMany hM hyM hgM) ?_
      rw [e6, e12]
      refine wp_i2l (pc := 60) d_M_digest_60 ?_
      refine wp_callV1v (pc := 61) d_M_digest_61 rfl rfl (zk_174 L) rfl rfl (c_M_mix g5) (fun M61 h61 => ?_)
      refine wp_iinc1 (pc := 64) d_M_digest_64 rfl (by omega) (by omega) ?_
      refine wp_goto (tgt := 48) (pc := 67) d_M_digest_67 rfl ?_
      obtain ⟨m1, m2⟩ := h61
      refine ih (k + 1) M61 _ (by omega) (by omega) (g3.tr m1) m2 ?_
      rw [wF_s, ← g6]
      rfl
theorem lp_md1 {M0 : zM} (h : mH M0 D) (hy : mY M0 Y) (hg : mG M0 g) (h24 : 0 ≤ g.1 ∧ g.1 ≤ 24) {hb : Int64} : ∀ (n9 : Nat) (k : Nat) (M : zM) (hv : Int64), g.1 - (k : Int) < n9 → ((k : Int) ≤ g.1) → (mF mPh M0 M) → (mHh M hv) → (hv = wF (fun i h => uX h (g.2 i)) k hb) → wp L 9 zm_M_digest 21 [rV 174, iV k] [] M (fun r M' => ∃ x, r = some (lV x) ∧ (x = wF (fun w h => uX h (xCt D Y g (M0 174 6) (M0 174 12) w)) 6 (wF (fun i h => uX h (g.2 i)) g.1.toNat hb) ∧ mF mPh M0 M')) := by
  intro n9
  induction n9 with
  | zero =>
    intro k  M  hv  h9 g0 g3 g5 g6
    exact absurd h9 (by omega)
  | succ n9 ih =>
    intro k  M  hv  h9 g0 g3 g5 g6
    have hM : mH M D := h.keep g3 (by omega) (by omega) (by omega)
    have hyM : mY M Y := hy.keep g3 (by omega) (by omega)
    have hgM : mG M g := hg.keep g3 (by omega) (by omega)
    have eg := hgM.1
    have e6 : M 174 6 = M0 174 6 := g3 174 6 (by omega)
    have e12 : M 174 12 = M0 174 12 := g3 174 12 (by omega)
    refine wp_iload_n (pc := 21) d_M_digest_21 rfl ?_
    refine wp_aload_n (pc := 22) d_M_digest_22 rfl ?_
    refine wp_getI (pc := 23) d_M_digest_23 rfl (by decide) (zk_174 L) ?_
    refine wp_icmp_ge (tgt := 46) (pc := 26) d_M_digest_26 rfl (fun c26 => ?_) (fun c26 => ?_)
    · refine wp_iconst (pc := 46) d_M_digest_46 rfl ?_
      refine wp_ist1 (pc := 47) d_M_digest_47 rfl ?_
      exact lp_md2 h hy hg h24 (hb := hb) 100 0 M hv (by omega) (by omega) g3 g5 (by rw [show g.1.toNat = k by omega]; exact g6)
    · refine wp_aload_n (pc := 29) d_M_digest_29 rfl ?_
      refine wp_aload_n (pc := 30) d_M_digest_30 rfl ?_
      refine wp_getR (pc := 31) d_M_digest_31 rfl (zk_174 L) zx_174_1 ?_
      refine wp_iload_n (pc := 34) d_M_digest_34 rfl ?_
      refine wp_iald (pc := 35) d_M_digest_35 (zk_175 L) (by omega) (by omega) ?_
      rw [hgM.2 (k : Int) (by omega) (by omega)]
      refine wp_i2l (pc := 36) d_M_digest_36 ?_
      refine wp_callV1v (pc := 37) d_M_digest_37 rfl rfl (zk_174 L) rfl rfl (c_M_mix g5) (fun M37 h37 => ?_)
      refine wp_iinc1 (pc := 40) d_M_digest_40 rfl (by omega) (by omega) ?_
      refine wp_goto (tgt := 21) (pc := 43) d_M_digest_43 rfl ?_
      obtain ⟨m1, m2⟩ := h37
      refine ih (k + 1) M37 _ (by omega) (by omega) (g3.tr m1) m2 ?_
      rw [wF_s, ← g6]
      rfl
theorem c_M_digest (h : mH M D) (hd : mDi D) (hy : mY M Y) (hi : qYi Y) (hg : mG M g) (h24 : 0 ≤ g.1 ∧ g.1 ≤ 24) : Cl L 9 zm_M_digest [rV 174] M (fun x M' => x = xDg D Y g (M 174 6) (M 174 12) ∧ mF mPq M M') := by
  show wp L _ zm_M_digest 0 [rV 174, uV] [] M _
  refine wp_aload_n (pc := 0) d_M_digest_0 rfl ?_
  refine wp_ldc2_w (pc := 1) d_M_digest_1 rfl ?_
  refine wp_putL (pc := 4) d_M_digest_4 rfl (zk_174 L) (by decide) ?_
  refine wp_aload_n (pc := 7) d_M_digest_7 rfl ?_
  have k0 : mF mPh M (zU (zU M 174 31 (zHi 1607)) 174 1031 (zLo 1607)) := (mF.rf.u (by omega)).u (by omega)
  have hh0 : mHh (zU (zU M 174 31 (zHi 1607)) 174 1031 (zLo 1607)) 1607 := by
    unfold mHh
    rw [zU_nk (by decide), zU_eq, zU_eq, z_lg]
  have h0 : mH (zU (zU M 174 31 (zHi 1607)) 174 1031 (zLo 1607)) D := h.keep k0 (by omega) (by omega) (by omega)
  refine wp_callV0v (pc := 8) d_M_digest_8 rfl rfl (zk_174 L) rfl rfl (c_M_mixCopies h0 hd hh0) (fun M8 h8 => ?_)
  obtain ⟨a1, a2⟩ := h8
  have h1 : mH M8 D := h0.keep a1 (by omega) (by omega) (by omega)
  refine wp_aload_n (pc := 11) d_M_digest_11 rfl ?_
  refine wp_callV0v (pc := 12) d_M_digest_12 rfl rfl (zk_174 L) rfl rfl (c_M_mixStates h1 hd a2) (fun M12 h12 => ?_)
  obtain ⟨b1, b2⟩ := h12
  have kk : mF (fun a k => mPd a k) M M12 := ((k0.up (fun a k z => by omega)).tr a1).tr b1
  have hy2 : mY M12 Y := hy.keep kk (by omega) (by omega)
  refine wp_aload_n (pc := 15) d_M_digest_15 rfl ?_
  refine wp_callV0v (pc := 16) d_M_digest_16 rfl rfl (zk_174 L) rfl rfl (c_M_mixFormes hy2 hi b2) (fun M16 h16 => ?_)
  obtain ⟨d1, d2⟩ := h16
  have k3 : mF mPq M M16 := (kk.up (fun a k z => by omega)).tr (d1.up (fun a k z => by omega))
  refine wp_iconst (pc := 19) d_M_digest_19 rfl ?_
  refine wp_ist1 (pc := 20) d_M_digest_20 rfl ?_
  have h3 : mH M16 D := h.keep k3 (by omega) (by omega) (by omega)
  have hy3 : mY M16 Y := hy.keep k3 (by omega) (by omega)
  have hg3 : mG M16 g := hg.keep k3 (by omega) (by omega)
  refine wp_mono (lp_md1 (M0 := M16) h3 hy3 hg3 h24 (hb := dFormes Y (dSight Y (dStates D (dPairs D (dCopies D 1607))))) 100 0 M16 _ (by omega) (by omega) mF.rf d2 (wF_0 _ _).symm) (fun r M' hr => ?_)
  obtain ⟨x, r1, r2, r3⟩ := hr
  refine ⟨x, r1, ?_, k3.tr (r3.up (fun a k z => by omega))⟩
  unfold xDg
  rw [r2, k3 174 6 (by omega), k3 174 12 (by omega)]
end ZM17
