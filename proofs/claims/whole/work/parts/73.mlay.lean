/-! the model's alignments, on: layCollation -/
abbrev mPc1 (a k : Nat) : Prop := a = 182 ∨ a = 183 ∨ a = 174 ∧ (k = 14 ∨ k = 16 ∨ k = 17)
/-- the table is right from row i on, in row i from column j on -/
def mTb (M0 : zM) (D : qDt) (x y : Int) (M : zM) (i j : Int) : Prop := mF (fun a k => a = 182) M0 M ∧ (∀ i' j' : Int, i < i' → i' ≤ D.2.1 x → 0 ≤ j' → j' ≤ D.2.1 y → M 182 (25 * i' + j').toNat = mVl (D.1 x) (D.1 y) (D.2.1 x) (D.2.1 y) D.2.2.1 i' j') ∧ ∀ j' : Int, j < j' → j' ≤ D.2.1 y → M 182 (25 * i + j').toNat = mVl (D.1 x) (D.1 y) (D.2.1 x) (D.2.1 y) D.2.2.1 i j'
theorem mTb.put {M0 M : zM} {D : qDt} {x y i j v : Int} (h : mTb M0 D x y M i j) (i0 : 0 ≤ i) (j0 : 0 ≤ j) (hi : i ≤ D.2.1 x) (hj : j ≤ D.2.1 y) (n21 : D.2.1 y ≤ 24) (hv : v = mVl (D.1 x) (D.1 y) (D.2.1 x) (D.2.1 y) D.2.2.1 i j) : mTb M0 D x y (zU M 182 (25 * i + j).toNat v) i (j + -1) := by
  obtain ⟨h1, h2, h3⟩ := h
  refine ⟨h1.u rfl, fun i' j' a b c d => ?_, fun j' a b => ?_⟩
  · rw [zU_nk (by omega)]; exact h2 i' j' a b c d
  · by_cases e : j' = j
    · rw [e, zU_eq, hv]
    · rw [zU_nk (by omega)]; exact h3 j' (by omega) b
/-- an alignment is laid -/
def mCl (M : zM) (D : qDt) (x y : Int) : Prop := M 174 16 = x ∧ M 174 17 = y ∧ M 182 0 = mVl (D.1 x) (D.1 y) (D.2.1 x) (D.2.1 y) D.2.2.1 0 0 ∧ (uIn D x y → M 174 14 = (uK D x y : Int) ∧ qEn (D.1 x) (D.1 y) (D.2.1 x) (D.2.1 y) D.2.2.1 (uK D x y) ∧ uK D x y ≤ 48 ∧ ∀ q, q < uK D x y → M 183 q = qSt (D.1 x) (D.1 y) (D.2.1 x) (D.2.1 y) D.2.2.1 q) ∧ (¬ uIn D x y → M 174 14 = 0)
theorem mCl.keep {P : Nat → Nat → Prop} {M M' : zM} {D : qDt} {x y : Int} (h : mCl M D x y) (hf : mF P M M') (h1 : ∀ a k, mPc1 a k → ¬ P a k) : mCl M' D x y := by
  obtain ⟨a1, a2, a3, a4, a5⟩ := h
  have e14 := hf 174 14 (h1 _ _ (by omega))
  refine ⟨(hf _ _ (h1 _ _ (by omega))).trans a1, (hf _ _ (h1 _ _ (by omega))).trans a2, (hf _ _ (h1 _ _ (by omega))).trans a3, fun z => ?_, fun z => e14.trans (a5 z)⟩
  obtain ⟨b1, b2, b3, b4⟩ := a4 z
  exact ⟨e14.trans b1, b2, b3, fun q hq => (hf _ _ (h1 _ _ (by omega))).trans (b4 q hq)⟩
section ZM3
variable {L : Nat} {M : zM} {D : qDt} {Y : qYt} {g : qPt} {x y z w c p s i j : Int}
theorem lp_M_lay1 {M0 : zM} (h : mH M0 D) (hd : mDi D) (x0 : 0 ≤ x) (x1 : x < D.2.2.2) (y0 : 0 ≤ y) (y1 : y < D.2.2.2) (e16 : M0 174 16 = x) (e17 : M0 174 17 = y) {Qx : Option zV → zM → Prop} (i0 : 0 ≤ i) (i1 : i ≤ D.2.1 x) {u5 : zV} (hq : ∀ (M' : zM) (u4 : zV), mTb M0 D x y M' i (-1) → wp L 4 zm_M_layCollation 17 [rV 174, iV x, iV y, iV (i + -1), u4, u5] [] M' Qx) : ∀ (n9 : Nat) (j : Int) (M : zM), j + 1 < n9 → (-1 ≤ j) → (j ≤ D.2.1 y) → (mTb M0 D x y M i j) → wp L 4 zm_M_layCollation 29 [rV 174, iV x, iV y, iV i, iV j, u5] [] M (Qx) := by
  intro n9
  induction n9 with
  | zero =>
    intro j  M  h9 g1 g2 g3
    have hd1 := hd.1
    have lx := hd.l x0 x1
    have ly := hd.l y0 y1
    exact absurd h9 (by omega)
  | succ n9 ih =>
    intro j  M  h9 g1 g2 g3
    have hd1 := hd.1
    have lx := hd.l x0 x1
    have ly := hd.l y0 y1
    have hM : mH M D := h.keep g3.1 (by omega) (by omega) (by omega)
    have nx := (hM.2.2 x x0 x1).1
    have ny := (hM.2.2 y y0 y1).1
    have m16 : M 174 16 = x := (g3.1 174 16 (by omega)).trans e16
    have m17 : M 174 17 = y := (g3.1 174 17 (by omega)).trans e17
    refine wp_iload (pc := 29) d_M_layCollation_29 rfl ?_
    refine wp_if_lt (tgt := 59) (pc := 31) d_M_layCollation_31 rfl (fun c31 => ?_) (fun c31 => ?_)
    · refine wp_iinc3 (pc := 59) d_M_layCollation_59 rfl (by omega) (by omega) ?_
      refine wp_goto (tgt := 17) (pc := 62) d_M_layCollation_62 rfl ?_
      exact hq M (iV j) (by rw [show (-1 : Int) = j by omega]; exact g3)
    · refine wp_aload_n (pc := 34) d_M_layCollation_34 rfl ?_
      refine wp_getR (pc := 35) d_M_layCollation_35 rfl (zk_174 L) zx_174_13 ?_
      refine wp_bipush (pc := 38) d_M_layCollation_38 rfl ?_
      refine wp_iload_n (pc := 40) d_M_layCollation_40 rfl ?_
      refine wp_imul (pc := 41) d_M_layCollation_41 (by omega) (by omega) ?_
      refine wp_iload (pc := 42) d_M_layCollation_42 rfl ?_
      refine wp_iadd (pc := 44) d_M_layCollation_44 (by omega) (by omega) ?_
      refine wp_aload_n (pc := 45) d_M_layCollation_45 rfl ?_
      refine wp_iload_n (pc := 46) d_M_layCollation_46 rfl ?_
      refine wp_iload (pc := 47) d_M_layCollation_47 rfl ?_
      refine wp_callV2f (pc := 49) d_M_layCollation_49 rfl rfl (zk_174 L) rfl rfl (c_M_leastCost hM hd x0 x1 y0 y1 m16 m17 i0 i1 (by omega) g2 (fun i' j' hh a b => by rcases hh with ⟨e, e'⟩ | ⟨e, e'⟩; exact g3.2.1 i' j' (by omega) a (by omega) b; rw [e]; exact g3.2.2 j' (by omega) b)) ?_
      refine wp_iast (pc := 52) d_M_layCollation_52 (zk_182 L) (by decide) (by omega) (by omega) ?_
      refine wp_iinc4 (pc := 53) d_M_layCollation_53 rfl (by omega) (by omega) ?_
      refine wp_goto (tgt := 29) (pc := 56) d_M_layCollation_56 rfl ?_
      exact ih (j + -1) _ (by omega) (by omega) (by omega) (g3.put i0 (by omega) i1 g2 ly.2 rfl)
theorem lp_M_lay {M0 : zM} (h : mH M0 D) (hd : mDi D) (x0 : 0 ≤ x) (x1 : x < D.2.2.2) (y0 : 0 ≤ y) (y1 : y < D.2.2.2) (e16 : M0 174 16 = x) (e17 : M0 174 17 = y) {Qx : Option zV → zM → Prop} {u5 : zV} (hq : ∀ (M' : zM) (u3 u4 : zV), mTb M0 D x y M' (-1) (D.2.1 y) → wp L 4 zm_M_layCollation 65 [rV 174, iV x, iV y, u3, u4, u5] [] M' Qx) : ∀ (n9 : Nat) (i : Int) (M : zM) (u4 : zV), i + 1 < n9 → (-1 ≤ i) → (i ≤ D.2.1 x) → (mTb M0 D x y M i (D.2.1 y)) → wp L 4 zm_M_layCollation 17 [rV 174, iV x, iV y, iV i, u4, u5] [] M (Qx) := by
  intro n9
  induction n9 with
  | zero =>
    intro i  M  u4  h9 g1 g2 g3
    have hd1 := hd.1
    have lx := hd.l x0 x1
    have ly := hd.l y0 y1
    exact absurd h9 (by omega)
  | succ n9 ih =>
    intro i  M  u4  h9 g1 g2 g3
    have hd1 := hd.1
    have lx := hd.l x0 x1
    have ly := hd.l y0 y1
    have hM : mH M D := h.keep g3.1 (by omega) (by omega) (by omega)
    have nx := (hM.2.2 x x0 x1).1
    have ny := (hM.2.2 y y0 y1).1
    have m16 : M 174 16 = x := (g3.1 174 16 (by omega)).trans e16
    have m17 : M 174 17 = y := (g3.1 174 17 (by omega)).trans e17
    refine wp_iload_n (pc := 17) d_M_layCollation_17 rfl ?_
    refine wp_if_lt (tgt := 65) (pc := 18) d_M_layCollation_18 rfl (fun c18 => ?_) (fun c18 => ?_)
    · refine hq M (iV i) u4 ?_
      rw [show i = -1 by omega] at g3
      exact g3
    · refine wp_aload_n (pc := 21) d_M_layCollation_21 rfl ?_
      refine wp_getR (pc := 22) d_M_layCollation_22 rfl (zk_174 L) zx_174_3 ?_
      refine wp_iload_n (pc := 25) d_M_layCollation_25 rfl ?_
      refine wp_iald (pc := 26) d_M_layCollation_26 (zk_176 L) (by omega) (by omega) ?_
      rw [ny]
      refine wp_ist4 (pc := 27) d_M_layCollation_27 rfl ?_
      refine lp_M_lay1 h hd x0 x1 y0 y1 e16 e17 (by omega) g2 (fun M' u4' hm => ?_) 100 (D.2.1 y) M (by omega) (by omega) (by omega) g3
      refine ih (i + -1) M' u4' (by omega) (by omega) (by omega) ⟨hm.1, fun i' j' a b c d => ?_, fun j' a b => by omega⟩
      by_cases e : i' = i
      · rw [e]; exact hm.2.2 j' (by omega) d
      · exact hm.2.1 i' j' (by omega) b c d
theorem lp_M_lay2 (h : mH M D) (hd : mDi D) (x0 : 0 ≤ x) (x1 : x < D.2.2.2) (y0 : 0 ≤ y) (y1 : y < D.2.2.2) (e16 : M 174 16 = x) (e17 : M 174 17 = y) (hall : ∀ i' j' : Int, 0 ≤ i' → i' ≤ D.2.1 x → 0 ≤ j' → j' ≤ D.2.1 y → M 182 (25 * i' + j').toNat = mVl (D.1 x) (D.1 y) (D.2.1 x) (D.2.1 y) D.2.2.1 i' j') (he : uIn D x y) (i0 : 0 ≤ i) (i1 : i ≤ D.2.1 x) (j0 : 0 ≤ j) (j1 : j ≤ D.2.1 y) (hb1 : i - j ≤ D.2.2.1) (hb2 : j - i ≤ D.2.2.1) (hne : ¬ (i = D.2.1 x ∧ j = D.2.1 y)) {Qx : Option zV → zM → Prop} (hq : wp L 4 zm_M_layCollation 136 [rV 174, iV x, iV y, iV i, iV j, iV (qDc (D.1 x) (D.1 y) (D.2.1 x) (D.2.1 y) D.2.2.1 i j)] [] M Qx) : ∀ (n9 : Nat) (s : Int), 3 - s < n9 → (0 ≤ s) → (1 ≤ 3 - s) → (∀ t : Int, 0 ≤ t → t < s → ¬ mBy (D.1 x) (D.1 y) (D.2.1 x) (D.2.1 y) D.2.2.1 i j t = mVl (D.1 x) (D.1 y) (D.2.1 x) (D.2.1 y) D.2.2.1 i j) → wp L 4 zm_M_layCollation 106 [rV 174, iV x, iV y, iV i, iV j, iV s] [] M (Qx) := by
  intro n9
  induction n9 with
  | zero =>
    intro s  h9 g1 g2 g3
    exact absurd h9 (by omega)
  | succ n9 ih =>
    intro s  h9 g1 g2 g3
    have hd1 := hd.1
    have lx := hd.l x0 x1
    have ly := hd.l y0 y1
    have hdc := mBy_dc (f := D.1 x) (g := D.1 y) lx.2 ly.2 he i0 j0 i1 j1 hb1 hb2 hne
    have hin := qDc_in (f := D.1 x) (g := D.1 y) (n1 := D.2.1 x) (n2 := D.2.1 y) (b := D.2.2.1) i j
    refine wp_aload_n (pc := 106) d_M_layCollation_106 rfl ?_
    refine wp_iload_n (pc := 107) d_M_layCollation_107 rfl ?_
    refine wp_iload (pc := 108) d_M_layCollation_108 rfl ?_
    refine wp_iload (pc := 110) d_M_layCollation_110 rfl ?_
    refine wp_callV3f (pc := 112) d_M_layCollation_112 rfl rfl (zk_174 L) rfl rfl (c_M_costBy h hd x0 x1 y0 y1 e16 e17 i0 i1 j0 j1 (by omega) (by omega) (fun i' j' hh a b => hall i' j' (by omega) a (by omega) b)) ?_
    refine wp_aload_n (pc := 115) d_M_layCollation_115 rfl ?_
    refine wp_getR (pc := 116) d_M_layCollation_116 rfl (zk_174 L) zx_174_13 ?_
    refine wp_bipush (pc := 119) d_M_layCollation_119 rfl ?_
    refine wp_iload_n (pc := 121) d_M_layCollation_121 rfl ?_
    refine wp_imul (pc := 122) d_M_layCollation_122 (by omega) (by omega) ?_
    refine wp_iload (pc := 123) d_M_layCollation_123 rfl ?_
    refine wp_iadd (pc := 125) d_M_layCollation_125 (by omega) (by omega) ?_
    refine wp_iald (pc := 126) d_M_layCollation_126 (zk_182 L) (by omega) (by omega) ?_
    rw [hall i j i0 i1 j0 j1]
    refine wp_icmp_eq (tgt := 136) (pc := 127) d_M_layCollation_127 rfl (fun c127 => ?_) (fun c127 => ?_)
    · have es : qDc (D.1 x) (D.1 y) (D.2.1 x) (D.2.1 y) D.2.2.1 i j = s := by
        rcases Int.lt_trichotomy (qDc (D.1 x) (D.1 y) (D.2.1 x) (D.2.1 y) D.2.2.1 i j) s with z | z | z
        · exact absurd hdc.1 (g3 _ (by omega) z)
        · exact z
        · exact absurd c127 (hdc.2 s g1 z)
      rw [es] at hq
      exact hq
    · refine wp_iinc5 (pc := 130) d_M_layCollation_130 rfl (by omega) (by omega) ?_
      refine wp_goto (tgt := 106) (pc := 133) d_M_layCollation_133 rfl ?_
      refine ih (s + 1) (by omega) (by omega) ?_ (fun t t0 t1 => ?_)
      · by_cases e : s = 2
        · exfalso
          have hz : ∀ t : Int, 0 ≤ t → t ≤ 2 → ¬ mBy (D.1 x) (D.1 y) (D.2.1 x) (D.2.1 y) D.2.2.1 i j t = mVl (D.1 x) (D.1 y) (D.2.1 x) (D.2.1 y) D.2.2.1 i j := fun t t0 t2 => by
            by_cases e' : t = s
            · rw [e']; exact c127
            · exact g3 t t0 (by omega)
          exact hz _ (by omega) (by omega) hdc.1
        · omega
      · by_cases e' : t = s
        · rw [e']; exact c127
        · exact g3 t t0 (by omega)
theorem lp_M_lay3 {M0 : zM} (h : mH M0 D) (hd : mDi D) (x0 : 0 ≤ x) (x1 : x < D.2.2.2) (y0 : 0 ≤ y) (y1 : y < D.2.2.2) (e16 : M0 174 16 = x) (e17 : M0 174 17 = y) (hall : ∀ i' j' : Int, 0 ≤ i' → i' ≤ D.2.1 x → 0 ≤ j' → j' ≤ D.2.1 y → M0 182 (25 * i' + j').toNat = mVl (D.1 x) (D.1 y) (D.2.1 x) (D.2.1 y) D.2.2.1 i' j') : ∀ (n9 : Nat) (k : Nat) (i : Int) (j : Int) (M : zM) (u5 : zV), D.2.1 x + D.2.1 y - k < n9 → (uIn D x y ∨ k = 0) → (i = (qPs (D.1 x) (D.1 y) (D.2.1 x) (D.2.1 y) D.2.2.1 k).1) → (j = (qPs (D.1 x) (D.1 y) (D.2.1 x) (D.2.1 y) D.2.2.1 k).2) → (mF (fun a k => a = 183 ∨ a = 174 ∧ k = 14) M0 M) → (M 174 14 = (k : Int)) → (∀ q, q < k → M 183 q = qSt (D.1 x) (D.1 y) (D.2.1 x) (D.2.1 y) D.2.2.1 q) → (∀ t, t < k → ¬ ((qPs (D.1 x) (D.1 y) (D.2.1 x) (D.2.1 y) D.2.2.1 t).1 = D.2.1 x ∧ (qPs (D.1 x) (D.1 y) (D.2.1 x) (D.2.1 y) D.2.2.1 t).2 = D.2.1 y)) → wp L 4 zm_M_layCollation 75 [rV 174, iV x, iV y, iV i, iV j, u5] [] M (fun r M' => r = none ∧ (mF (fun a k => a = 183 ∨ a = 174 ∧ k = 14) M0 M' ∧ mCl M' D x y)) := by
  intro n9
  induction n9 with
  | zero =>
    intro k  i  j  M  u5  h9 g0 g1 g2 g3 g4 g5 g6
    have lx := hd.l x0 x1
    have ly := hd.l y0 y1
    have hd2 := hd.2.1
    have hps : 0 ≤ (k : Int) ∧ (k : Int) ≤ D.2.1 x + D.2.1 y := by
      rcases g0 with he | e
      · have := qPs_ok (f := D.1 x) (g := D.1 y) he lx.2 ly.2 (by omega) (by omega) hd2.1 k g6
        omega
      · omega
    exact absurd h9 (by omega)
  | succ n9 ih =>
    intro k  i  j  M  u5  h9 g0 g1 g2 g3 g4 g5 g6
    have hd1 := hd.1
    have lx := hd.l x0 x1
    have ly := hd.l y0 y1
    have hd2 := hd.2.1
    have hM : mH M D := h.keep g3 (by omega) (by omega) (by omega)
    have nx := (hM.2.2 x x0 x1).1
    have ny := (hM.2.2 y y0 y1).1
    have m16 : M 174 16 = x := (g3 174 16 (by omega)).trans e16
    have m17 : M 174 17 = y := (g3 174 17 (by omega)).trans e17
    have m0 : M 182 0 = mVl (D.1 x) (D.1 y) (D.2.1 x) (D.2.1 y) D.2.2.1 0 0 := (g3 182 0 (by omega)).trans (hall 0 0 (by omega) (by omega) (by omega) (by omega))
    have hin := mVl_in (f := D.1 x) (g := D.1 y) (n1 := D.2.1 x) (n2 := D.2.1 y) (b := D.2.2.1) lx.2 ly.2 (by omega) (by omega) hd2.1
    refine wp_aload_n (pc := 75) d_M_layCollation_75 rfl ?_
    refine wp_callV0f (pc := 76) d_M_layCollation_76 rfl rfl (zk_174 L) rfl rfl c_M_isCollated ?_
    rw [m0]
    refine wp_if_eq (tgt := 190) (pc := 79) d_M_layCollation_79 rfl (fun c79 => ?_) (fun c79 => ?_)
    · have c79 := zb_eq0 c79
      refine wp_return_ (pc := 190) d_M_layCollation_190 rfl ?_
      refine ⟨rfl, g3, m16, m17, m0, fun he => ?_, fun hn => ?_⟩
      · have hps := qPs_ok (f := D.1 x) (g := D.1 y) he lx.2 ly.2 (by omega) (by omega) hd2.1 k g6
        rw [← g1, ← g2] at hps
        have hen : qEn (D.1 x) (D.1 y) (D.2.1 x) (D.2.1 y) D.2.2.1 k := by
          refine ⟨?_, g6⟩
          rw [← g1, ← g2]
          first
          | exact absurd (hin.2 he) c79
          | exact ⟨by omega, by omega⟩
        have ek : uK D x y = k := uK_at hen (by omega)
        rw [ek]
        exact ⟨g4, hen, by omega, g5⟩
      · rcases g0 with e | e
        · exact absurd e hn
        · rw [g4, e]; rfl
    · have c79 := zb_ne0 c79
      refine wp_iload_n (pc := 82) d_M_layCollation_82 rfl ?_
      refine wp_aload_n (pc := 83) d_M_layCollation_83 rfl ?_
      refine wp_getR (pc := 84) d_M_layCollation_84 rfl (zk_174 L) zx_174_3 ?_
      refine wp_iload_n (pc := 87) d_M_layCollation_87 rfl ?_
      refine wp_iald (pc := 88) d_M_layCollation_88 (zk_176 L) (by omega) (by omega) ?_
      rw [nx]
      refine wp_icmp_lt (tgt := 103) (pc := 89) d_M_layCollation_89 rfl (fun c89 => ?_) (fun c89 => ?_)
      · have hso : i < D.2.1 x ∨ j < D.2.1 y := Or.inl c89
        refine wp_iconst (pc := 103) d_M_layCollation_103 rfl ?_
        refine wp_ist5 (pc := 104) d_M_layCollation_104 rfl ?_
        have he : uIn D x y := hin.1 c79
        have hps := qPs_ok (f := D.1 x) (g := D.1 y) he lx.2 ly.2 (by omega) (by omega) hd2.1 k g6
        rw [← g1, ← g2] at hps
        have hdk := qDc_ok (f := D.1 x) (g := D.1 y) he lx.2 ly.2 hps.1 hps.2.2.1 hps.2.1 hps.2.2.2.1 hps.2.2.2.2.1 hps.2.2.2.2.2.1 (by omega)
        have est : qSt (D.1 x) (D.1 y) (D.2.1 x) (D.2.1 y) D.2.2.1 k = qDc (D.1 x) (D.1 y) (D.2.1 x) (D.2.1 y) D.2.2.1 i j := by unfold qSt; rw [← g1, ← g2]
        have hpn := qPs_st (D.1 x) (D.1 y) (D.2.1 x) (D.2.1 y) D.2.2.1 k
        rw [est, ← g1, ← g2] at hpn
        refine lp_M_lay2 hM hd x0 x1 y0 y1 m16 m17 (fun i' j' a b c d => (g3 182 _ (by omega)).trans (hall i' j' a b c d)) he hps.1 hps.2.1 hps.2.2.1 hps.2.2.2.1 hps.2.2.2.2.1 hps.2.2.2.2.2.1 (by omega) ?_ 100 0 (by omega) (by omega) (by omega) (fun t t0 t1 => by omega)
        refine wp_aload_n (pc := 136) d_M_layCollation_136 rfl ?_
        refine wp_getR (pc := 137) d_M_layCollation_137 rfl (zk_174 L) zx_174_15 ?_
        refine wp_aload_n (pc := 140) d_M_layCollation_140 rfl ?_
        refine wp_getI (pc := 141) d_M_layCollation_141 rfl (by decide) (zk_174 L) ?_
        refine wp_iload (pc := 144) d_M_layCollation_144 rfl ?_
        refine wp_iast (pc := 146) d_M_layCollation_146 (zk_183 L) (by decide) (by omega) (by omega) ?_
        refine wp_aload_n (pc := 147) d_M_layCollation_147 rfl ?_
        refine wp_dup (pc := 148) d_M_layCollation_148 rfl ?_
        refine wp_getI (pc := 149) d_M_layCollation_149 rfl (by decide) (zk_174 L) ?_
        refine wp_iconst (pc := 152) d_M_layCollation_152 rfl ?_
        refine wp_iadd (pc := 153) d_M_layCollation_153 (by rw [zU_na (by decide)]; omega) (by rw [zU_na (by decide)]; omega) ?_
        refine wp_putI (pc := 154) d_M_layCollation_154 rfl (zk_174 L) (by decide) ?_
        refine wp_iload_n (pc := 157) d_M_layCollation_157 rfl ?_
        refine wp_iload (pc := 158) d_M_layCollation_158 rfl ?_
        refine wp_iconst (pc := 160) d_M_layCollation_160 rfl ?_
        refine wp_icmp_ne (tgt := 168) (pc := 161) d_M_layCollation_161 rfl (fun c161 => ?_) (fun c161 => ?_)
        · refine wp_iconst (pc := 168) d_M_layCollation_168 rfl ?_
          refine wp_iadd (pc := 169) d_M_layCollation_169 (by omega) (by omega) ?_
          refine wp_ist3 (pc := 170) d_M_layCollation_170 rfl ?_
          refine wp_iload (pc := 171) d_M_layCollation_171 rfl ?_
          refine wp_iload (pc := 173) d_M_layCollation_173 rfl ?_
          refine wp_iconst (pc := 175) d_M_layCollation_175 rfl ?_
          refine wp_icmp_ne (tgt := 183) (pc := 176) d_M_layCollation_176 rfl (fun c176 => ?_) (fun c176 => ?_)
          · refine wp_iconst (pc := 183) d_M_layCollation_183 rfl ?_
            refine wp_iadd (pc := 184) d_M_layCollation_184 (by omega) (by omega) ?_
            refine wp_ist4 (pc := 185) d_M_layCollation_185 rfl ?_
            refine wp_goto (tgt := 75) (pc := 187) d_M_layCollation_187 rfl ?_
            refine ih (k + 1) _ _ _ _ ?_ (Or.inl he) ?_ ?_ ((g3.u (by omega)).u (by omega)) ?_ (fun q hq => ?_) (fun t ht => ?_)
            · omega
            · rw [hpn.1]
              first | rw [if_pos (Decidable.of_not_not c161)] | rw [if_neg c161]
            · rw [hpn.2]
              first | rw [if_pos (Decidable.of_not_not c176)] | rw [if_neg c176]
            · rw [zU_eq, zU_na (by decide), g4]; omega
            · rw [zU_na (by decide)]
              by_cases e : q = k
              · rw [e, g4, show ((k : Int)).toNat = k by omega, zU_eq, est]
              · rw [zU_nk (by omega)]; exact g5 q (by omega)
            · by_cases e : t = k
              · rw [e, ← g1, ← g2]; omega
              · exact g6 t (by omega)
          · refine wp_iconst (pc := 179) d_M_layCollation_179 rfl ?_
            refine wp_goto (tgt := 184) (pc := 180) d_M_layCollation_180 rfl ?_
            refine wp_iadd (pc := 184) d_M_layCollation_184 (by omega) (by omega) ?_
            refine wp_ist4 (pc := 185) d_M_layCollation_185 rfl ?_
            refine wp_goto (tgt := 75) (pc := 187) d_M_layCollation_187 rfl ?_
            refine ih (k + 1) _ _ _ _ ?_ (Or.inl he) ?_ ?_ ((g3.u (by omega)).u (by omega)) ?_ (fun q hq => ?_) (fun t ht => ?_)
            · omega
            · rw [hpn.1]
              first | rw [if_pos (Decidable.of_not_not c161)] | rw [if_neg c161]
            · rw [hpn.2]
              first | rw [if_pos (Decidable.of_not_not c176)] | rw [if_neg c176]
            · rw [zU_eq, zU_na (by decide), g4]; omega
            · rw [zU_na (by decide)]
              by_cases e : q = k
              · rw [e, g4, show ((k : Int)).toNat = k by omega, zU_eq, est]
              · rw [zU_nk (by omega)]; exact g5 q (by omega)
            · by_cases e : t = k
              · rw [e, ← g1, ← g2]; omega
              · exact g6 t (by omega)
        · refine wp_iconst (pc := 164) d_M_layCollation_164 rfl ?_
          refine wp_goto (tgt := 169) (pc := 165) d_M_layCollation_165 rfl ?_
          refine wp_iadd (pc := 169) d_M_layCollation_169 (by omega) (by omega) ?_
          refine wp_ist3 (pc := 170) d_M_layCollation_170 rfl ?_
          refine wp_iload (pc := 171) d_M_layCollation_171 rfl ?_
          refine wp_iload (pc := 173) d_M_layCollation_173 rfl ?_
          refine wp_iconst (pc := 175) d_M_layCollation_175 rfl ?_
          refine wp_icmp_ne (tgt := 183) (pc := 176) d_M_layCollation_176 rfl (fun c176 => ?_) (fun c176 => ?_)
          · refine wp_iconst (pc := 183) d_M_layCollation_183 rfl ?_
            refine wp_iadd (pc := 184) d_M_layCollation_184 (by omega) (by omega) ?_
            refine wp_ist4 (pc := 185) d_M_layCollation_185 rfl ?_
            refine wp_goto (tgt := 75) (pc := 187) d_M_layCollation_187 rfl ?_
            refine ih (k + 1) _ _ _ _ ?_ (Or.inl he) ?_ ?_ ((g3.u (by omega)).u (by omega)) ?_ (fun q hq => ?_) (fun t ht => ?_)
            · omega
            · rw [hpn.1]
              first | rw [if_pos (Decidable.of_not_not c161)] | rw [if_neg c161]
            · rw [hpn.2]
              first | rw [if_pos (Decidable.of_not_not c176)] | rw [if_neg c176]
            · rw [zU_eq, zU_na (by decide), g4]; omega
            · rw [zU_na (by decide)]
              by_cases e : q = k
              · rw [e, g4, show ((k : Int)).toNat = k by omega, zU_eq, est]
              · rw [zU_nk (by omega)]; exact g5 q (by omega)
            · by_cases e : t = k
              · rw [e, ← g1, ← g2]; omega
              · exact g6 t (by omega)
          · refine wp_iconst (pc := 179) d_M_layCollation_179 rfl ?_
            refine wp_goto (tgt := 184) (pc := 180) d_M_layCollation_180 rfl ?_
            refine wp_iadd (pc := 184) d_M_layCollation_184 (by omega) (by omega) ?_
            refine wp_ist4 (pc := 185) d_M_layCollation_185 rfl ?_
            refine wp_goto (tgt := 75) (pc := 187) d_M_layCollation_187 rfl ?_
            refine ih (k + 1) _ _ _ _ ?_ (Or.inl he) ?_ ?_ ((g3.u (by omega)).u (by omega)) ?_ (fun q hq => ?_) (fun t ht => ?_)
            · omega
            · rw [hpn.1]
              first | rw [if_pos (Decidable.of_not_not c161)] | rw [if_neg c161]
            · rw [hpn.2]
              first | rw [if_pos (Decidable.of_not_not c176)] | rw [if_neg c176]
            · rw [zU_eq, zU_na (by decide), g4]; omega
            · rw [zU_na (by decide)]
              by_cases e : q = k
              · rw [e, g4, show ((k : Int)).toNat = k by omega, zU_eq, est]
              · rw [zU_nk (by omega)]; exact g5 q (by omega)
            · by_cases e : t = k
              · rw [e, ← g1, ← g2]; omega
              · exact g6 t (by omega)
      · refine wp_iload (pc := 92) d_M_layCollation_92 rfl ?_
        refine wp_aload_n (pc := 94) d_M_layCollation_94 rfl ?_
        refine wp_getR (pc := 95) d_M_layCollation_95 rfl (zk_174 L) zx_174_3 ?_
        refine wp_iload_n (pc := 98) d_M_layCollation_98 rfl ?_
        refine wp_iald (pc := 99) d_M_layCollation_99 (zk_176 L) (by omega) (by omega) ?_
        rw [ny]
        refine wp_icmp_ge (tgt := 190) (pc := 100) d_M_layCollation_100 rfl (fun c100 => ?_) (fun c100 => ?_)
        · refine wp_return_ (pc := 190) d_M_layCollation_190 rfl ?_
          refine ⟨rfl, g3, m16, m17, m0, fun he => ?_, fun hn => ?_⟩
          · have hps := qPs_ok (f := D.1 x) (g := D.1 y) he lx.2 ly.2 (by omega) (by omega) hd2.1 k g6
            rw [← g1, ← g2] at hps
            have hen : qEn (D.1 x) (D.1 y) (D.2.1 x) (D.2.1 y) D.2.2.1 k := by
              refine ⟨?_, g6⟩
              rw [← g1, ← g2]
              first
              | exact absurd (hin.2 he) c79
              | exact ⟨by omega, by omega⟩
            have ek : uK D x y = k := uK_at hen (by omega)
            rw [ek]
            exact ⟨g4, hen, by omega, g5⟩
          · rcases g0 with e | e
            · exact absurd e hn
            · rw [g4, e]; rfl
        · have hso : i < D.2.1 x ∨ j < D.2.1 y := Or.inr (by omega)
          refine wp_iconst (pc := 103) d_M_layCollation_103 rfl ?_
          refine wp_ist5 (pc := 104) d_M_layCollation_104 rfl ?_
          have he : uIn D x y := hin.1 c79
          have hps := qPs_ok (f := D.1 x) (g := D.1 y) he lx.2 ly.2 (by omega) (by omega) hd2.1 k g6
          rw [← g1, ← g2] at hps
          have hdk := qDc_ok (f := D.1 x) (g := D.1 y) he lx.2 ly.2 hps.1 hps.2.2.1 hps.2.1 hps.2.2.2.1 hps.2.2.2.2.1 hps.2.2.2.2.2.1 (by omega)
          have est : qSt (D.1 x) (D.1 y) (D.2.1 x) (D.2.1 y) D.2.2.1 k = qDc (D.1 x) (D.1 y) (D.2.1 x) (D.2.1 y) D.2.2.1 i j := by unfold qSt; rw [← g1, ← g2]
          have hpn := qPs_st (D.1 x) (D.1 y) (D.2.1 x) (D.2.1 y) D.2.2.1 k
          rw [est, ← g1, ← g2] at hpn
          refine lp_M_lay2 hM hd x0 x1 y0 y1 m16 m17 (fun i' j' a b c d => (g3 182 _ (by omega)).trans (hall i' j' a b c d)) he hps.1 hps.2.1 hps.2.2.1 hps.2.2.2.1 hps.2.2.2.2.1 hps.2.2.2.2.2.1 (by omega) ?_ 100 0 (by omega) (by omega) (by omega) (fun t t0 t1 => by omega)
          refine wp_aload_n (pc := 136) d_M_layCollation_136 rfl ?_
          refine wp_getR (pc := 137) d_M_layCollation_137 rfl (zk_174 L) zx_174_15 ?_
          refine wp_aload_n (pc := 140) d_M_layCollation_140 rfl ?_
          refine wp_getI (pc := 141) d_M_layCollation_141 rfl (by decide) (zk_174 L) ?_
          refine wp_iload (pc := 144) d_M_layCollation_144 rfl ?_
          refine wp_iast (pc := 146) d_M_layCollation_146 (zk_183 L) (by decide) (by omega) (by omega) ?_
          refine wp_aload_n (pc := 147) d_M_layCollation_147 rfl ?_
          refine wp_dup (pc := 148) d_M_layCollation_148 rfl ?_
          refine wp_getI (pc := 149) d_M_layCollation_149 rfl (by decide) (zk_174 L) ?_
          refine wp_iconst (pc := 152) d_M_layCollation_152 rfl ?_
          refine wp_iadd (pc := 153) d_M_layCollation_153 (by rw [zU_na (by decide)]; omega) (by rw [zU_na (by decide)]; omega) ?_
          refine wp_putI (pc := 154) d_M_layCollation_154 rfl (zk_174 L) (by decide) ?_
          refine wp_iload_n (pc := 157) d_M_layCollation_157 rfl ?_
          refine wp_iload (pc := 158) d_M_layCollation_158 rfl ?_
          refine wp_iconst (pc := 160) d_M_layCollation_160 rfl ?_
          refine wp_icmp_ne (tgt := 168) (pc := 161) d_M_layCollation_161 rfl (fun c161 => ?_) (fun c161 => ?_)
          · refine wp_iconst (pc := 168) d_M_layCollation_168 rfl ?_
            refine wp_iadd (pc := 169) d_M_layCollation_169 (by omega) (by omega) ?_
            refine wp_ist3 (pc := 170) d_M_layCollation_170 rfl ?_
            refine wp_iload (pc := 171) d_M_layCollation_171 rfl ?_
            refine wp_iload (pc := 173) d_M_layCollation_173 rfl ?_
            refine wp_iconst (pc := 175) d_M_layCollation_175 rfl ?_
            refine wp_icmp_ne (tgt := 183) (pc := 176) d_M_layCollation_176 rfl (fun c176 => ?_) (fun c176 => ?_)
            · refine wp_iconst (pc := 183) d_M_layCollation_183 rfl ?_
              refine wp_iadd (pc := 184) d_M_layCollation_184 (by omega) (by omega) ?_
              refine wp_ist4 (pc := 185) d_M_layCollation_185 rfl ?_
              refine wp_goto (tgt := 75) (pc := 187) d_M_layCollation_187 rfl ?_
              refine ih (k + 1) _ _ _ _ ?_ (Or.inl he) ?_ ?_ ((g3.u (by omega)).u (by omega)) ?_ (fun q hq => ?_) (fun t ht => ?_)
              · omega
              · rw [hpn.1]
                first | rw [if_pos (Decidable.of_not_not c161)] | rw [if_neg c161]
              · rw [hpn.2]
                first | rw [if_pos (Decidable.of_not_not c176)] | rw [if_neg c176]
              · rw [zU_eq, zU_na (by decide), g4]; omega
              · rw [zU_na (by decide)]
                by_cases e : q = k
                · rw [e, g4, show ((k : Int)).toNat = k by omega, zU_eq, est]
                · rw [zU_nk (by omega)]; exact g5 q (by omega)
              · by_cases e : t = k
                · rw [e, ← g1, ← g2]; omega
                · exact g6 t (by omega)
            · refine wp_iconst (pc := 179) d_M_layCollation_179 rfl ?_
              refine wp_goto (tgt := 184) (pc := 180) d_M_layCollation_180 rfl ?_
              refine wp_iadd (pc := 184) d_M_layCollation_184 (by omega) (by omega) ?_
              refine wp_ist4 (pc := 185) d_M_layCollation_185 rfl ?_
              refine wp_goto (tgt := 75) (pc := 187) d_M_layCollation_187 rfl ?_
              refine ih (k + 1) _ _ _ _ ?_ (Or.inl he) ?_ ?_ ((g3.u (by omega)).u (by omega)) ?_ (fun q hq => ?_) (fun t ht => ?_)
              · omega
              · rw [hpn.1]
                first | rw [if_pos (Decidable.of_not_not c161)] | rw [if_neg c161]
              · rw [hpn.2]
                first | rw [if_pos (Decidable.of_not_not c176)] | rw [if_neg c176]
              · rw [zU_eq, zU_na (by decide), g4]; omega
              · rw [zU_na (by decide)]
                by_cases e : q = k
                · rw [e, g4, show ((k : Int)).toNat = k by omega, zU_eq, est]
                · rw [zU_nk (by omega)]; exact g5 q (by omega)
              · by_cases e : t = k
                · rw [e, ← g1, ← g2]; omega
                · exact g6 t (by omega)
          · refine wp_iconst (pc := 164) d_M_layCollation_164 rfl ?_
            refine wp_goto (tgt := 169) (pc := 165) d_M_layCollation_165 rfl ?_
            refine wp_iadd (pc := 169) d_M_layCollation_169 (by omega) (by omega) ?_
            refine wp_ist3 (pc := 170) d_M_layCollation_170 rfl ?_
            refine wp_iload (pc := 171) d_M_layCollation_171 rfl ?_
            refine wp_iload (pc := 173) d_M_layCollation_173 rfl ?_
            refine wp_iconst (pc := 175) d_M_layCollation_175 rfl ?_
            refine wp_icmp_ne (tgt := 183) (pc := 176) d_M_layCollation_176 rfl (fun c176 => ?_) (fun c176 => ?_)
            · refine wp_iconst (pc := 183) d_M_layCollation_183 rfl ?_
              refine wp_iadd (pc := 184) d_M_layCollation_184 (by omega) (by omega) ?_
              refine wp_ist4 (pc := 185) d_M_layCollation_185 rfl ?_
              refine wp_goto (tgt := 75) (pc := 187) d_M_layCollation_187 rfl ?_
              refine ih (k + 1) _ _ _ _ ?_ (Or.inl he) ?_ ?_ ((g3.u (by omega)).u (by omega)) ?_ (fun q hq => ?_) (fun t ht => ?_)
              · omega
              · rw [hpn.1]
                first | rw [if_pos (Decidable.of_not_not c161)] | rw [if_neg c161]
              · rw [hpn.2]
                first | rw [if_pos (Decidable.of_not_not c176)] | rw [if_neg c176]
              · rw [zU_eq, zU_na (by decide), g4]; omega
              · rw [zU_na (by decide)]
                by_cases e : q = k
                · rw [e, g4, show ((k : Int)).toNat = k by omega, zU_eq, est]
                · rw [zU_nk (by omega)]; exact g5 q (by omega)
              · by_cases e : t = k
                · rw [e, ← g1, ← g2]; omega
                · exact g6 t (by omega)
            · refine wp_iconst (pc := 179) d_M_layCollation_179 rfl ?_
              refine wp_goto (tgt := 184) (pc := 180) d_M_layCollation_180 rfl ?_
              refine wp_iadd (pc := 184) d_M_layCollation_184 (by omega) (by omega) ?_
              refine wp_ist4 (pc := 185) d_M_layCollation_185 rfl ?_
              refine wp_goto (tgt := 75) (pc := 187) d_M_layCollation_187 rfl ?_
              refine ih (k + 1) _ _ _ _ ?_ (Or.inl he) ?_ ?_ ((g3.u (by omega)).u (by omega)) ?_ (fun q hq => ?_) (fun t ht => ?_)
              · omega
              · rw [hpn.1]
                first | rw [if_pos (Decidable.of_not_not c161)] | rw [if_neg c161]
              · rw [hpn.2]
                first | rw [if_pos (Decidable.of_not_not c176)] | rw [if_neg c176]
              · rw [zU_eq, zU_na (by decide), g4]; omega
              · rw [zU_na (by decide)]
                by_cases e : q = k
                · rw [e, g4, show ((k : Int)).toNat = k by omega, zU_eq, est]
                · rw [zU_nk (by omega)]; exact g5 q (by omega)
              · by_cases e : t = k
                · rw [e, ← g1, ← g2]; omega
                · exact g6 t (by omega)
theorem c_M_layCollation (h : mH M D) (hd : mDi D) (x0 : 0 ≤ x) (x1 : x < D.2.2.2) (y0 : 0 ≤ y) (y1 : y < D.2.2.2) : Cv L 4 zm_M_layCollation [rV 174, iV x, iV y] M (fun M' => mF mPc1 M M' ∧ mCl M' D x y) := by
  show wp L _ zm_M_layCollation 0 [rV 174, iV x, iV y, uV, uV, uV] [] M _
  have hd1 := hd.1
  have lx := hd.l x0 x1
  have ly := hd.l y0 y1
  refine wp_aload_n (pc := 0) d_M_layCollation_0 rfl ?_
  refine wp_iload_n (pc := 1) d_M_layCollation_1 rfl ?_
  refine wp_putI (pc := 2) d_M_layCollation_2 rfl (zk_174 L) (by decide) ?_
  refine wp_aload_n (pc := 5) d_M_layCollation_5 rfl ?_
  refine wp_iload_n (pc := 6) d_M_layCollation_6 rfl ?_
  refine wp_putI (pc := 7) d_M_layCollation_7 rfl (zk_174 L) (by decide) ?_
  refine wp_aload_n (pc := 10) d_M_layCollation_10 rfl ?_
  refine wp_getR (pc := 11) d_M_layCollation_11 rfl (zk_174 L) zx_174_3 ?_
  refine wp_iload_n (pc := 14) d_M_layCollation_14 rfl ?_
  refine wp_iald (pc := 15) d_M_layCollation_15 (zk_176 L) (by omega) (by omega) ?_
  refine wp_ist3 (pc := 16) d_M_layCollation_16 rfl ?_
  have k1 : mF mPc1 M (zU (zU M 174 16 x) 174 17 y) := (mF.rf.u (by omega)).u (by omega)
  have h1 : mH (zU (zU M 174 16 x) 174 17 y) D := h.keep k1 (by omega) (by omega) (by omega)
  have nx := (h1.2.2 x x0 x1).1
  rw [nx]
  have q16 : zU (zU M 174 16 x) 174 17 y 174 16 = x := by rw [zU_nk (by decide), zU_eq]
  have q17 : zU (zU M 174 16 x) 174 17 y 174 17 = y := zU_eq
  refine lp_M_lay h1 hd x0 x1 y0 y1 q16 q17 (fun M' u3 u4 hm => ?_) 100 (D.2.1 x) _ uV (by omega) (by omega) (by omega) ⟨mF.rf, fun i' j' a b c d => by omega, fun j' a b => by omega⟩
  refine wp_aload_n (pc := 65) d_M_layCollation_65 rfl ?_
  refine wp_iconst (pc := 66) d_M_layCollation_66 rfl ?_
  refine wp_putI (pc := 67) d_M_layCollation_67 rfl (zk_174 L) (by decide) ?_
  refine wp_iconst (pc := 70) d_M_layCollation_70 rfl ?_
  refine wp_ist3 (pc := 71) d_M_layCollation_71 rfl ?_
  refine wp_iconst (pc := 72) d_M_layCollation_72 rfl ?_
  refine wp_ist4 (pc := 73) d_M_layCollation_73 rfl ?_
  have k2 : mF mPc1 M' (zU M' 174 14 0) := mF.rf.u (by omega)
  have h2 : mH M' D := h1.keep hm.1 (by omega) (by omega) (by omega)
  refine wp_mono (lp_M_lay3 (M0 := zU M' 174 14 0) (h2.keep k2 (by omega) (by omega) (by omega)) hd x0 x1 y0 y1 (by rw [zU_nk (by decide)]; exact (hm.1 174 16 (by omega)).trans q16) (by rw [zU_nk (by decide)]; exact (hm.1 174 17 (by omega)).trans q17) (fun i' j' a b c d => by rw [zU_na (by decide)]; exact hm.2.1 i' j' (by omega) b c d) 100 0 0 0 _ uV (by omega) (Or.inr rfl) rfl rfl mF.rf zU_eq (fun q hq => absurd hq (by omega)) (fun t ht => absurd ht (by omega))) (fun r M2 hr => ⟨hr.1, ?_, hr.2.2⟩)
  exact ((k1.tr (hm.1.up (fun a k z => by omega))).tr k2).tr (hr.2.1.up (fun a k z => by omega))
end ZM3
