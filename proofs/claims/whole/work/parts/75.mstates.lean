/-! the model's states and their tree -/
/-- the row of a copy's readings -/
abbrev mRw (M : zM) (D : qDt) (c : Int) : Prop := ∀ p : Int, 0 ≤ p → p < uPl D → M 184 (24 * c + p).toNat = uRd D c p
/-- behind k copies -/
def mGs (M : zM) (D : qDt) (k : Nat) : Prop := M 174 20 = (uG D k).1 ∧ (∀ s : Int, 0 ≤ s → s < (uG D k).1 → M 187 s.toNat = (uG D k).2.2.1 s) ∧ (∀ c : Int, 0 ≤ c → c < k → M 186 c.toNat = (uG D k).2.2.2.2 c ∧ M 185 c.toNat = (if uIn D 0 c then 0 else 1)) ∧ ∀ c : Int, 0 ≤ c → c < k → uIn D 0 c → mRw M D c
theorem mDi.pl {D : qDt} (hd : mDi D) : 0 ≤ uPl D ∧ uPl D ≤ 24 := by
  unfold uPl
  split
  · rename_i e
    have := hd.l (Int.le_refl 0) e
    omega
  · omega
theorem mGs.keep {P : Nat → Nat → Prop} {M M' : zM} {D : qDt} {k : Nat} (h : mGs M D k) (hp : uPl D ≤ 24) (hf : mF P M M') (h1 : ¬ P 174 20) (h2 : ∀ j, ¬ P 187 j) (h3 : ∀ j, j < k → ¬ P 186 j ∧ ¬ P 185 j) (h4 : ∀ j, j < 24 * k → ¬ P 184 j) : mGs M' D k := by
  obtain ⟨a1, a2, a3, a4⟩ := h
  refine ⟨(hf _ _ h1).trans a1, fun s s0 s1 => (hf _ _ (h2 _)).trans (a2 s s0 s1), fun c c0 c1 => ?_, fun c c0 c1 ci p p0 p1 => (hf _ _ (h4 _ (by omega))).trans (a4 c c0 c1 ci p p0 p1)⟩
  have := h3 c.toNat (by omega)
  exact ⟨(hf _ _ this.1).trans (a3 c c0 c1).1, (hf _ _ this.2).trans (a3 c c0 c1).2⟩
theorem uG_1 {D : qDt} {k : Nat} (hin : ¬ uIn D 0 (k : Int)) : uG D (k + 1) = ((uG D k).1, (uG D k).2.1 + 1, (uG D k).2.2.1, (uG D k).2.2.2.1, qPut (uG D k).2.2.2.2 k (-1)) := if_neg hin
theorem uG_2 {D : qDt} {k : Nat} (hin : uIn D 0 (k : Int)) (hF : uFs D (uG D k) k < (uG D k).1) : uG D (k + 1) = ((uG D k).1, (uG D k).2.1, (uG D k).2.2.1, qPut (uG D k).2.2.2.1 (uFs D (uG D k) k) ((uG D k).2.2.2.1 (uFs D (uG D k) k) + 1), qPut (uG D k).2.2.2.2 k (uFs D (uG D k) k)) := (if_pos hin).trans (if_pos hF)
theorem uG_3 {D : qDt} {k : Nat} (hin : uIn D 0 (k : Int)) (hF : ¬ uFs D (uG D k) k < (uG D k).1) : uG D (k + 1) = ((uG D k).1 + 1, (uG D k).2.1, qPut (uG D k).2.2.1 (uG D k).1 k, qPut (uG D k).2.2.2.1 (uG D k).1 1, qPut (uG D k).2.2.2.2 k (uG D k).1) := (if_pos hin).trans (if_neg hF)
theorem uG_so {D : qDt} {k : Nat} {c : Int} (h : ¬ c = k) : (uG D (k + 1)).2.2.2.2 c = (uG D k).2.2.2.2 c := by
  by_cases hin : uIn D 0 (k : Int)
  · by_cases hF : uFs D (uG D k) k < (uG D k).1
    · rw [uG_2 hin hF]; exact qPut_ne h
    · rw [uG_3 hin hF]; exact qPut_ne h
  · rw [uG_1 hin]; exact qPut_ne h
theorem mGs_su {P : Nat → Nat → Prop} {M M' : zM} {D : qDt} {k : Nat} (hp : uPl D ≤ 24) (h : mGs M D k) (hf : mF P M M') (h3 : ∀ j, j < k → ¬ P 186 j ∧ ¬ P 185 j) (h4 : ∀ j, j < 24 * k → ¬ P 184 j) (h5 : M' 185 k = if uIn D 0 (k : Int) then 0 else 1) (h6 : uIn D 0 (k : Int) → mRw M' D k) (h7 : M' 174 20 = (uG D (k + 1)).1) (h8 : ∀ s : Int, 0 ≤ s → s < (uG D (k + 1)).1 → M' 187 s.toNat = (uG D (k + 1)).2.2.1 s) (h9 : M' 186 k = (uG D (k + 1)).2.2.2.2 k) : mGs M' D (k + 1) := by
  obtain ⟨a1, a2, a3, a4⟩ := h
  refine ⟨h7, h8, fun c c0 c1 => ?_, fun c c0 c1 ci => ?_⟩
  · by_cases e : c = k
    · rw [e]
      exact ⟨h9, h5⟩
    · rw [uG_so e]
      have := h3 c.toNat (by omega)
      have h := a3 c c0 (by omega)
      exact ⟨(hf _ _ this.1).trans h.1, (hf _ _ this.2).trans h.2⟩
  · by_cases e : c = k
    · rw [e] at ci ⊢
      exact h6 ci
    · intro p p0 p1
      exact (hf _ _ (h4 _ (by omega))).trans (a4 c c0 (by omega) ci p p0 p1)
theorem qFd_at {c : Int → Int} : ∀ (n : Nat) (s : Int), (∀ t : Int, s ≤ t → t < qFd c n s → ¬ c t = 0) ∧ (qFd c n s < s + n → c (qFd c n s) = 0) := by
  intro n
  induction n with
  | zero => intro s; exact ⟨fun t a b => absurd b (by simp only [qFd]; omega), fun z => absurd z (by simp only [qFd]; omega)⟩
  | succ n ih =>
    intro s
    simp only [qFd]
    by_cases e : c s = 0
    · rw [if_pos e]; exact ⟨fun t a b => absurd b (by omega), fun _ => e⟩
    · rw [if_neg e]
      obtain ⟨h1, h2⟩ := ih (s + 1)
      refine ⟨fun t a b => ?_, fun z => h2 (by omega)⟩
      by_cases et : t = s
      · rw [et]; exact e
      · exact h1 t (by omega) b
/-- the states of all copies, as the memory has them -/
theorem mGs.f {M : zM} {D : qDt} {x : Int} (h : mGs M D D.2.2.2.toNat) (hd : mDi D) (x0 : 0 ≤ x) (x1 : x < uN D) : M 187 x.toNat = uFi D x ∧ (0 ≤ uFi D x ∧ uFi D x < D.2.2.2) ∧ uIn D 0 (uFi D x) ∧ mRw M D (uFi D x) := by
  have hd1 := hd.1
  obtain ⟨a1, a2, a3, a4⟩ := h
  have hb := (uG_b D hd.2.1.1 D.2.2.2.toNat).2.2.2.1 x x0 x1
  have e : uFi D x = (uG D D.2.2.2.toNat).2.2.1 x := rfl
  rw [← e] at hb
  exact ⟨a2 x x0 x1, ⟨hb.1.1, by omega⟩, hb.2.1, a4 _ hb.1.1 hb.1.2 hb.2.1⟩
theorem uN_m {D : qDt} (hd : mDi D) : 0 ≤ uN D ∧ uN D ≤ 6 := uN_b hd.2.1.1 hd.1.2
section ZM5
variable {L : Nat} {M : zM} {D : qDt} {Y : qYt} {g : qPt} {x y z w c p s i j : Int}
theorem lp_M_unlike (h : mH M D) (hd : mDi D) (hx : (0 ≤ x ∧ x < 6) ∧ mRw M D x) (hy : (0 ≤ y ∧ y < 6) ∧ mRw M D y) : ∀ (n9 : Nat) (k : Nat) (v : Int), uPl D - k < n9 → ((k : Int) ≤ uPl D) → (v = qN (fun p => decide (¬ uRd D x p = uRd D y p)) k) → wp L 1 zm_M_unlike 5 [rV 174, iV x, iV y, iV v, iV k] [] M (fun r M' => r = some (iV (uDf D x y)) ∧ M' = M) := by
  intro n9
  induction n9 with
  | zero =>
    intro k  v  h9 g0 g1
    have hp := hd.pl
    exact absurd h9 (by omega)
  | succ n9 ih =>
    intro k  v  h9 g0 g1
    have hp := hd.pl
    have hv := qN_b (fun p => decide (¬ uRd D x p = uRd D y p)) k
    rw [← g1] at hv
    have hx1 := hx.1
    have hy1 := hy.1
    refine wp_iload (pc := 5) d_M_unlike_5 rfl ?_
    refine wp_aload_n (pc := 7) d_M_unlike_7 rfl ?_
    refine wp_callV0f (pc := 8) d_M_unlike_8 rfl rfl (zk_174 L) rfl rfl (c_M_places h hd) ?_
    refine wp_icmp_ge (tgt := 55) (pc := 11) d_M_unlike_11 rfl (fun c11 => ?_) (fun c11 => ?_)
    · refine wp_iload_n (pc := 55) d_M_unlike_55 rfl ?_
      refine wp_ireturn (pc := 56) d_M_unlike_56 rfl ?_
      refine ⟨?_, rfl⟩
      rw [g1]
      unfold uDf
      rw [show (uPl D).toNat = k by omega]
    · refine zcut (pc' := 47) (fun (v47 : Int) => v47 = if ¬ uRd D x (k : Int) = uRd D y (k : Int) then 1 else 0) (fun (v47 : Int) => [rV 174, iV x, iV y, iV v, iV (k : Int)]) (fun (v47 : Int) => [iV v47, iV v]) (fun (v47 : Int) => M) ?_ (fun K47 => ?_)
      · intro v47 h47
        show wp L _ zm_M_unlike 47 [rV 174, iV x, iV y, iV v, iV (k : Int)] [iV v47, iV v] (M) _
        have hv2 : v47 = 0 ∨ v47 = 1 := by rw [h47]; split <;> omega
        refine wp_iadd (pc := 47) d_M_unlike_47 (by omega) (by omega) ?_
        refine wp_ist3 (pc := 48) d_M_unlike_48 rfl ?_
        refine wp_iinc4 (pc := 49) d_M_unlike_49 rfl (by omega) (by omega) ?_
        refine wp_goto (tgt := 5) (pc := 52) d_M_unlike_52 rfl ?_
        refine ih (k + 1) _ (by omega) (by omega) ?_
        simp only [qN, decide_eq_true_eq]
        rw [← g1, h47]
      · refine wp_iload_n (pc := 14) d_M_unlike_14 rfl ?_
        refine wp_aload_n (pc := 15) d_M_unlike_15 rfl ?_
        refine wp_getR (pc := 16) d_M_unlike_16 rfl (zk_174 L) zx_174_18 ?_
        refine wp_bipush (pc := 19) d_M_unlike_19 rfl ?_
        refine wp_iload_n (pc := 21) d_M_unlike_21 rfl ?_
        refine wp_imul (pc := 22) d_M_unlike_22 (by omega) (by omega) ?_
        refine wp_iload (pc := 23) d_M_unlike_23 rfl ?_
        refine wp_iadd (pc := 25) d_M_unlike_25 (by omega) (by omega) ?_
        refine wp_iald (pc := 26) d_M_unlike_26 (zk_184 L) (by omega) (by omega) ?_
        rw [hx.2 (k : Int) (by omega) (by omega)]
        refine wp_aload_n (pc := 27) d_M_unlike_27 rfl ?_
        refine wp_getR (pc := 28) d_M_unlike_28 rfl (zk_174 L) zx_174_18 ?_
        refine wp_bipush (pc := 31) d_M_unlike_31 rfl ?_
        refine wp_iload_n (pc := 33) d_M_unlike_33 rfl ?_
        refine wp_imul (pc := 34) d_M_unlike_34 (by omega) (by omega) ?_
        refine wp_iload (pc := 35) d_M_unlike_35 rfl ?_
        refine wp_iadd (pc := 37) d_M_unlike_37 (by omega) (by omega) ?_
        refine wp_iald (pc := 38) d_M_unlike_38 (zk_184 L) (by omega) (by omega) ?_
        rw [hy.2 (k : Int) (by omega) (by omega)]
        refine wp_icmp_ne (tgt := 46) (pc := 39) d_M_unlike_39 rfl (fun c39 => ?_) (fun c39 => ?_)
        · refine wp_iconst (pc := 46) d_M_unlike_46 rfl ?_
          first | exact K47 _ (if_pos c39).symm | exact K47 _ (if_neg c39).symm
        · refine wp_iconst (pc := 42) d_M_unlike_42 rfl ?_
          refine wp_goto (tgt := 47) (pc := 43) d_M_unlike_43 rfl ?_
          first | exact K47 _ (if_pos c39).symm | exact K47 _ (if_neg c39).symm
theorem c_M_unlike (h : mH M D) (hd : mDi D) (hx : (0 ≤ x ∧ x < 6) ∧ mRw M D x) (hy : (0 ≤ y ∧ y < 6) ∧ mRw M D y) : Cf L 1 zm_M_unlike [rV 174, iV x, iV y] M (iV (uDf D x y)) M := by
  show wp L _ zm_M_unlike 0 [rV 174, iV x, iV y, uV, uV] [] M _
  have hp := hd.pl
  refine wp_iconst (pc := 0) d_M_unlike_0 rfl ?_
  refine wp_ist3 (pc := 1) d_M_unlike_1 rfl ?_
  refine wp_iconst (pc := 2) d_M_unlike_2 rfl ?_
  refine wp_ist4 (pc := 3) d_M_unlike_3 rfl ?_
  exact lp_M_unlike h hd hx hy 100 0 0 (by omega) (by omega) rfl
theorem c_M_farNow (h : mH M D) (hd : mDi D) (hg : mGs M D D.2.2.2.toNat) (x0 : 0 ≤ x) (x1 : x < uN D) (y0 : 0 ≤ y) (y1 : y < uN D) : Cf L 2 zm_M_farNow [rV 174, iV x, iV y] M (iV (uDs D x y)) M := by
  show wp L _ zm_M_farNow 0 [rV 174, iV x, iV y] [] M _
  have hd1 := hd.1
  have hn := uN_m hd
  obtain ⟨f1, f2, f3, f4⟩ := hg.f hd x0 x1
  obtain ⟨k1, k2, k3, k4⟩ := hg.f hd y0 y1
  refine wp_aload_n (pc := 0) d_M_farNow_0 rfl ?_
  refine wp_aload_n (pc := 1) d_M_farNow_1 rfl ?_
  refine wp_getR (pc := 2) d_M_farNow_2 rfl (zk_174 L) zx_174_22 ?_
  refine wp_iload_n (pc := 5) d_M_farNow_5 rfl ?_
  refine wp_iald (pc := 6) d_M_farNow_6 (zk_187 L) (by omega) (by omega) ?_
  rw [f1]
  refine wp_aload_n (pc := 7) d_M_farNow_7 rfl ?_
  refine wp_getR (pc := 8) d_M_farNow_8 rfl (zk_174 L) zx_174_22 ?_
  refine wp_iload_n (pc := 11) d_M_farNow_11 rfl ?_
  refine wp_iald (pc := 12) d_M_farNow_12 (zk_187 L) (by omega) (by omega) ?_
  rw [k1]
  refine wp_callV2f (pc := 13) d_M_farNow_13 rfl rfl (zk_174 L) rfl rfl (c_M_unlike h hd ⟨by omega, f4⟩ ⟨by omega, k4⟩) ?_
  refine wp_ireturn (pc := 16) d_M_farNow_16 rfl ?_
  exact ⟨by unfold uDs; rw [if_pos ⟨⟨x0, x1⟩, y0, y1⟩], rfl⟩
theorem lp_M_lt1 (h : mH M D) (hd : mDi D) (hg : mGs M D D.2.2.2.toNat) {jo : Int → Int} (hj : ∀ s : Int, 0 ≤ s → s < uN D → M 189 s.toNat = jo s) {Qx : Option zV → zM → Prop} {s0 : Int × Int × Int} {u : Int} (hu : 0 ≤ u ∧ u < uN D) (hq : ∀ (w : Int × Int × Int) (v6 : Int) (u7 : zV), w = qSv jo (uDs D) u (uN D).toNat s0 → wp L 3 zm_M_layTree 58 [rV 174, iV x, iV w.2.1, iV w.2.2, iV w.1, iV (u + 1), iV v6, u7] [] M Qx) : ∀ (n9 : Nat) (k : Nat) (v : Int) (w : Int × Int × Int) (u7 : zV), uN D - v < n9 → (v = k) → (v ≤ uN D) → (w = qSv jo (uDs D) u k s0) → wp L 3 zm_M_layTree 70 [rV 174, iV x, iV w.2.1, iV w.2.2, iV w.1, iV u, iV v, u7] [] M (Qx) := by
  intro n9
  induction n9 with
  | zero =>
    intro k  v  w  u7  h9 g1 g2 g3
    have hn := uN_m hd
    have e20 : M 174 20 = uN D := hg.1
    exact absurd h9 (by omega)
  | succ n9 ih =>
    intro k  v  w  u7  h9 g1 g2 g3
    have hn := uN_m hd
    have e20 : M 174 20 = uN D := hg.1
    refine wp_iload (pc := 70) d_M_layTree_70 rfl ?_
    refine wp_aload_n (pc := 72) d_M_layTree_72 rfl ?_
    refine wp_getI (pc := 73) d_M_layTree_73 rfl (by decide) (zk_174 L) ?_
    refine wp_icmp_ge (tgt := 171) (pc := 76) d_M_layTree_76 rfl (fun c76 => ?_) (fun c76 => ?_)
    · refine wp_iinc5 (pc := 171) d_M_layTree_171 rfl (by omega) (by omega) ?_
      refine wp_goto (tgt := 58) (pc := 174) d_M_layTree_174 rfl ?_
      exact hq w _ _ (by rw [g3, show (uN D).toNat = k by omega])
    · refine wp_aload_n (pc := 79) d_M_layTree_79 rfl ?_
      refine wp_getR (pc := 80) d_M_layTree_80 rfl (zk_174 L) zx_174_24 ?_
      refine wp_iload (pc := 83) d_M_layTree_83 rfl ?_
      refine wp_iald (pc := 85) d_M_layTree_85 (zk_189 L) (by omega) (by omega) ?_
      rw [hj u (by omega) (by omega)]
      refine wp_iconst (pc := 86) d_M_layTree_86 rfl ?_
      refine wp_icmp_eq (tgt := 118) (pc := 87) d_M_layTree_87 rfl (fun c87 => ?_) (fun c87 => ?_)
      · refine wp_iconst (pc := 118) d_M_layTree_118 rfl ?_
        refine wp_ist7 (pc := 119) d_M_layTree_119 rfl ?_
        refine wp_iload (pc := 121) d_M_layTree_121 rfl ?_
        refine wp_if_eq (tgt := 131) (pc := 123) d_M_layTree_123 rfl (fun c123 => ?_) (fun c123 => ?_)
        · refine wp_iload_n (pc := 131) d_M_layTree_131 rfl ?_
          refine wp_ist2 (pc := 132) d_M_layTree_132 rfl ?_
          refine wp_iload (pc := 133) d_M_layTree_133 rfl ?_
          refine wp_if_eq (tgt := 143) (pc := 135) d_M_layTree_135 rfl (fun c135 => ?_) (fun c135 => ?_)
          · refine wp_iload_n (pc := 143) d_M_layTree_143 rfl ?_
            refine wp_ist3 (pc := 144) d_M_layTree_144 rfl ?_
            refine wp_iload (pc := 145) d_M_layTree_145 rfl ?_
            refine wp_if_eq (tgt := 161) (pc := 147) d_M_layTree_147 rfl (fun c147 => ?_) (fun c147 => ?_)
            · refine wp_iload (pc := 161) d_M_layTree_161 rfl ?_
              refine wp_ist4 (pc := 163) d_M_layTree_163 rfl ?_
              refine wp_iinc6 (pc := 165) d_M_layTree_165 rfl (by omega) (by omega) ?_
              refine wp_goto (tgt := 70) (pc := 168) d_M_layTree_168 rfl ?_
              first
              | (refine ih (k + 1) (v + 1) (uDs D u v, u, v) _ (by omega) (by omega) (by omega) ?_
                 simp only [qSv]
                 rw [if_pos ⟨c87, by rw [← g1]; exact Decidable.of_not_not c98, by rw [← g3, ← g1]; omega⟩, ← g1])
              | (refine ih (k + 1) (v + 1) w _ (by omega) (by omega) (by omega) ?_
                 simp only [qSv]
                 rw [if_neg (by
                   rw [← g3, ← g1]
                   intro z
                   first | exact z.1 c87 | exact c98 z.2.1 | exact absurd z.2.2 (by omega))]
                 exact g3)
            · exact absurd c147 (by decide)
          · exact absurd c135 (by decide)
        · exact absurd c123 (by decide)
      · refine wp_aload_n (pc := 90) d_M_layTree_90 rfl ?_
        refine wp_getR (pc := 91) d_M_layTree_91 rfl (zk_174 L) zx_174_24 ?_
        refine wp_iload (pc := 94) d_M_layTree_94 rfl ?_
        refine wp_iald (pc := 96) d_M_layTree_96 (zk_189 L) (by omega) (by omega) ?_
        rw [hj v (by omega) (by omega)]
        refine wp_iconst (pc := 97) d_M_layTree_97 rfl ?_
        refine wp_icmp_ne (tgt := 118) (pc := 98) d_M_layTree_98 rfl (fun c98 => ?_) (fun c98 => ?_)
        · refine wp_iconst (pc := 118) d_M_layTree_118 rfl ?_
          refine wp_ist7 (pc := 119) d_M_layTree_119 rfl ?_
          refine wp_iload (pc := 121) d_M_layTree_121 rfl ?_
          refine wp_if_eq (tgt := 131) (pc := 123) d_M_layTree_123 rfl (fun c123 => ?_) (fun c123 => ?_)
          · refine wp_iload_n (pc := 131) d_M_layTree_131 rfl ?_
            refine wp_ist2 (pc := 132) d_M_layTree_132 rfl ?_
            refine wp_iload (pc := 133) d_M_layTree_133 rfl ?_
            refine wp_if_eq (tgt := 143) (pc := 135) d_M_layTree_135 rfl (fun c135 => ?_) (fun c135 => ?_)
            · refine wp_iload_n (pc := 143) d_M_layTree_143 rfl ?_
              refine wp_ist3 (pc := 144) d_M_layTree_144 rfl ?_
              refine wp_iload (pc := 145) d_M_layTree_145 rfl ?_
              refine wp_if_eq (tgt := 161) (pc := 147) d_M_layTree_147 rfl (fun c147 => ?_) (fun c147 => ?_)
              · refine wp_iload (pc := 161) d_M_layTree_161 rfl ?_
                refine wp_ist4 (pc := 163) d_M_layTree_163 rfl ?_
                refine wp_iinc6 (pc := 165) d_M_layTree_165 rfl (by omega) (by omega) ?_
                refine wp_goto (tgt := 70) (pc := 168) d_M_layTree_168 rfl ?_
                first
                | (refine ih (k + 1) (v + 1) (uDs D u v, u, v) _ (by omega) (by omega) (by omega) ?_
                   simp only [qSv]
                   rw [if_pos ⟨c87, by rw [← g1]; exact Decidable.of_not_not c98, by rw [← g3, ← g1]; omega⟩, ← g1])
                | (refine ih (k + 1) (v + 1) w _ (by omega) (by omega) (by omega) ?_
                   simp only [qSv]
                   rw [if_neg (by
                     rw [← g3, ← g1]
                     intro z
                     first | exact z.1 c87 | exact c98 z.2.1 | exact absurd z.2.2 (by omega))]
                   exact g3)
              · exact absurd c147 (by decide)
            · exact absurd c135 (by decide)
          · exact absurd c123 (by decide)
        · refine wp_aload_n (pc := 101) d_M_layTree_101 rfl ?_
          refine wp_iload (pc := 102) d_M_layTree_102 rfl ?_
          refine wp_iload (pc := 104) d_M_layTree_104 rfl ?_
          refine wp_callV2f (pc := 106) d_M_layTree_106 rfl rfl (zk_174 L) rfl rfl (c_M_farNow h hd hg (by omega) (by omega) (by omega) (by omega)) ?_
          refine wp_iload (pc := 109) d_M_layTree_109 rfl ?_
          refine wp_icmp_ge (tgt := 118) (pc := 111) d_M_layTree_111 rfl (fun c111 => ?_) (fun c111 => ?_)
          · refine wp_iconst (pc := 118) d_M_layTree_118 rfl ?_
            refine wp_ist7 (pc := 119) d_M_layTree_119 rfl ?_
            refine wp_iload (pc := 121) d_M_layTree_121 rfl ?_
            refine wp_if_eq (tgt := 131) (pc := 123) d_M_layTree_123 rfl (fun c123 => ?_) (fun c123 => ?_)
            · refine wp_iload_n (pc := 131) d_M_layTree_131 rfl ?_
              refine wp_ist2 (pc := 132) d_M_layTree_132 rfl ?_
              refine wp_iload (pc := 133) d_M_layTree_133 rfl ?_
              refine wp_if_eq (tgt := 143) (pc := 135) d_M_layTree_135 rfl (fun c135 => ?_) (fun c135 => ?_)
              · refine wp_iload_n (pc := 143) d_M_layTree_143 rfl ?_
                refine wp_ist3 (pc := 144) d_M_layTree_144 rfl ?_
                refine wp_iload (pc := 145) d_M_layTree_145 rfl ?_
                refine wp_if_eq (tgt := 161) (pc := 147) d_M_layTree_147 rfl (fun c147 => ?_) (fun c147 => ?_)
                · refine wp_iload (pc := 161) d_M_layTree_161 rfl ?_
                  refine wp_ist4 (pc := 163) d_M_layTree_163 rfl ?_
                  refine wp_iinc6 (pc := 165) d_M_layTree_165 rfl (by omega) (by omega) ?_
                  refine wp_goto (tgt := 70) (pc := 168) d_M_layTree_168 rfl ?_
                  first
                  | (refine ih (k + 1) (v + 1) (uDs D u v, u, v) _ (by omega) (by omega) (by omega) ?_
                     simp only [qSv]
                     rw [if_pos ⟨c87, by rw [← g1]; exact Decidable.of_not_not c98, by rw [← g3, ← g1]; omega⟩, ← g1])
                  | (refine ih (k + 1) (v + 1) w _ (by omega) (by omega) (by omega) ?_
                     simp only [qSv]
                     rw [if_neg (by
                       rw [← g3, ← g1]
                       intro z
                       first | exact z.1 c87 | exact c98 z.2.1 | exact absurd z.2.2 (by omega))]
                     exact g3)
                · exact absurd c147 (by decide)
              · exact absurd c135 (by decide)
            · exact absurd c123 (by decide)
          · refine wp_iconst (pc := 114) d_M_layTree_114 rfl ?_
            refine wp_goto (tgt := 119) (pc := 115) d_M_layTree_115 rfl ?_
            refine wp_ist7 (pc := 119) d_M_layTree_119 rfl ?_
            refine wp_iload (pc := 121) d_M_layTree_121 rfl ?_
            refine wp_if_eq (tgt := 131) (pc := 123) d_M_layTree_123 rfl (fun c123 => ?_) (fun c123 => ?_)
            · exact absurd c123 (by decide)
            · refine wp_iload (pc := 126) d_M_layTree_126 rfl ?_
              refine wp_goto (tgt := 132) (pc := 128) d_M_layTree_128 rfl ?_
              refine wp_ist2 (pc := 132) d_M_layTree_132 rfl ?_
              refine wp_iload (pc := 133) d_M_layTree_133 rfl ?_
              refine wp_if_eq (tgt := 143) (pc := 135) d_M_layTree_135 rfl (fun c135 => ?_) (fun c135 => ?_)
              · exact absurd c135 (by decide)
              · refine wp_iload (pc := 138) d_M_layTree_138 rfl ?_
                refine wp_goto (tgt := 144) (pc := 140) d_M_layTree_140 rfl ?_
                refine wp_ist3 (pc := 144) d_M_layTree_144 rfl ?_
                refine wp_iload (pc := 145) d_M_layTree_145 rfl ?_
                refine wp_if_eq (tgt := 161) (pc := 147) d_M_layTree_147 rfl (fun c147 => ?_) (fun c147 => ?_)
                · exact absurd c147 (by decide)
                · refine wp_aload_n (pc := 150) d_M_layTree_150 rfl ?_
                  refine wp_iload (pc := 151) d_M_layTree_151 rfl ?_
                  refine wp_iload (pc := 153) d_M_layTree_153 rfl ?_
                  refine wp_callV2f (pc := 155) d_M_layTree_155 rfl rfl (zk_174 L) rfl rfl (c_M_farNow h hd hg (by omega) (by omega) (by omega) (by omega)) ?_
                  refine wp_goto (tgt := 163) (pc := 158) d_M_layTree_158 rfl ?_
                  refine wp_ist4 (pc := 163) d_M_layTree_163 rfl ?_
                  refine wp_iinc6 (pc := 165) d_M_layTree_165 rfl (by omega) (by omega) ?_
                  refine wp_goto (tgt := 70) (pc := 168) d_M_layTree_168 rfl ?_
                  first
                  | (refine ih (k + 1) (v + 1) (uDs D u v, u, v) _ (by omega) (by omega) (by omega) ?_
                     simp only [qSv]
                     rw [if_pos ⟨c87, by rw [← g1]; exact Decidable.of_not_not c98, by rw [← g3, ← g1]; omega⟩, ← g1])
                  | (refine ih (k + 1) (v + 1) w _ (by omega) (by omega) (by omega) ?_
                     simp only [qSv]
                     rw [if_neg (by
                       rw [← g3, ← g1]
                       intro z
                       first | exact z.1 c87 | exact c98 z.2.1 | exact absurd z.2.2 (by omega))]
                     exact g3)
theorem lp_M_lt2 (h : mH M D) (hd : mDi D) (hg : mGs M D D.2.2.2.toNat) {jo : Int → Int} (hj : ∀ s : Int, 0 ≤ s → s < uN D → M 189 s.toNat = jo s) {Qx : Option zV → zM → Prop} (hq : ∀ (w : Int × Int × Int) (u5 u6 u7 : zV), w = qSu jo (uDs D) (uN D).toNat (uN D).toNat (1048576, -1, -1) → wp L 3 zm_M_layTree 177 [rV 174, iV x, iV w.2.1, iV w.2.2, iV w.1, u5, u6, u7] [] M Qx) : ∀ (n9 : Nat) (k : Nat) (u : Int) (w : Int × Int × Int) (u6 : zV) (u7 : zV), uN D - u < n9 → (u = k) → (u ≤ uN D) → (w = qSu jo (uDs D) (uN D).toNat k (1048576, -1, -1)) → wp L 3 zm_M_layTree 58 [rV 174, iV x, iV w.2.1, iV w.2.2, iV w.1, iV u, u6, u7] [] M (Qx) := by
  intro n9
  induction n9 with
  | zero =>
    intro k  u  w  u6  u7  h9 g1 g2 g3
    have hn := uN_m hd
    have e20 : M 174 20 = uN D := hg.1
    exact absurd h9 (by omega)
  | succ n9 ih =>
    intro k  u  w  u6  u7  h9 g1 g2 g3
    have hn := uN_m hd
    have e20 : M 174 20 = uN D := hg.1
    refine wp_iload (pc := 58) d_M_layTree_58 rfl ?_
    refine wp_aload_n (pc := 60) d_M_layTree_60 rfl ?_
    refine wp_getI (pc := 61) d_M_layTree_61 rfl (by decide) (zk_174 L) ?_
    refine wp_icmp_ge (tgt := 177) (pc := 64) d_M_layTree_64 rfl (fun c64 => ?_) (fun c64 => ?_)
    · exact hq w _ _ _ (by rw [g3, show (uN D).toNat = k by omega])
    · refine wp_iconst (pc := 67) d_M_layTree_67 rfl ?_
      refine wp_ist6 (pc := 68) d_M_layTree_68 rfl ?_
      refine lp_M_lt1 (x := x) h hd hg hj (s0 := w) (u := u) ⟨by omega, by omega⟩ (fun w2 v6 u7' hw => ih (k + 1) (u + 1) w2 _ _ (by omega) (by omega) (by omega) ?_) 100 0 0 w _ (by omega) rfl (by omega) rfl
      rw [hw, g3, g1]
      rfl
theorem lp_M_lt3 {M0 : zM} (h : mH M0 D) (hd : mDi D) (hg : mGs M0 D D.2.2.2.toNat) : ∀ (n9 : Nat) (k : Nat) (t : Int) (M : zM) (u2 : zV) (u3 : zV) (u4 : zV) (u5 : zV) (u6 : zV) (u7 : zV), uN D + 1 - t < n9 → (t ≤ 1 ∨ t ≤ uN D) → (t = (k : Int) + 1) → (mF (fun a k => a = 188 ∨ a = 189) M0 M) → (∀ s : Int, 0 ≤ s → s < uN D → M 188 s.toNat = (qTr (uDs D) (uN D).toNat 1048576 k).1 s ∧ M 189 s.toNat = (qTr (uDs D) (uN D).toNat 1048576 k).2.2 s) → wp L 3 zm_M_layTree 39 [rV 174, iV t, u2, u3, u4, u5, u6, u7] [] M (fun r M' => r = none ∧ (mF (fun a k => a = 188 ∨ a = 189) M0 M' ∧ ∀ s : Int, 0 ≤ s → s < uN D → M' 188 s.toNat = (uT D).1 s ∧ M' 189 s.toNat = (uT D).2.2 s)) := by
  intro n9
  induction n9 with
  | zero =>
    intro k  t  M  u2  u3  u4  u5  u6  u7  h9 g0 g1 g3 g4
    have hn := uN_m hd
    exact absurd h9 (by omega)
  | succ n9 ih =>
    intro k  t  M  u2  u3  u4  u5  u6  u7  h9 g0 g1 g3 g4
    have hn := uN_m hd
    have hp := hd.pl
    have hM : mH M D := h.keep g3 (by omega) (by omega) (by omega)
    have hgM : mGs M D D.2.2.2.toNat := hg.keep hp.2 g3 (by omega) (by omega) (by omega) (by omega)
    have e20 : M 174 20 = uN D := hgM.1
    refine wp_iload_n (pc := 39) d_M_layTree_39 rfl ?_
    refine wp_aload_n (pc := 40) d_M_layTree_40 rfl ?_
    refine wp_getI (pc := 41) d_M_layTree_41 rfl (by decide) (zk_174 L) ?_
    refine wp_icmp_ge (tgt := 197) (pc := 44) d_M_layTree_44 rfl (fun c44 => ?_) (fun c44 => ?_)
    · refine wp_return_ (pc := 197) d_M_layTree_197 rfl ?_
      refine ⟨rfl, g3, fun s s0 s1 => ?_⟩
      have hk : (uN D).toNat - 1 = k := by omega
      have := uT_i D hp.1 hp.2 1048576 (by decide) k
      unfold uT
      rw [hk, ← this]
      exact g4 s s0 s1
    · refine wp_iconst (pc := 47) d_M_layTree_47 rfl ?_
      refine wp_ist2 (pc := 48) d_M_layTree_48 rfl ?_
      refine wp_iconst (pc := 49) d_M_layTree_49 rfl ?_
      refine wp_ist3 (pc := 50) d_M_layTree_50 rfl ?_
      refine wp_ldc (pc := 51) d_M_layTree_51 rfl ?_
      refine wp_ist4 (pc := 53) d_M_layTree_53 rfl ?_
      refine wp_iconst (pc := 55) d_M_layTree_55 rfl ?_
      refine wp_ist5 (pc := 56) d_M_layTree_56 rfl ?_
      refine lp_M_lt2 (x := t) hM hd hgM (jo := (qTr (uDs D) (uN D).toNat 1048576 k).2.2) (fun s s0 s1 => (g4 s s0 s1).2) (fun w u5 u6 u7 hw => ?_) 100 0 0 (1048576, -1, -1) _ _ (by omega) rfl (by omega) rfl
      have hti := qTr_ti (D := uDs D) (n := (uN D).toNat) (i := 1048576) (by omega) (fun u v _ _ _ _ => by have := uDs_b D hp.1 hp.2 u v; omega) k (by omega)
      obtain ⟨q1, q2, q3⟩ := hti
      obtain ⟨v, v0, v1, v2⟩ := qN_false (c := fun s => decide (¬ (qTr (uDs D) (uN D).toNat 1048576 k).2.2 s = -1)) (n := (uN D).toNat) (by rw [q3]; omega)
      have v2 : (qTr (uDs D) (uN D).toNat 1048576 k).2.2 v = -1 := Decidable.of_not_not (of_decide_eq_false v2)
      have hc := qSu_to (jo := (qTr (uDs D) (uN D).toNat 1048576 k).2.2) (D := uDs D) (n := (uN D).toNat) (i := 1048576) (fun u v _ _ _ _ => by have := uDs_b D hp.1 hp.2 u v; omega) (u := 0) (v := v) (by decide) (by omega) v0 v1 (by rw [q1]; decide) v2
      rw [← hw] at hc
      obtain ⟨c1, c2, c3, c4, c5⟩ := hc
      refine wp_aload_n (pc := 177) d_M_layTree_177 rfl ?_
      refine wp_getR (pc := 178) d_M_layTree_178 rfl (zk_174 L) zx_174_23 ?_
      refine wp_iload_n (pc := 181) d_M_layTree_181 rfl ?_
      refine wp_iload_n (pc := 182) d_M_layTree_182 rfl ?_
      refine wp_iast (pc := 183) d_M_layTree_183 (zk_188 L) (by decide) (by omega) (by omega) ?_
      refine wp_aload_n (pc := 184) d_M_layTree_184 rfl ?_
      refine wp_getR (pc := 185) d_M_layTree_185 rfl (zk_174 L) zx_174_24 ?_
      refine wp_iload_n (pc := 188) d_M_layTree_188 rfl ?_
      refine wp_iload_n (pc := 189) d_M_layTree_189 rfl ?_
      refine wp_iast (pc := 190) d_M_layTree_190 (zk_189 L) (by decide) (by omega) (by omega) ?_
      refine wp_iinc1 (pc := 191) d_M_layTree_191 rfl (by omega) (by omega) ?_
      refine wp_goto (tgt := 39) (pc := 194) d_M_layTree_194 rfl ?_
      refine ih (k + 1) (t + 1) _ _ _ _ _ _ _ (by omega) (Or.inr (by omega)) (by omega) ((g3.u (by omega)).u (by omega)) (fun s s0 s1 => ?_)
      have hR : qTr (uDs D) (uN D).toNat 1048576 (k + 1) = if (qSu (qTr (uDs D) (uN D).toNat 1048576 k).2.2 (uDs D) (uN D).toNat (uN D).toNat (1048576, -1, -1)).2.2 < 0 then qTr (uDs D) (uN D).toNat 1048576 k else
          (qPut (qTr (uDs D) (uN D).toNat 1048576 k).1 (qSu (qTr (uDs D) (uN D).toNat 1048576 k).2.2 (uDs D) (uN D).toNat (uN D).toNat (1048576, -1, -1)).2.2 (qSu (qTr (uDs D) (uN D).toNat 1048576 k).2.2 (uDs D) (uN D).toNat (uN D).toNat (1048576, -1, -1)).2.1,
           qPut (qTr (uDs D) (uN D).toNat 1048576 k).2.1 (qSu (qTr (uDs D) (uN D).toNat 1048576 k).2.2 (uDs D) (uN D).toNat (uN D).toNat (1048576, -1, -1)).2.2 (qSu (qTr (uDs D) (uN D).toNat 1048576 k).2.2 (uDs D) (uN D).toNat (uN D).toNat (1048576, -1, -1)).1,
           qPut (qTr (uDs D) (uN D).toNat 1048576 k).2.2 (qSu (qTr (uDs D) (uN D).toNat 1048576 k).2.2 (uDs D) (uN D).toNat (uN D).toNat (1048576, -1, -1)).2.2 ((k : Int) + 1)) := rfl
      rw [hR, ← hw, if_neg (by omega)]
      simp only [qPut]
      have h4 := g4 s s0 s1
      by_cases es : s = w.2.2
      · rw [if_pos es, if_pos es, es]
        exact ⟨by rw [zU_na (by decide), zU_eq], by rw [zU_eq, g1]⟩
      · rw [if_neg es, if_neg es, ← h4.1, ← h4.2]
        exact ⟨by rw [zU_na (by decide), zU_nk (by omega)], by rw [zU_nk (by omega), zU_na (by decide)]⟩
theorem lp_M_lt0 {M0 : zM} (h : mH M0 D) (hd : mDi D) (hg : mGs M0 D D.2.2.2.toNat) : ∀ (n9 : Nat) (k : Nat) (M : zM), uN D - k < n9 → ((k : Int) ≤ uN D) → (mF (fun a k => a = 188 ∨ a = 189) M0 M) → (∀ s : Int, 0 ≤ s → s < k → M 188 s.toNat = -1 ∧ M 189 s.toNat = -1) → wp L 3 zm_M_layTree 2 [rV 174, iV k, uV, uV, uV, uV, uV, uV] [] M (fun r M' => r = none ∧ (mF (fun a k => a = 188 ∨ a = 189) M0 M' ∧ ∀ s : Int, 0 ≤ s → s < uN D → M' 188 s.toNat = (uT D).1 s ∧ M' 189 s.toNat = (uT D).2.2 s)) := by
  intro n9
  induction n9 with
  | zero =>
    intro k  M  h9 g0 g3 g4
    have hn := uN_m hd
    exact absurd h9 (by omega)
  | succ n9 ih =>
    intro k  M  h9 g0 g3 g4
    have hn := uN_m hd
    have hp := hd.pl
    have hM : mH M D := h.keep g3 (by omega) (by omega) (by omega)
    have hgM : mGs M D D.2.2.2.toNat := hg.keep hp.2 g3 (by omega) (by omega) (by omega) (by omega)
    have e20 : M 174 20 = uN D := hgM.1
    refine wp_iload_n (pc := 2) d_M_layTree_2 rfl ?_
    refine wp_aload_n (pc := 3) d_M_layTree_3 rfl ?_
    refine wp_getI (pc := 4) d_M_layTree_4 rfl (by decide) (zk_174 L) ?_
    refine wp_icmp_ge (tgt := 30) (pc := 7) d_M_layTree_7 rfl (fun c7 => ?_) (fun c7 => ?_)
    · refine wp_aload_n (pc := 30) d_M_layTree_30 rfl ?_
      refine wp_getR (pc := 31) d_M_layTree_31 rfl (zk_174 L) zx_174_24 ?_
      refine wp_iconst (pc := 34) d_M_layTree_34 rfl ?_
      refine wp_iconst (pc := 35) d_M_layTree_35 rfl ?_
      refine wp_iastc 0 (pc := 36) d_M_layTree_36 (zk_189 L) (by decide) rfl rfl ?_
      refine wp_iconst (pc := 37) d_M_layTree_37 rfl ?_
      refine wp_ist1 (pc := 38) d_M_layTree_38 rfl ?_
      refine lp_M_lt3 h hd hg 100 0 1 _ _ _ _ _ _ _ (by omega) (Or.inl (by omega)) rfl (g3.u (by omega)) (fun s s0 s1 => ?_)
      have h4 := g4 s s0 (by omega)
      refine ⟨by rw [zU_na (by decide)]; exact h4.1, ?_⟩
      show _ = if s = 0 then (0 : Int) else -1
      by_cases es : s = 0
      · rw [es, if_pos rfl]; exact zU_eq
      · rw [if_neg es, zU_nk (by omega)]; exact h4.2
    · refine wp_aload_n (pc := 10) d_M_layTree_10 rfl ?_
      refine wp_getR (pc := 11) d_M_layTree_11 rfl (zk_174 L) zx_174_24 ?_
      refine wp_iload_n (pc := 14) d_M_layTree_14 rfl ?_
      refine wp_iconst (pc := 15) d_M_layTree_15 rfl ?_
      refine wp_iast (pc := 16) d_M_layTree_16 (zk_189 L) (by decide) (by omega) (by omega) ?_
      refine wp_aload_n (pc := 17) d_M_layTree_17 rfl ?_
      refine wp_getR (pc := 18) d_M_layTree_18 rfl (zk_174 L) zx_174_23 ?_
      refine wp_iload_n (pc := 21) d_M_layTree_21 rfl ?_
      refine wp_iconst (pc := 22) d_M_layTree_22 rfl ?_
      refine wp_iast (pc := 23) d_M_layTree_23 (zk_188 L) (by decide) (by omega) (by omega) ?_
      refine wp_iinc1 (pc := 24) d_M_layTree_24 rfl (by omega) (by omega) ?_
      refine wp_goto (tgt := 2) (pc := 27) d_M_layTree_27 rfl ?_
      refine ih (k + 1) _ (by omega) (by omega) ((g3.u (by omega)).u (by omega)) (fun s s0 s1 => ?_)
      by_cases es : s = k
      · rw [es]
        exact ⟨by rw [zU_eq], by rw [zU_na (by decide), zU_eq]⟩
      · have h4 := g4 s s0 (by omega)
        rw [← h4.1]
        refine ⟨by rw [zU_nk (by omega), zU_na (by decide)], ?_⟩
        rw [zU_na (by decide), zU_nk (by omega)]; exact h4.2.trans h4.1.symm
theorem c_M_layTree (h : mH M D) (hd : mDi D) (hg : mGs M D D.2.2.2.toNat) : wpc L 3 zm_M_layTree [rV 174] M (fun r M' => r = none ∧ (mF (fun a k => a = 188 ∨ a = 189) M M' ∧ ∀ s : Int, 0 ≤ s → s < uN D → M' 188 s.toNat = (uT D).1 s ∧ M' 189 s.toNat = (uT D).2.2 s)) := by
  show wp L _ zm_M_layTree 0 [rV 174, uV, uV, uV, uV, uV, uV, uV] [] M _
  have hn := uN_m hd
  refine wp_iconst (pc := 0) d_M_layTree_0 rfl ?_
  refine wp_ist1 (pc := 1) d_M_layTree_1 rfl ?_
  exact lp_M_lt0 (M0 := M) h hd hg 100 0 M (by omega) (by omega) mF.rf (fun s s0 s1 => absurd s1 (by omega))
end ZM5
