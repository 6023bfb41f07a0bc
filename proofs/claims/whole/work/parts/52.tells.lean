/-! Stemma.build from its first row; what a built stemma tells -/
section ZTl
variable {L : Nat} {M : zM} {D : qDt} {x y c s w p : Int}
theorem c_Sm_build (h : qCi M) (hc : M 132 11 = M 7 5 → qBu M (qDC M)) : Cv L 5 zm_Stemma_build [rV 132, rV 7] M (fun M' => zSm (fun a => a = 11 ∨ (24 ≤ a ∧ a < 147)) M M' ∧ qCi M' ∧ qDC M' = qDC M ∧ M' 132 11 = M 7 5 ∧ qBu M' (qDC M)) := by
  show wp L _ zm_Stemma_build 0 [rV 132, rV 7, uV, uV] [] M _
  have hpl := qDC_pl h
  have n6 := h.2.1
  refine wp_aload_n (pc := 0) d_Stemma_build_0 rfl ?_
  refine wp_getI (pc := 1) d_Stemma_build_1 rfl (by decide) (zk_132 L) ?_
  refine wp_aload_n (pc := 4) d_Stemma_build_4 rfl ?_
  refine wp_callV0f (pc := 5) d_Stemma_build_5 rfl rfl (zk_7 L) rfl rfl c_Co_changes ?_
  refine wp_icmp_ne (tgt := 12) (pc := 8) d_Stemma_build_8 rfl (fun c8 => ?_) (fun c8 => ?_)
  · refine wp_aload_n (pc := 12) d_Stemma_build_12 rfl ?_
    refine wp_aload_n (pc := 13) d_Stemma_build_13 rfl ?_
    refine wp_callV0f (pc := 14) d_Stemma_build_14 rfl rfl (zk_7 L) rfl rfl c_Co_changes ?_
    refine wp_putI (pc := 17) d_Stemma_build_17 rfl (zk_132 L) (by decide) ?_
    refine wp_aload_n (pc := 20) d_Stemma_build_20 rfl ?_
    refine wp_aload_n (pc := 21) d_Stemma_build_21 rfl ?_
    refine wp_callV0f (pc := 22) d_Stemma_build_22 rfl rfl (zk_7 L) rfl rfl c_Co_size ?_
    refine wp_if_le (tgt := 39) (pc := 25) d_Stemma_build_25 rfl (fun c25 => ?_) (fun c25 => ?_)
    · refine wp_iconst (pc := 39) d_Stemma_build_39 rfl ?_
      refine wp_putI (pc := 40) d_Stemma_build_40 rfl (zk_132 L) (by decide) ?_
      refine wp_aload_n (pc := 43) d_Stemma_build_43 rfl ?_
      refine wp_iconst (pc := 44) d_Stemma_build_44 rfl ?_
      refine wp_putI (pc := 45) d_Stemma_build_45 rfl (zk_132 L) (by decide) ?_
      refine wp_aload_n (pc := 48) d_Stemma_build_48 rfl ?_
      refine wp_iconst (pc := 49) d_Stemma_build_49 rfl ?_
      refine wp_putI (pc := 50) d_Stemma_build_50 rfl (zk_132 L) (by decide) ?_
      refine wp_iconst (pc := 53) d_Stemma_build_53 rfl ?_
      refine wp_ist2 (pc := 54) d_Stemma_build_54 rfl ?_
      have s1 : ∀ P : Int, zSm (fun a => a = 132) M (zU (zU (zU (zU M 132 11 (M 7 5)) 132 9 P) 132 8 0) 132 10 0) := fun P => (((zSm.rf.u (by omega)).u (by omega)).u (by omega)).u (by omega)
      have gg : ∀ P : Int, P = uPl (qDC M) → wp L 5 zm_Stemma_build 55 [rV 132, rV 7, iV 0, uV] [] (zU (zU (zU (zU M 132 11 (M 7 5)) 132 9 P) 132 8 0) 132 10 0) (fun r M' => r = none ∧ (zSm (fun a => a = 11 ∨ (24 ≤ a ∧ a < 147)) M M' ∧ qCi M' ∧ qDC M' = qDC M ∧ M' 132 11 = M 7 5 ∧ qBu M' (qDC M))) := fun P hP => by
        have hi : qCi (zU (zU (zU (zU M 132 11 (M 7 5)) 132 9 P) 132 8 0) 132 10 0) := h.keep (s1 P) (fun a a1 a2 => by omega)
        refine wp_mono (lp_Sm_build (M0 := M) (D := qDC M) (v := M 7 5) 100 0 0 _ uV (by omega) ⟨by decide, n6.1, n6.2⟩ rfl ((s1 P).up (fun a ha => by omega)) hi (qDC_keep n6.2 (s1 P) (by decide) (fun a b1 b2 => by omega)) ?_ ?_) (fun r M' hr => hr)
        · rw [zU_nk (by decide), zU_nk (by decide), zU_nk (by decide), zU_eq]
        · refine ⟨?_, ?_, zU_eq, fun s s0 s1 => absurd s1 (by show ¬ s < 0; omega), fun c c0 c1 => absurd c1 (by omega), fun c c0 c1 => absurd c1 (by omega)⟩
          · rw [zU_nk (by decide), zU_nk (by decide), zU_eq]; exact hP
          · rw [zU_nk (by decide), zU_eq]; rfl
      first
      | (refine gg _ ?_
         rw [zU_na (by decide)] at c25 ⊢
         exact (hpl.2.2 (by omega)).symm)
      | (refine gg _ ?_
         rw [zU_na (by decide)] at c25
         unfold uPl
         rw [show (qDC M).2.2.2 = M 7 3 from rfl, if_neg (by omega)])
    · refine wp_aload_n (pc := 28) d_Stemma_build_28 rfl ?_
      refine wp_iconst (pc := 29) d_Stemma_build_29 rfl ?_
      refine wp_callV1f (pc := 30) d_Stemma_build_30 rfl rfl (zk_7 L) rfl rfl (c_Co_text (by rw [zU_na (by decide)]; omega)) ?_
      rw [if_pos (by rw [zU_na (by decide)] at c25 ⊢; omega)]
      refine wp_callV0f (pc := 33) d_Stemma_build_33 rfl rfl (zTx_i L (show 0 < 6 by decide)).1 rfl rfl (c_Text_size (zTx_i L (show 0 < 6 by decide))) ?_
      refine wp_goto (tgt := 40) (pc := 36) d_Stemma_build_36 rfl ?_
      refine wp_putI (pc := 40) d_Stemma_build_40 rfl (zk_132 L) (by decide) ?_
      refine wp_aload_n (pc := 43) d_Stemma_build_43 rfl ?_
      refine wp_iconst (pc := 44) d_Stemma_build_44 rfl ?_
      refine wp_putI (pc := 45) d_Stemma_build_45 rfl (zk_132 L) (by decide) ?_
      refine wp_aload_n (pc := 48) d_Stemma_build_48 rfl ?_
      refine wp_iconst (pc := 49) d_Stemma_build_49 rfl ?_
      refine wp_putI (pc := 50) d_Stemma_build_50 rfl (zk_132 L) (by decide) ?_
      refine wp_iconst (pc := 53) d_Stemma_build_53 rfl ?_
      refine wp_ist2 (pc := 54) d_Stemma_build_54 rfl ?_
      have s1 : ∀ P : Int, zSm (fun a => a = 132) M (zU (zU (zU (zU M 132 11 (M 7 5)) 132 9 P) 132 8 0) 132 10 0) := fun P => (((zSm.rf.u (by omega)).u (by omega)).u (by omega)).u (by omega)
      have gg : ∀ P : Int, P = uPl (qDC M) → wp L 5 zm_Stemma_build 55 [rV 132, rV 7, iV 0, uV] [] (zU (zU (zU (zU M 132 11 (M 7 5)) 132 9 P) 132 8 0) 132 10 0) (fun r M' => r = none ∧ (zSm (fun a => a = 11 ∨ (24 ≤ a ∧ a < 147)) M M' ∧ qCi M' ∧ qDC M' = qDC M ∧ M' 132 11 = M 7 5 ∧ qBu M' (qDC M))) := fun P hP => by
        have hi : qCi (zU (zU (zU (zU M 132 11 (M 7 5)) 132 9 P) 132 8 0) 132 10 0) := h.keep (s1 P) (fun a a1 a2 => by omega)
        refine wp_mono (lp_Sm_build (M0 := M) (D := qDC M) (v := M 7 5) 100 0 0 _ uV (by omega) ⟨by decide, n6.1, n6.2⟩ rfl ((s1 P).up (fun a ha => by omega)) hi (qDC_keep n6.2 (s1 P) (by decide) (fun a b1 b2 => by omega)) ?_ ?_) (fun r M' hr => hr)
        · rw [zU_nk (by decide), zU_nk (by decide), zU_nk (by decide), zU_eq]
        · refine ⟨?_, ?_, zU_eq, fun s s0 s1 => absurd s1 (by show ¬ s < 0; omega), fun c c0 c1 => absurd c1 (by omega), fun c c0 c1 => absurd c1 (by omega)⟩
          · rw [zU_nk (by decide), zU_nk (by decide), zU_eq]; exact hP
          · rw [zU_nk (by decide), zU_eq]; rfl
      first
      | (refine gg _ ?_
         rw [zU_na (by decide)] at c25 ⊢
         exact (hpl.2.2 (by omega)).symm)
      | (refine gg _ ?_
         rw [zU_na (by decide)] at c25
         unfold uPl
         rw [show (qDC M).2.2.2 = M 7 3 from rfl, if_neg (by omega)])
  · refine wp_return_ (pc := 11) d_Stemma_build_11 rfl ?_
    exact ⟨rfl, zSm.rf, h, rfl, Decidable.of_not_not c8, hc (Decidable.of_not_not c8)⟩
/-- what holds of the copies' part, between calls -/
def qIC (M : zM) : Prop := qCi M ∧ (M 132 11 = M 7 5 → qBu M (qDC M)) ∧ (-1 ≤ M 132 11 ∧ M 132 11 ≤ M 7 5) ∧ 0 ≤ M 7 5
theorem qIC.d (h : qIC M) : 0 ≤ (qDC M).2.2.1 ∧ (qDC M).2.2.2 ≤ 6 ∧ 0 ≤ (qDC M).2.2.2 := ⟨h.1.2.2.1.1, h.1.2.1.2, h.1.2.1.1⟩
theorem c_Sm_buildI (h : qIC M) : Cv L 5 zm_Stemma_build [rV 132, rV 7] M (fun M' => zSm (fun a => a = 11 ∨ (24 ≤ a ∧ a < 147)) M M' ∧ qIC M' ∧ qDC M' = qDC M ∧ qBu M' (qDC M)) := by
  refine wpc_mono (c_Sm_build h.1 h.2.1) (fun r M' hr => ?_)
  obtain ⟨hr0, a1, a2, a3, a4, a5⟩ := hr
  have e5 : M' 7 5 = M 7 5 := a1 7 (by omega) 5
  refine ⟨hr0, a1, ⟨a2, fun _ => by rw [a3]; exact a5, ?_, ?_⟩, a3, a5⟩
  · rw [a4, e5]; have := h.2.2.2; omega
  · rw [e5]; exact h.2.2.2
theorem c_Co_bestJ (h : qIC M) (x0 : 0 ≤ x) (x1 : x < M 7 3) (y0 : 0 ≤ y) (y1 : y < M 7 3) : Cr L 3 zm_Coll_best [rV 7, iV x, iV y] M (24 + 3 * (x * 6 + y).toNat) (fun M' => zSm (fun a => a = 11 ∨ (24 ≤ a ∧ a < 132)) M M' ∧ qIC M' ∧ qDC M' = qDC M ∧ qKm M' x y) := by
  refine wpc_mono (c_Co_bestI h.1 x0 x1 y0 y1) (fun r M' hr => ?_)
  obtain ⟨hr0, a1, a2, a3, a4⟩ := hr
  have e7 : ∀ k, M' 7 k = M 7 k := a1 7 (by omega)
  have e11 : M' 132 11 = M 132 11 := a1 132 (by omega) 11
  refine ⟨hr0, a1, ⟨a2, fun z => ?_, by rw [e11, e7]; exact h.2.2.1, by rw [e7]; exact h.2.2.2⟩, a3, a4⟩
  rw [e11, e7] at z
  rw [a3]
  exact (h.2.1 z).keep h.1.2.1.2 a1 (fun a b1 b2 => by omega)
section ZTl2
theorem uN_b (hb : 0 ≤ D.2.2.1) (h6 : D.2.2.2 ≤ 6) : 0 ≤ uN D ∧ uN D ≤ 6 := by
  have := (uG_b D hb D.2.2.2.toNat).1
  unfold uN
  omega
theorem uMk_lt (hp : uPl D ≤ 24) (s : Int) : uMk D s < 2 ^ 24 := Nat.lt_of_lt_of_le (qBm_lt _ _) (Nat.pow_le_pow_right (by decide) (by omega))
theorem qBu_wf (h : qBu M D) (hb : 0 ≤ D.2.2.1) (h6 : D.2.2.2 ≤ 6) (hp0 : 0 ≤ uPl D) (hp : uPl D ≤ 24) : qWf M := by
  have hn := uN_b hb h6
  refine ⟨by rw [h.1.2.1]; exact hn, by rw [h.1.1]; exact ⟨hp0, hp⟩, fun s s0 s1 => ?_⟩
  rw [h.1.2.1] at s1
  obtain ⟨b1, b2, b3, b4⟩ := h.2 s s0 s1
  obtain ⟨t1, t2, t3⟩ := uT_all D hp0 hp s s0 s1
  rw [b1, b2, b4]
  refine ⟨?_, fun z => ?_, ?_⟩
  · by_cases e : s = 0
    · rw [(t2 e).2.2]; decide
    · rw [(t3 e).2.2]; exact uDs_b D hp0 hp _ _
  · have := (t3 (by omega)).1
    omega
  · have := uMk_lt hp s
    omega
theorem qBu_de (h : qBu M D) (hb : 0 ≤ D.2.2.1) (h6 : D.2.2.2 ≤ 6) (hp0 : 0 ≤ uPl D) (hp : uPl D ≤ 24) (s0 : 0 ≤ s) (s1 : s < uN D) : qDe M s w = uDe D s w := by
  obtain ⟨b1, b2, b3, b4⟩ := h.2 s s0 s1
  obtain ⟨f1, f2⟩ := h.1.2.2.2.1 s s0 s1
  have e2 := qGm_pm h.1 (fun s s0 s1 => (h.2 s s0 s1).1)
  have e3 : ∀ n x, qAc M n x = uAc D n x := by
    intro n
    induction n with
    | zero => intro x; rfl
    | succ n ih => intro x; simp only [qAc, uAc]; rw [e2, ih]
  unfold qDe uDe
  rw [b1, b2, b3, b4, f1, f2, e2, e3, h.1.2.1]
  rfl
theorem qBu_da (h : qBu M D) (hb : 0 ≤ D.2.2.1) (h6 : D.2.2.2 ≤ 6) (hp0 : 0 ≤ uPl D) (hp : uPl D ≤ 24) : qDa M w = uDa D w := by
  have hn := uN_b hb h6
  have e1 : qVp M = uVp D := by
    unfold qVp uVp
    rw [h.1.1, h.1.2.1]
    exact qN_congr (fun p p0 p1 => qEx_congr (fun s s0 s1 => by rw [qGm_rs hb h6 h.1 p0 (by omega), qGm_rs hb h6 h.1 p0 (by omega)]))
  have e2 : qPr M (uN D).toNat = uPr D := by
    unfold qPr uPr
    refine qBm_congr (fun k hk => qEx_congr (fun s s0 s1 => ?_))
    rw [(h.2 s s0 (by omega)).1]
  have e3 : qS (fun s => M 144 s.toNat) (uN D).toNat = qS (fun s => (uT D).2.1 s) (uN D).toNat := qS_congr (fun s s0 s1 => (h.2 s s0 (by omega)).2.1)
  have e4 : qS (fun s => qPc (M 146 s.toNat).toNat 24) (uN D).toNat = qS (fun s => qPc (uMk D s) 24) (uN D).toNat := qS_congr (fun s s0 s1 => by rw [(h.2 s s0 (by omega)).2.2.2]; rfl)
  unfold qDa uDa
  rw [h.1.2.1, h.1.2.2.1, show (uG D D.2.2.2.toNat).1 = uN D from rfl, e1, e2, e3, e4]
  rfl
theorem qBu_bit (h : qBu M D) (hb : 0 ≤ D.2.2.1) (h6 : D.2.2.2 ≤ 6) (hp0 : 0 ≤ uPl D) (hp : uPl D ≤ 24) (s0 : 0 ≤ s) (s1 : s < uN D) (p0 : 0 ≤ p) (p1 : p < uPl D) : ¬ zI2 (· &&& ·) (zI2 zShr (M 146 s.toNat) p) 1 = 0 ↔ ¬ uGb D s p = 0 := by
  have hm := uMk_lt hp s
  rw [(h.2 s s0 s1).2.2.2, show p = ((p.toNat : Nat) : Int) by omega, zn_bit (by omega) (by omega)]
  unfold uMk
  rw [qBm_bit, show decide (p.toNat < (uPl D).toNat) = true from decide_eq_true (by omega), Bool.true_and]
  by_cases e : uGb D s ((p.toNat : Nat) : Int) = 0
  · rw [if_neg (by rw [decide_eq_false (fun z => z e)]; decide)]
    exact ⟨fun z => absurd rfl z, fun z => absurd e z⟩
  · rw [if_pos (decide_eq_true e)]
    exact ⟨fun _ => e, fun _ => by decide⟩
theorem qBu_rd (h : qBu M D) (hb : 0 ≤ D.2.2.1) (h6 : D.2.2.2 ≤ 6) (hp0 : 0 ≤ uPl D) (hp : uPl D ≤ 24) (c0 : 0 ≤ c) (c1 : c < D.2.2.2) (hi : uIn D 0 c) (p0 : 0 ≤ p) (p1 : p < uPl D) : qR M c p = uRd D c p := by
  unfold qR
  rw [h.1.1, if_pos ⟨⟨c0, by omega⟩, p0, p1⟩]
  exact h.1.2.2.2.2.2 c c0 (by omega) hi p p0 p1
theorem qBu_df (h : qBu M D) (hb : 0 ≤ D.2.2.1) (h6 : D.2.2.2 ≤ 6) (hp0 : 0 ≤ uPl D) (hp : uPl D ≤ 24) (c0 : 0 ≤ c) (c1 : c < D.2.2.2) (hi : uIn D 0 c) (x0 : 0 ≤ x) (x1 : x < D.2.2.2) (hx : uIn D 0 x) : qDf M c x = uDf D c x := by
  unfold qDf uDf
  rw [h.1.1]
  exact qN_congr (fun p p0 p1 => by rw [qBu_rd h hb h6 hp0 hp c0 c1 hi p0 (by omega), qBu_rd h hb h6 hp0 hp x0 x1 hx p0 (by omega)])
theorem qBu_so (h : qBu M D) (hb : 0 ≤ D.2.2.1) (h6 : D.2.2.2 ≤ 6) (hp0 : 0 ≤ uPl D) (hp : uPl D ≤ 24) (c0 : 0 ≤ c) (c1 : c < D.2.2.2) : M 140 c.toNat = uSo D c ∧ (M 140 c.toNat = -1 ↔ ¬ uIn D 0 c) := by
  have hs := h.1.2.2.2.2.1 c c0 (by omega)
  have hg := (uG_b D hb D.2.2.2.toNat).2.2.2.2 c c0 (by omega)
  refine ⟨hs, ?_⟩
  rw [hs]
  exact ⟨fun z zi => by have := (hg.1 zi).1; omega, fun z => hg.2 z⟩
end ZTl2
end ZTl
