/-! Stemma.build -/
section ZBu2
variable {L t r : Nat} {M : zM} {x y : Int}
theorem c_Sm_read {f : Int → Int} {b : Int} {K : Nat} (hr : zAn L r) (ht : zTx L t) (x0 : 0 ≤ x) (x1 : x < 6) (hrt : t ≠ 134 + x.toNat ∧ t + 1 ≠ 134 + x.toNat ∧ r ≠ 134 + x.toNat ∧ r + 1 ≠ 134 + x.toNat ∧ r + 2 ≠ 134 + x.toNat) (n10 : 0 ≤ M 132 9) (n11 : M 132 9 ≤ 24) (n20 : 0 ≤ M t 1) (n21 : M t 1 ≤ 24) (hb0 : 0 ≤ b) (he : M 132 9 - M t 1 ≤ b ∧ M t 1 - M 132 9 ≤ b) (hfo : M r 3 = 1) (hK : qEn f (qTx M t) (M 132 9) (M t 1) b K) (hK48 : K ≤ 48) (hl : M (r + 2) 1 = K) (hs : ∀ q, q < K → M (r + 1) q = qSt f (qTx M t) (M 132 9) (M t 1) b q) : wpc L 3 zm_Stemma_read [rV 132, iV x, rV t, rV r] M (fun r9 M' => r9 = none ∧ (zSm (fun a => a = 134 + x.toNat) M M' ∧ ∀ p : Int, 0 ≤ p → p < M 132 9 → M' (134 + x.toNat) p.toNat = qRf f (qTx M t) (M 132 9) (M t 1) b K p)) := by
  show wp L _ zm_Stemma_read 0 [rV 132, iV x, rV t, rV r, uV, uV, uV, uV] [] M _
  refine wp_iconst (pc := 0) d_Stemma_read_0 rfl ?_
  refine wp_ist4 (pc := 1) d_Stemma_read_1 rfl ?_
  refine wp_iconst (pc := 3) d_Stemma_read_3 rfl ?_
  refine wp_ist5 (pc := 4) d_Stemma_read_4 rfl ?_
  refine wp_iconst (pc := 6) d_Stemma_read_6 rfl ?_
  refine wp_ist6 (pc := 7) d_Stemma_read_7 rfl ?_
  exact lp_Sm_read (M0 := M) hr ht x0 x1 hrt n10 n11 n20 n21 hb0 he hfo hK hK48 hl hs 100 0 0 0 0 M _ (by omega) (by omega) rfl rfl rfl zSm.rf (fun p a1 a2 => absurd a2 (by omega))
/-- a stemma that is built -/
def qBu (M : zM) (D : qDt) : Prop := qGm M D D.2.2.2.toNat ∧ ∀ s : Int, 0 ≤ s → s < uN D → M 143 s.toNat = (uT D).1 s ∧ M 144 s.toNat = (uT D).2.1 s ∧ M 145 s.toNat = (uT D).2.2 s ∧ M 146 s.toNat = ((uMk D s : Nat) : Int)
theorem qBu.keep {S : Nat → Prop} {M M' : zM} {D : qDt} (h : qBu M D) (hk : D.2.2.2 ≤ 6) (hs : zSm S M M') (h1 : ∀ a, 132 ≤ a → a < 147 → ¬ S a) : qBu M' D := by
  refine ⟨h.1.keep (by omega) hs (fun a a1 a2 => h1 a a1 (by omega)), fun s s0 s1 => ?_⟩
  rw [hs 143 (h1 143 (by decide) (by decide)), hs 144 (h1 144 (by decide) (by decide)), hs 145 (h1 145 (by decide) (by decide)), hs 146 (h1 146 (by decide) (by decide))]
  exact h.2 s s0 s1
theorem qGm_ds {M : zM} {D : qDt} (hb : 0 ≤ D.2.2.1) (h6 : D.2.2.2 ≤ 6) (h : qGm M D D.2.2.2.toNat) : qDs M = uDs D := by
  obtain ⟨b1, b2, b3, b4, b5, b6⟩ := h
  obtain ⟨d1, d2, d3, d4, d5⟩ := uG_b D hb D.2.2.2.toNat
  funext u v
  unfold qDs uDs
  rw [b2]
  show (if (0 ≤ u ∧ u < uN D) ∧ 0 ≤ v ∧ v < uN D then _ else 0) = _
  by_cases e : (0 ≤ u ∧ u < uN D) ∧ 0 ≤ v ∧ v < uN D
  · rw [if_pos e, if_pos e, (b4 u e.1.1 e.1.2).1, (b4 v e.2.1 e.2.2).1]
    have q1 := d4 u e.1.1 e.1.2
    have q2 := d4 v e.2.1 e.2.2
    exact qGm_df (P := fun c => c < D.2.2.2.toNat ∧ uIn D 0 c) b1 (fun c c0 _ hc p p0 p1 => b6 c c0 hc.1 hc.2 p p0 p1) ⟨q1.1.1, by omega⟩ ⟨q2.1.1, by omega⟩ ⟨q1.1.2, q1.2.1⟩ ⟨q2.1.2, q2.2.1⟩
  · rw [if_neg e, if_neg e]
theorem qGm_rs {M : zM} {D : qDt} (hb : 0 ≤ D.2.2.1) (h6 : D.2.2.2 ≤ 6) (h : qGm M D D.2.2.2.toNat) {x p : Int} (p0 : 0 ≤ p) (p1 : p < uPl D) : qRS M x p = uRS D x p := by
  obtain ⟨b1, b2, b3, b4, b5, b6⟩ := h
  obtain ⟨d1, d2, d3, d4, d5⟩ := uG_b D hb D.2.2.2.toNat
  unfold qRS uRS
  rw [b2]
  show (if 0 ≤ x ∧ x < uN D then _ else _) = _
  by_cases e : 0 ≤ x ∧ x < uN D
  · rw [if_pos e, if_pos e, (b4 x e.1 e.2).1]
    have q1 := d4 x e.1 e.2
    unfold qR
    rw [b1, if_pos ⟨⟨q1.1.1, by omega⟩, p0, p1⟩]
    exact b6 _ q1.1.1 q1.1.2 q1.2.1 p p0 p1
  · rw [if_neg e, if_neg e]
theorem qGm_pm {M : zM} {D : qDt} (h : qGm M D D.2.2.2.toNat) (h3 : ∀ s : Int, 0 ≤ s → s < uN D → M 143 s.toNat = (uT D).1 s) (x : Int) : qPm M x = uPm D x := by
  unfold qPm uPm
  rw [h.2.1]
  show (if 0 ≤ x ∧ x < uN D then _ else _) = _
  by_cases e : 0 ≤ x ∧ x < uN D
  · rw [if_pos e, if_pos e]; exact h3 x e.1 e.2
  · rw [if_neg e, if_neg e]
theorem qGm_gb {M : zM} {D : qDt} (hb : 0 ≤ D.2.2.1) (h6 : D.2.2.2 ≤ 6) (h : qGm M D D.2.2.2.toNat) (h3 : ∀ s : Int, 0 ≤ s → s < uN D → M 143 s.toNat = (uT D).1 s) {x p : Int} (p0 : 0 ≤ p) (p1 : p < uPl D) : qGb M x p = uGb D x p := by
  have e1 : ∀ x, qRS M x p = uRS D x p := fun x => qGm_rs hb h6 h p0 p1
  have e2 := qGm_pm h h3
  have e3 : ∀ n rd a, qGl M p rd n a = uGl D p rd n a := by
    intro n rd
    induction n with
    | zero => intro a; rfl
    | succ n ih => intro a; simp only [qGl, uGl]; rw [e1, e2, ih]
  unfold qGb uGb
  rw [e1, e1, e2, e3, e2, h.2.1]
  rfl
theorem qGm_mk {M : zM} {D : qDt} (hb : 0 ≤ D.2.2.1) (h6 : D.2.2.2 ≤ 6) (hpl : uPl D ≤ 24) (h : qGm M D D.2.2.2.toNat) (h3 : ∀ s : Int, 0 ≤ s → s < uN D → M 143 s.toNat = (uT D).1 s) (s : Int) : qMk (fun p => qGb M s p) (M 132 9).toNat = ((uMk D s : Nat) : Int) := by
  rw [h.1, qMk_bm _ _ (by omega)]
  unfold uMk
  congr 1
  exact qBm_congr (fun k hk => by rw [qGm_gb hb h6 h h3 (by omega) (by omega)])
theorem qDC_pl {M : zM} (h : qCi M) : 0 ≤ uPl (qDC M) ∧ uPl (qDC M) ≤ 24 ∧ (0 < M 7 3 → uPl (qDC M) = M 12 1) := by
  unfold uPl
  by_cases e : 0 < M 7 3
  · have h0 := h.2.2.2.1 0 e
    unfold qTk at h0
    rw [show (qDC M).2.2.2 = M 7 3 from rfl, if_pos e, qDC_2 (by decide) e]
    exact ⟨h0.1, h0.2.1, fun _ => rfl⟩
  · rw [show (qDC M).2.2.2 = M 7 3 from rfl, if_neg e]
    exact ⟨by decide, by decide, fun z => absurd z e⟩
theorem lp_Sm_build {M0 : zM} {D : qDt} {v : Int} : ∀ (n9 : Nat) (k : Nat) (c : Int) (M : zM) (u : zV), 6 - c < n9 → (0 ≤ c ∧ c ≤ D.2.2.2 ∧ D.2.2.2 ≤ 6) → (c = k) → (zSm (fun a => a = 11 ∨ (24 ≤ a ∧ a < 147)) M0 M) → (qCi M) → (qDC M = D) → (M 132 11 = v) → (qGm M D k) → wp L 5 zm_Stemma_build 55 [rV 132, rV 7, iV c, u] [] M (fun r M' => r = none ∧ (zSm (fun a => a = 11 ∨ (24 ≤ a ∧ a < 147)) M0 M' ∧ qCi M' ∧ qDC M' = D ∧ M' 132 11 = v ∧ qBu M' D)) := by
  intro n9
  induction n9 with
  | zero =>
    intro k  c  M  u  h9 g0 g1 g3 g4 g5 g6 g7
    exact absurd h9 (by omega)
  | succ n9 ih =>
    intro k  c  M  u  h9 g0 g1 g3 g4 g5 g6 g7
    have hci := g4
    obtain ⟨a1, a2, a3, a4, a5, a6⟩ := hci
    have eN : D.2.2.2 = M 7 3 := by rw [← g5]; rfl
    have eb : D.2.2.1 = M 7 4 := by rw [← g5]; rfl
    have hpl := qDC_pl g4
    rw [g5] at hpl
    have hgb := uG_b D (by omega) k
    refine wp_iload_n (pc := 55) d_Stemma_build_55 rfl ?_
    refine wp_aload_n (pc := 56) d_Stemma_build_56 rfl ?_
    refine wp_callV0f (pc := 57) d_Stemma_build_57 rfl rfl (zk_7 L) rfl rfl c_Co_size ?_
    refine wp_icmp_ge (tgt := 119) (pc := 60) d_Stemma_build_60 rfl (fun c60 => ?_) (fun c60 => ?_)
    · refine wp_aload_n (pc := 119) d_Stemma_build_119 rfl ?_
      have hk : k = D.2.2.2.toNat := by omega
      subst hk
      refine wp_callV0v (pc := 120) d_Stemma_build_120 rfl rfl (zk_132 L) rfl rfl (Cv_of (c_Sm_con (M := M) (by rw [g7.2.1]; omega) (by rw [g7.2.1]; omega) (by rw [g7.1]; omega) (by rw [g7.1]; omega))) (fun M120 h120 => ?_)
      obtain ⟨w1, w2⟩ := h120
      have hS : ∀ a, ¬ (a = 143 ∨ a = 144 ∨ a = 145) → ∀ j, M120 a j = M a j := fun a ha j => w1 a ha j
      have gm : qGm M120 D D.2.2.2.toNat := g7.keep (by omega) w1 (fun a a1 a2 => by unfold qC3; omega)
      rw [qGm_ds (by omega) (by omega) g7, g7.2.1] at w2
      have h3 : ∀ s : Int, 0 ≤ s → s < uN D → M120 143 s.toNat = (uT D).1 s ∧ M120 144 s.toNat = (uT D).2.1 s ∧ M120 145 s.toNat = (uT D).2.2 s := w2
      refine wp_aload_n (pc := 123) d_Stemma_build_123 rfl ?_
      refine wp_callV0v (pc := 124) d_Stemma_build_124 rfl rfl (zk_132 L) rfl rfl (Cv_of (c_Sm_fr (M := M120) (by rw [gm.2.1]; omega) (by rw [gm.2.1]; omega) (by rw [gm.1]; omega) (by rw [gm.1]; omega))) (fun M124 h124 => ?_)
      obtain ⟨y1, y2⟩ := h124
      refine wp_return_ (pc := 127) d_Stemma_build_127 rfl ?_
      have n1 : zSm (fun a => 143 ≤ a ∧ a < 147) M M124 := (w1.up (fun a ha => by unfold qC3 at ha; omega)).tr (y1.up (fun a ha => by omega))
      have gm3 : qGm M124 D D.2.2.2.toNat := gm.keep (by omega) y1 (fun a a1 a2 => by omega)
      refine ⟨rfl, g3.tr (n1.up (fun a ha => by omega)), g4.keep n1 (fun a a1 a2 => by omega), (qDC_keep a2.2 n1 (by omega) (fun a b1 b2 => by omega)).trans g5, (n1 132 (by omega) 11).trans g6, gm3, fun s s0 s1 => ?_⟩
      obtain ⟨r1, r2, r3⟩ := h3 s s0 s1
      have hm := y2 s s0 (by rw [gm.2.1]; exact s1)
      rw [qGm_mk (by omega) (by omega) hpl.2.1 gm (fun s s0 s1 => (h3 s s0 s1).1) s] at hm
      exact ⟨(y1 143 (by omega) _).trans r1, (y1 144 (by omega) _).trans r2, (y1 145 (by omega) _).trans r3, hm⟩
    · refine wp_aload_n (pc := 63) d_Stemma_build_63 rfl ?_
      refine wp_iconst (pc := 64) d_Stemma_build_64 rfl ?_
      refine wp_iload_n (pc := 65) d_Stemma_build_65 rfl ?_
      refine wp_callV2r (pc := 66) d_Stemma_build_66 rfl rfl (zk_7 L) rfl rfl (c_Co_bestI (x := 0) (y := c) g4 (by decide) (by omega) (by omega) (by omega)) (fun M66 h66 => ?_)
      obtain ⟨p1, p2, p3, p4⟩ := h66
      have e7 : ∀ k, M66 7 k = M 7 k := p1 7 (by omega)
      have gm : qGm M66 D k := g7.keep (by omega) p1 (fun a a1 a2 => by omega)
      have e5 : qDC M66 = D := p3.trans g5
      have hfo := qKm_fo p4 (by decide) (by rw [e7]; omega) (by omega) (by rw [e7]; omega)
      rw [e5] at hfo
      refine wp_ast3 (pc := 69) d_Stemma_build_69 rfl ?_
      refine wp_aload_n (pc := 70) d_Stemma_build_70 rfl ?_
      refine wp_callV0f (pc := 71) d_Stemma_build_71 rfl rfl (zAn_i L ((0 : Int) * 6 + c).toNat (by omega)).1 rfl rfl (c_An_isFound (zAn_i L ((0 : Int) * 6 + c).toNat (by omega)) (by by_cases z : uIn D 0 c; exact Or.inr (hfo.1 z); exact Or.inl (hfo.2 z))) ?_
      refine wp_if_eq (tgt := 96) (pc := 74) d_Stemma_build_74 rfl (fun c74 => ?_) (fun c74 => ?_)
      · have hin : ¬ uIn D 0 c := fun z => absurd (hfo.1 z) (by omega)
        have gmo : zU M66 140 c.toNat (-1) 132 10 = (uG D k).2.1 := by rw [zU_na (by decide)]; exact gm.2.2.1
        refine wp_aload_n (pc := 96) d_Stemma_build_96 rfl ?_
        refine wp_getR (pc := 97) d_Stemma_build_97 rfl (zk_132 L) zx_132_1 ?_
        refine wp_iload_n (pc := 100) d_Stemma_build_100 rfl ?_
        refine wp_iconst (pc := 101) d_Stemma_build_101 rfl ?_
        refine wp_iast (pc := 102) d_Stemma_build_102 (zk_140 L) (by decide) (by omega) (by omega) ?_
        refine wp_aload_n (pc := 103) d_Stemma_build_103 rfl ?_
        refine wp_dup (pc := 104) d_Stemma_build_104 rfl ?_
        refine wp_getI (pc := 105) d_Stemma_build_105 rfl (by decide) (zk_132 L) ?_
        refine wp_iconst (pc := 108) d_Stemma_build_108 rfl ?_
        refine wp_iadd (pc := 109) d_Stemma_build_109 (by rw [gmo]; omega) (by rw [gmo]; omega) ?_
        refine wp_putI (pc := 110) d_Stemma_build_110 rfl (zk_132 L) (by decide) ?_
        refine wp_iinc2 (pc := 113) d_Stemma_build_113 rfl (by omega) (by omega) ?_
        refine wp_goto (tgt := 55) (pc := 116) d_Stemma_build_116 rfl ?_
        first
        | (refine ih (k + 1) (c + 1) M90 _ (by omega) (by omega) (by omega) ?_ ?_ ?_ ?_ (qGm_in (by omega) gm2 (by omega) (by rw [← g1]; exact hin) hrow (by rw [← g1]; exact h90))
           · have s1 : zSm (fun a => a = 132 ∨ a = 140 ∨ a = 141 ∨ a = 142) M85 M90 := by
               split at h90
               · rw [h90]; exact (zSm.rf.u (by omega)).u (by omega)
               · rw [h90]; exact (((zSm.rf.u (by omega)).u (by omega)).u (by omega)).u (by omega)
             exact ((g3.tr (p1.up (fun a ha => by omega))).tr (w1.up (fun a ha => by omega))).tr (s1.up (fun a ha => by omega))
           · have s1 : zSm (fun a => a = 132 ∨ a = 140 ∨ a = 141 ∨ a = 142) M85 M90 := by
               split at h90
               · rw [h90]; exact (zSm.rf.u (by omega)).u (by omega)
               · rw [h90]; exact (((zSm.rf.u (by omega)).u (by omega)).u (by omega)).u (by omega)
             exact ci2.keep s1 (fun a a1 a2 => by omega)
           · have s1 : zSm (fun a => a = 132 ∨ a = 140 ∨ a = 141 ∨ a = 142) M85 M90 := by
               split at h90
               · rw [h90]; exact (zSm.rf.u (by omega)).u (by omega)
               · rw [h90]; exact (((zSm.rf.u (by omega)).u (by omega)).u (by omega)).u (by omega)
             exact (qDC_keep ci2.2.1.2 s1 (by omega) (fun a b1 b2 => by omega)).trans e52
           · have s11 : M85 132 11 = v := ((w1 132 (by omega) 11).trans (p1 132 (by omega) 11)).trans g6
             split at h90
             · rw [h90, zU_na (by decide), zU_na (by decide)]; exact s11
             · rw [h90, zU_nk (by decide), zU_na (by decide), zU_na (by decide), zU_na (by decide)]; exact s11)
        | (have s1 : zSm (fun a => a = 132 ∨ a = 140) M66 (zU (zU M66 140 c.toNat (-1)) 132 10 (zU M66 140 c.toNat (-1) 132 10 + 1)) := (zSm.rf.u (by omega)).u (by omega)
           refine ih (k + 1) (c + 1) _ _ (by omega) (by omega) (by omega) ((g3.tr (p1.up (fun a ha => by omega))).tr (s1.up (fun a ha => by omega))) (p2.keep s1 (fun a a1 a2 => by omega)) ((qDC_keep p2.2.1.2 s1 (by omega) (fun a b1 b2 => by omega)).trans e5) ?_ ?_
           · rw [zU_nk (by decide), zU_na (by decide)]; exact (p1 132 (by omega) 11).trans g6
           · rw [show zU M66 140 c.toNat (-1) 132 10 = M66 132 10 from zU_na (by decide), g1]
             exact qGm_out gm (by omega) (by rw [← g1]; exact hin))
      · refine wp_aload_n (pc := 77) d_Stemma_build_77 rfl ?_
        refine wp_iload_n (pc := 78) d_Stemma_build_78 rfl ?_
        refine wp_aload_n (pc := 79) d_Stemma_build_79 rfl ?_
        refine wp_iload_n (pc := 80) d_Stemma_build_80 rfl ?_
        have hin : uIn D 0 c := Decidable.of_not_not (fun z => c74 (hfo.2 z))
        have hst := qKm_st p4 (by decide) (by rw [e7]; omega) (by omega) (by rw [e7]; omega) (by rw [e5]; exact hin)
        rw [e5] at hst
        have e9 : M66 132 9 = M66 (12 + 2 * (0 : Int).toNat) 1 := by rw [gm.1, hpl.2.2 (by omega)]; exact (p1 12 (by omega) 1).symm
        have hin2 := hin
        unfold uIn at hin2
        rw [← e5, qDC_2 (by decide) (by rw [e7]; omega), qDC_2 (by omega) (by rw [e7]; omega), show (qDC M66).2.2.1 = M66 7 4 from rfl] at hin2
        have ht0 := p2.2.2.2.1 0 (by rw [e7]; omega)
        have htc := p2.2.2.2.1 c.toNat (by rw [e7]; omega)
        refine wp_callV1f (pc := 81) d_Stemma_build_81 rfl rfl (zk_7 L) rfl rfl (c_Co_text (by rw [e7]; omega)) ?_
        rw [if_pos (by rw [e7]; omega)]
        refine wp_aload_n (pc := 84) d_Stemma_build_84 rfl ?_
        refine wp_callV3v (pc := 85) d_Stemma_build_85 rfl rfl (zk_132 L) rfl rfl (Cv_of (c_Sm_read (t := 12 + 2 * c.toNat) (r := 24 + 3 * ((0 : Int) * 6 + c).toNat) (M := M66) (f := qTx M66 (12 + 2 * (0 : Int).toNat)) (b := M66 7 4) (K := uK D 0 c) (zAn_i L ((0 : Int) * 6 + c).toNat (by omega)) (zTx_i L (show c.toNat < 6 by omega)) (by omega) (by omega) (by omega) (by rw [e9]; exact ht0.1) (by rw [e9]; exact ht0.2.1) htc.1 htc.2.1 (by rw [e7]; omega) (by rw [e9]; exact hin2) (hfo.1 hin) (by rw [e9]; exact hst.1) hst.2.1 hst.2.2.1 (by rw [e9]; exact hst.2.2.2))) (fun M85 h85 => ?_)
        obtain ⟨w1, w2⟩ := h85
        have gm2 : qGm M85 D k := ⟨(w1 132 (by omega) 9).trans gm.1, (w1 132 (by omega) 8).trans gm.2.1, (w1 132 (by omega) 10).trans gm.2.2.1, fun s s0 s1 => by rw [w1 141 (by omega), w1 142 (by omega)]; exact gm.2.2.2.1 s s0 s1, fun c' c0 c1 => by rw [w1 140 (by omega)]; exact gm.2.2.2.2.1 c' c0 c1, fun c' c0 c1 ci p q0 q1 => by rw [w1 (134 + c'.toNat) (by omega)]; exact gm.2.2.2.2.2 c' c0 c1 ci p q0 q1⟩
        have hrow : ∀ p : Int, 0 ≤ p → p < uPl D → M85 (134 + k) p.toNat = uRd D k p := fun p q0 q1 => by
          have hw := w2 p q0 (by rw [gm.1]; exact q1)
          rw [show c.toNat = k by omega] at hw
          rw [hw, ← qRf_48 (by rw [e9, show k = c.toNat by omega]; exact hst.1) hst.2.1]
          unfold uRd
          rw [← e5, qDC_1 (by decide) (by rw [e7]; omega), qDC_1 (by omega) (by rw [e7]; omega), qDC_2 (by decide) (by rw [e7]; omega), qDC_2 (by omega) (by rw [e7]; omega), e9, show ((k : Int)).toNat = k by omega]
          rfl
        have ci2 : qCi M85 := p2.keep w1 (fun a a1 a2 => by omega)
        have e52 : qDC M85 = D := (qDC_keep (by rw [e7]; omega) w1 (by omega) (fun a b1 b2 => by omega)).trans e5
        refine wp_aload_n (pc := 88) d_Stemma_build_88 rfl ?_
        refine wp_iload_n (pc := 89) d_Stemma_build_89 rfl ?_
        refine wp_callV1v (pc := 90) d_Stemma_build_90 rfl rfl (zk_132 L) rfl rfl (Cv_of (c_Sm_group (M := M85) (x := c) (by rw [gm2.2.1]; omega) (by rw [gm2.2.1]; omega) (by rw [gm2.1]; omega) (by rw [gm2.1]; omega) (by omega) (by omega) (fun j hj => by rw [gm2.2.1] at hj; have q := (gm2.2.2.2.1 (j : Int) (by omega) hj).2; have q2 := (hgb.2.2.2.1 (j : Int) (by omega) hj).2.2; rw [show ((j : Int)).toNat = j by omega] at q; rw [q]; omega))) (fun M90 h90 => ?_)
        refine wp_goto (tgt := 113) (pc := 93) d_Stemma_build_93 rfl ?_
        refine wp_iinc2 (pc := 113) d_Stemma_build_113 rfl (by omega) (by omega) ?_
        refine wp_goto (tgt := 55) (pc := 116) d_Stemma_build_116 rfl ?_
        first
        | (refine ih (k + 1) (c + 1) M90 _ (by omega) (by omega) (by omega) ?_ ?_ ?_ ?_ (qGm_in (by omega) gm2 (by omega) (by rw [← g1]; exact hin) hrow (by rw [← g1]; exact h90))
           · have s1 : zSm (fun a => a = 132 ∨ a = 140 ∨ a = 141 ∨ a = 142) M85 M90 := by
               split at h90
               · rw [h90]; exact (zSm.rf.u (by omega)).u (by omega)
               · rw [h90]; exact (((zSm.rf.u (by omega)).u (by omega)).u (by omega)).u (by omega)
             exact ((g3.tr (p1.up (fun a ha => by omega))).tr (w1.up (fun a ha => by omega))).tr (s1.up (fun a ha => by omega))
           · have s1 : zSm (fun a => a = 132 ∨ a = 140 ∨ a = 141 ∨ a = 142) M85 M90 := by
               split at h90
               · rw [h90]; exact (zSm.rf.u (by omega)).u (by omega)
               · rw [h90]; exact (((zSm.rf.u (by omega)).u (by omega)).u (by omega)).u (by omega)
             exact ci2.keep s1 (fun a a1 a2 => by omega)
           · have s1 : zSm (fun a => a = 132 ∨ a = 140 ∨ a = 141 ∨ a = 142) M85 M90 := by
               split at h90
               · rw [h90]; exact (zSm.rf.u (by omega)).u (by omega)
               · rw [h90]; exact (((zSm.rf.u (by omega)).u (by omega)).u (by omega)).u (by omega)
             exact (qDC_keep ci2.2.1.2 s1 (by omega) (fun a b1 b2 => by omega)).trans e52
           · have s11 : M85 132 11 = v := ((w1 132 (by omega) 11).trans (p1 132 (by omega) 11)).trans g6
             split at h90
             · rw [h90, zU_na (by decide), zU_na (by decide)]; exact s11
             · rw [h90, zU_nk (by decide), zU_na (by decide), zU_na (by decide), zU_na (by decide)]; exact s11)
        | (have s1 : zSm (fun a => a = 132 ∨ a = 140) M66 (zU (zU M66 140 c.toNat (-1)) 132 10 (zU M66 140 c.toNat (-1) 132 10 + 1)) := (zSm.rf.u (by omega)).u (by omega)
           refine ih (k + 1) (c + 1) _ _ (by omega) (by omega) (by omega) ((g3.tr (p1.up (fun a ha => by omega))).tr (s1.up (fun a ha => by omega))) (p2.keep s1 (fun a a1 a2 => by omega)) ((qDC_keep p2.2.1.2 s1 (by omega) (fun a b1 b2 => by omega)).trans e5) ?_ ?_
           · rw [zU_nk (by decide), zU_na (by decide)]; exact (p1 132 (by omega) 11).trans g6
           · rw [show zU M66 140 c.toNat (-1) 132 10 = M66 132 10 from zU_na (by decide), g1]
             exact qGm_out gm (by omega) (by rw [← g1]; exact hin))
end ZBu2
