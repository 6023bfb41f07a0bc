/-! Stemma, on: connect, findReverted -/
section ZSt5
variable {L : Nat} {M : zM} {i j x y : Int}
theorem qR_eq {M M' : zM} (h9 : M' 132 9 = M 132 9) (h : ∀ c : Nat, c < 6 → ∀ k, M' (134 + c) k = M (134 + c) k) (c p : Int) : qR M' c p = qR M c p := by
  unfold qR
  rw [h9]
  split
  · exact h _ (by omega) _
  · rfl
theorem qDf_eq {M M' : zM} (h9 : M' 132 9 = M 132 9) (h : ∀ c : Nat, c < 6 → ∀ k, M' (134 + c) k = M (134 + c) k) (c c' : Int) : qDf M' c c' = qDf M c c' := by
  unfold qDf
  rw [h9]
  exact qN_congr (fun k _ _ => by rw [qR_eq h9 h, qR_eq h9 h])
theorem qDs_eq {M M' : zM} (h9 : M' 132 9 = M 132 9) (h8 : M' 132 8 = M 132 8) (h : ∀ c : Nat, c < 6 → ∀ k, M' (134 + c) k = M (134 + c) k) (h1 : ∀ k, M' 141 k = M 141 k) (u v : Int) : qDs M' u v = qDs M u v := by
  unfold qDs
  rw [h8, h1, h1, qDf_eq h9 h]
def qC3 : Nat → Prop := fun a => a = 143 ∨ a = 144 ∨ a = 145
/-- the tree's rows hold three functions, for the first n states -/
def qT3 (M : zM) (n : Int) (w : (Int → Int) × (Int → Int) × (Int → Int)) : Prop := ∀ s : Int, 0 ≤ s → s < n → M 143 s.toNat = w.1 s ∧ M 144 s.toNat = w.2.1 s ∧ M 145 s.toNat = w.2.2 s
theorem Cv_of {d : Nat} {m : zD} {as : List zV} {P : zM → Prop} (h : wpc L d m as M (fun r M' => r = none ∧ P M')) : Cv L d m as M P := h
theorem lp_Sm_con2 {M0 : zM} (h8 : 0 ≤ M0 132 8) (hs6 : M0 132 8 ≤ 6) (h0 : 0 ≤ M0 132 9) (hp : M0 132 9 ≤ 24) : ∀ (n9 : Nat) (k : Nat) (t : Int) (M : zM), M0 132 8 + 1 - t < n9 → t ≤ 1 ∨ t ≤ M0 132 8 → t = (k : Int) + 1 → zSm qC3 M0 M → qT3 M (M0 132 8) (qTr (qDs M0) (M0 132 8).toNat 25 k) → wp L 4 zm_Stemma_connect 47 [rV 132, iV t] [] M (fun r M' => r = none ∧ (zSm qC3 M0 M' ∧ qT3 M' (M0 132 8) (qTr (qDs M0) (M0 132 8).toNat 25 ((M0 132 8).toNat - 1)))) := by
  intro n9
  induction n9 with
  | zero =>
    intro k  t  M  h9 g0 g1 g3 g4
    exact absurd h9 (by omega)
  | succ n9 ih =>
    intro k  t  M  h9 g0 g1 g3 g4
    have e8 : M 132 8 = M0 132 8 := g3 132 (by unfold qC3; omega) 8
    have e9 : M 132 9 = M0 132 9 := g3 132 (by unfold qC3; omega) 9
    have eD : ∀ u v, qDs M u v = qDs M0 u v := fun u v => qDs_eq e9 e8 (fun c hc k => g3 (134 + c) (by unfold qC3; omega) k) (fun k => g3 141 (by unfold qC3; omega) k) u v
    refine wp_iload_n (pc := 47) d_Stemma_connect_47 rfl ?_
    refine wp_aload_n (pc := 48) d_Stemma_connect_48 rfl ?_
    refine wp_getI (pc := 49) d_Stemma_connect_49 rfl (by decide) (zk_132 L) ?_
    refine wp_icmp_ge (tgt := 66) (pc := 52) d_Stemma_connect_52 rfl (fun c52 => ?_) (fun c52 => ?_)
    · refine wp_return_ (pc := 66) d_Stemma_connect_66 rfl ?_
      refine ⟨rfl, g3, ?_⟩
      by_cases hz : M0 132 8 = 0
      · intro s s0 s1
        exact absurd s1 (by omega)
      · rw [show (M0 132 8).toNat - 1 = k by omega]
        exact g4
    · refine wp_aload_n (pc := 55) d_Stemma_connect_55 rfl ?_
      refine wp_iload_n (pc := 56) d_Stemma_connect_56 rfl ?_
      refine wp_callV1v (pc := 57) d_Stemma_connect_57 rfl rfl (zk_132 L) rfl rfl (Cv_of (c_Sm_jn (M := M) (by omega) (by omega) (by omega) (by omega))) (fun M57 h57 => ?_)
      refine wp_iinc1 (pc := 60) d_Stemma_connect_60 rfl (by omega) (by omega) ?_
      refine wp_goto (tgt := 47) (pc := 63) d_Stemma_connect_63 rfl ?_
      refine ih (k + 1) (t + 1) M57 (by omega) (Or.inr (by omega)) (by omega) ?_ ?_
      · split at h57
        · rw [h57]; exact g3
        · rw [h57]; exact ((g3.u (Or.inl rfl)).u (Or.inr (Or.inl rfl))).u (Or.inr (Or.inr rfl))
      · have hS : qSu (qJo M) (qDs M) (M 132 8).toNat (M 132 8).toNat (25, -1, -1) = qSu (qTr (qDs M0) (M0 132 8).toNat 25 k).2.2 (qDs M0) (M0 132 8).toNat (M0 132 8).toNat (25, -1, -1) := by
          rw [e8]
          exact qSu_congr (fun z z0 z1 => (g4 z z0 (by omega)).2.2) (fun z z' _ _ _ _ => eD z z') _ _ (Nat.le_refl _)
        have hb := qSu_b (jo := (qTr (qDs M0) (M0 132 8).toNat 25 k).2.2) (D := qDs M0) (n := (M0 132 8).toNat) (M0 132 8).toNat (25, -1, -1) (Nat.le_refl _) (by simp only; omega) (by simp only; omega)
        rw [hS] at h57
        have hR : qTr (qDs M0) (M0 132 8).toNat 25 (k + 1) = if (qSu (qTr (qDs M0) (M0 132 8).toNat 25 k).2.2 (qDs M0) (M0 132 8).toNat (M0 132 8).toNat (25, -1, -1)).2.2 < 0 then qTr (qDs M0) (M0 132 8).toNat 25 k else
            (qPut (qTr (qDs M0) (M0 132 8).toNat 25 k).1 (qSu (qTr (qDs M0) (M0 132 8).toNat 25 k).2.2 (qDs M0) (M0 132 8).toNat (M0 132 8).toNat (25, -1, -1)).2.2 (qSu (qTr (qDs M0) (M0 132 8).toNat 25 k).2.2 (qDs M0) (M0 132 8).toNat (M0 132 8).toNat (25, -1, -1)).2.1,
             qPut (qTr (qDs M0) (M0 132 8).toNat 25 k).2.1 (qSu (qTr (qDs M0) (M0 132 8).toNat 25 k).2.2 (qDs M0) (M0 132 8).toNat (M0 132 8).toNat (25, -1, -1)).2.2 (qSu (qTr (qDs M0) (M0 132 8).toNat 25 k).2.2 (qDs M0) (M0 132 8).toNat (M0 132 8).toNat (25, -1, -1)).1,
             qPut (qTr (qDs M0) (M0 132 8).toNat 25 k).2.2 (qSu (qTr (qDs M0) (M0 132 8).toNat 25 k).2.2 (qDs M0) (M0 132 8).toNat (M0 132 8).toNat (25, -1, -1)).2.2 ((k : Int) + 1)) := rfl
        rw [hR]
        generalize qSu (qTr (qDs M0) (M0 132 8).toNat 25 k).2.2 (qDs M0) (M0 132 8).toNat (M0 132 8).toNat (25, -1, -1) = w at h57 hb ⊢
        by_cases hw : w.2.2 < 0
        · rw [if_pos hw] at h57 ⊢
          rw [h57]; exact g4
        · rw [if_neg hw] at h57 ⊢
          intro s s0 s1
          obtain ⟨q1, q2, q3⟩ := g4 s s0 s1
          rw [h57]
          simp only [qPut]
          by_cases es : s = w.2.2
          · rw [if_pos es, if_pos es, if_pos es, es]
            refine ⟨?_, ?_, ?_⟩
            · rw [zU_na (by decide), zU_na (by decide), zU_eq]
            · rw [zU_na (by decide), zU_eq]
            · rw [zU_eq, g1]
          · rw [if_neg es, if_neg es, if_neg es, ← q1, ← q2, ← q3]
            refine ⟨?_, ?_, ?_⟩
            · rw [zU_na (by decide), zU_na (by decide), zU_nk (by omega)]
            · rw [zU_na (by decide), zU_nk (by omega), zU_na (by decide)]
            · rw [zU_nk (by omega), zU_na (by decide), zU_na (by decide)]
theorem lp_Sm_con1 {M0 : zM} (h8 : 0 ≤ M0 132 8) (hs6 : M0 132 8 ≤ 6) (h0 : 0 ≤ M0 132 9) (hp : M0 132 9 ≤ 24) : ∀ (n9 : Nat) (i : Int) (M : zM), M0 132 8 - i < n9 → 0 ≤ i → i ≤ M0 132 8 → zSm qC3 M0 M → qT3 M i (qTr (qDs M0) (M0 132 8).toNat 25 0) → wp L 4 zm_Stemma_connect 2 [rV 132, iV i] [] M (fun r M' => r = none ∧ (zSm qC3 M0 M' ∧ qT3 M' (M0 132 8) (qTr (qDs M0) (M0 132 8).toNat 25 ((M0 132 8).toNat - 1)))) := by
  intro n9
  induction n9 with
  | zero =>
    intro i  M  h9 g1 g2 g3 g4
    exact absurd h9 (by omega)
  | succ n9 ih =>
    intro i  M  h9 g1 g2 g3 g4
    have e8 : M 132 8 = M0 132 8 := g3 132 (by unfold qC3; omega) 8
    refine wp_iload_n (pc := 2) d_Stemma_connect_2 rfl ?_
    refine wp_aload_n (pc := 3) d_Stemma_connect_3 rfl ?_
    refine wp_getI (pc := 4) d_Stemma_connect_4 rfl (by decide) (zk_132 L) ?_
    refine wp_icmp_ge (tgt := 45) (pc := 7) d_Stemma_connect_7 rfl (fun c7 => ?_) (fun c7 => ?_)
    · refine wp_iconst (pc := 45) d_Stemma_connect_45 rfl ?_
      refine wp_ist1 (pc := 46) d_Stemma_connect_46 rfl ?_
      exact lp_Sm_con2 h8 hs6 h0 hp 100 0 1 M (by omega) (Or.inl (by omega)) rfl g3 (by rw [show M0 132 8 = i by omega]; rw [show M0 132 8 = i by omega] at g4; exact g4)
    · refine wp_aload_n (pc := 10) d_Stemma_connect_10 rfl ?_
      refine wp_getR (pc := 11) d_Stemma_connect_11 rfl (zk_132 L) zx_132_4 ?_
      refine wp_iload_n (pc := 14) d_Stemma_connect_14 rfl ?_
      refine wp_iconst (pc := 15) d_Stemma_connect_15 rfl ?_
      refine wp_iast (pc := 16) d_Stemma_connect_16 (zk_143 L) (by decide) (by omega) (by omega) ?_
      refine wp_aload_n (pc := 17) d_Stemma_connect_17 rfl ?_
      refine wp_getR (pc := 18) d_Stemma_connect_18 rfl (zk_132 L) zx_132_5 ?_
      refine wp_iload_n (pc := 21) d_Stemma_connect_21 rfl ?_
      refine wp_iconst (pc := 22) d_Stemma_connect_22 rfl ?_
      refine wp_iast (pc := 23) d_Stemma_connect_23 (zk_144 L) (by decide) (by omega) (by omega) ?_
      refine wp_aload_n (pc := 24) d_Stemma_connect_24 rfl ?_
      refine wp_getR (pc := 25) d_Stemma_connect_25 rfl (zk_132 L) zx_132_6 ?_
      refine wp_iload_n (pc := 28) d_Stemma_connect_28 rfl ?_
      refine wp_iload_n (pc := 29) d_Stemma_connect_29 rfl ?_
      refine wp_if_ne (tgt := 37) (pc := 30) d_Stemma_connect_30 rfl (fun c30 => ?_) (fun c30 => ?_)
      · refine wp_iconst (pc := 37) d_Stemma_connect_37 rfl ?_
        refine wp_iast (pc := 38) d_Stemma_connect_38 (zk_145 L) (by decide) (by omega) (by omega) ?_
        refine wp_iinc1 (pc := 39) d_Stemma_connect_39 rfl (by omega) (by omega) ?_
        refine wp_goto (tgt := 2) (pc := 42) d_Stemma_connect_42 rfl ?_
        refine ih (i + 1) _ (by omega) (by omega) (by omega) (((g3.u (Or.inl rfl)).u (Or.inr (Or.inl rfl))).u (Or.inr (Or.inr rfl))) (fun s s0 s1 => ?_)
        by_cases es : s = i
        · rw [es]
          refine ⟨?_, ?_, ?_⟩
          · rw [zU_na (by decide), zU_na (by decide), zU_eq]; rfl
          · rw [zU_na (by decide), zU_eq]; rfl
          · rw [zU_eq]
            show _ = if i = 0 then (0 : Int) else -1
            first | rw [if_pos (Decidable.of_not_not c30)] | rw [if_neg c30]
        · obtain ⟨q1, q2, q3⟩ := g4 s s0 (by omega)
          refine ⟨?_, ?_, ?_⟩
          · rw [zU_na (by decide), zU_na (by decide), zU_nk (by omega)]; exact q1
          · rw [zU_na (by decide), zU_nk (by omega), zU_na (by decide)]; exact q2
          · rw [zU_nk (by omega), zU_na (by decide), zU_na (by decide)]; exact q3
      · refine wp_iconst (pc := 33) d_Stemma_connect_33 rfl ?_
        refine wp_goto (tgt := 38) (pc := 34) d_Stemma_connect_34 rfl ?_
        refine wp_iast (pc := 38) d_Stemma_connect_38 (zk_145 L) (by decide) (by omega) (by omega) ?_
        refine wp_iinc1 (pc := 39) d_Stemma_connect_39 rfl (by omega) (by omega) ?_
        refine wp_goto (tgt := 2) (pc := 42) d_Stemma_connect_42 rfl ?_
        refine ih (i + 1) _ (by omega) (by omega) (by omega) (((g3.u (Or.inl rfl)).u (Or.inr (Or.inl rfl))).u (Or.inr (Or.inr rfl))) (fun s s0 s1 => ?_)
        by_cases es : s = i
        · rw [es]
          refine ⟨?_, ?_, ?_⟩
          · rw [zU_na (by decide), zU_na (by decide), zU_eq]; rfl
          · rw [zU_na (by decide), zU_eq]; rfl
          · rw [zU_eq]
            show _ = if i = 0 then (0 : Int) else -1
            first | rw [if_pos (Decidable.of_not_not c30)] | rw [if_neg c30]
        · obtain ⟨q1, q2, q3⟩ := g4 s s0 (by omega)
          refine ⟨?_, ?_, ?_⟩
          · rw [zU_na (by decide), zU_na (by decide), zU_nk (by omega)]; exact q1
          · rw [zU_na (by decide), zU_nk (by omega), zU_na (by decide)]; exact q2
          · rw [zU_nk (by omega), zU_na (by decide), zU_na (by decide)]; exact q3
theorem c_Sm_con (h8 : 0 ≤ M 132 8) (hs6 : M 132 8 ≤ 6) (h0 : 0 ≤ M 132 9) (hp : M 132 9 ≤ 24) : wpc L 4 zm_Stemma_connect [rV 132] M (fun r M' => r = none ∧ (zSm qC3 M M' ∧ qT3 M' (M 132 8) (qTr (qDs M) (M 132 8).toNat 25 ((M 132 8).toNat - 1)))) := by
  show wp L _ zm_Stemma_connect 0 [rV 132, uV] [] M _
  refine wp_iconst (pc := 0) d_Stemma_connect_0 rfl ?_
  refine wp_ist1 (pc := 1) d_Stemma_connect_1 rfl ?_
  exact lp_Sm_con1 (M0 := M) h8 hs6 h0 hp 100 0 M (by omega) (by omega) (by omega) zSm.rf (fun s s0 s1 => absurd s1 (by omega))
/-- a mask of the first n numbers of which c holds -/
def qMk (c : Int → Int) : Nat → Int
  | 0 => 0
  | k + 1 => if c (k : Int) = 0 then qMk c k else zI2 (· ||| ·) (qMk c k) (zI2 zShl 1 (k : Int))
theorem qGb_eq {M M' : zM} (h9 : M' 132 9 = M 132 9) (h8 : M' 132 8 = M 132 8) (h : ∀ c : Nat, c < 6 → ∀ k, M' (134 + c) k = M (134 + c) k) (h1 : ∀ k, M' 141 k = M 141 k) (h3 : ∀ k, M' 143 k = M 143 k) (x p : Int) : qGb M' x p = qGb M x p := by
  have e1 : ∀ x p, qRS M' x p = qRS M x p := fun x p => by unfold qRS; rw [h8, h1, qR_eq h9 h]
  have e2 : ∀ x, qPm M' x = qPm M x := fun x => by unfold qPm; rw [h8, h3]
  have e3 : ∀ n rd a, qGl M' p rd n a = qGl M p rd n a := by
    intro n rd
    induction n with
    | zero => intro a; rfl
    | succ n ih => intro a; simp only [qGl]; rw [e1, e2, ih]
  unfold qGb
  rw [e1, e1, e2, e3, e2, h8]
theorem lp_Sm_fr1 {M0 : zM} (h8 : 0 ≤ M0 132 8) (hs6 : M0 132 8 ≤ 6) (h0 : 0 ≤ M0 132 9) (hp : M0 132 9 ≤ 24) {Qx : Option zV → zM → Prop} {s : Int} (s0 : 0 ≤ s) (s1 : s < M0 132 8) (hq : ∀ (M' : zM) (w : Int), zSm (fun a => a = 146) M0 M' → (∀ z : Int, 0 ≤ z → z < s + 1 → M' 146 z.toNat = qMk (fun p => qGb M0 z p) (M0 132 9).toNat) → wp L 3 zm_Stemma_findReverted 2 [rV 132, iV (s + 1), iV w] [] M' Qx) : ∀ (n9 : Nat) (k : Nat) (p : Int) (M : zM), M0 132 9 - p < n9 → p = k → p ≤ M0 132 9 → zSm (fun a => a = 146) M0 M → (∀ z : Int, 0 ≤ z → z < s → M 146 z.toNat = qMk (fun p => qGb M0 z p) (M0 132 9).toNat) → M 146 s.toNat = qMk (fun p => qGb M0 s p) k → wp L 3 zm_Stemma_findReverted 19 [rV 132, iV s, iV p] [] M (Qx) := by
  intro n9
  induction n9 with
  | zero =>
    intro k  p  M  h9 g1 g2 g3 g4 g5
    exact absurd h9 (by omega)
  | succ n9 ih =>
    intro k  p  M  h9 g1 g2 g3 g4 g5
    have e8 : M 132 8 = M0 132 8 := g3 132 (by decide) 8
    have e9 : M 132 9 = M0 132 9 := g3 132 (by decide) 9
    have eG : ∀ x p, qGb M x p = qGb M0 x p := fun x p => qGb_eq e9 e8 (fun c hc k => g3 (134 + c) (by omega) k) (fun k => g3 141 (by decide) k) (fun k => g3 143 (by decide) k) x p
    refine wp_iload_n (pc := 19) d_Stemma_findReverted_19 rfl ?_
    refine wp_aload_n (pc := 20) d_Stemma_findReverted_20 rfl ?_
    refine wp_getI (pc := 21) d_Stemma_findReverted_21 rfl (by decide) (zk_132 L) ?_
    refine wp_icmp_ge (tgt := 54) (pc := 24) d_Stemma_findReverted_24 rfl (fun c24 => ?_) (fun c24 => ?_)
    · refine wp_iinc1 (pc := 54) d_Stemma_findReverted_54 rfl (by omega) (by omega) ?_
      refine wp_goto (tgt := 2) (pc := 57) d_Stemma_findReverted_57 rfl ?_
      have hk : (M0 132 9).toNat = k := by omega
      exact hq M _ g3 (fun z z0 z1 => by
        by_cases e : z = s
        · rw [e, hk]; exact g5
        · exact g4 z z0 (by omega))
    · refine wp_aload_n (pc := 27) d_Stemma_findReverted_27 rfl ?_
      refine wp_iload_n (pc := 28) d_Stemma_findReverted_28 rfl ?_
      refine wp_iload_n (pc := 29) d_Stemma_findReverted_29 rfl ?_
      refine wp_callV2f (pc := 30) d_Stemma_findReverted_30 rfl rfl (zk_132 L) rfl rfl (c_Sm_goes (by omega) (by omega) (by omega)) ?_
      rw [eG]
      refine wp_if_eq (tgt := 48) (pc := 33) d_Stemma_findReverted_33 rfl (fun c33 => ?_) (fun c33 => ?_)
      · refine wp_iinc2 (pc := 48) d_Stemma_findReverted_48 rfl (by omega) (by omega) ?_
        refine wp_goto (tgt := 19) (pc := 51) d_Stemma_findReverted_51 rfl ?_
        first
        | (refine ih (k + 1) (p + 1) M (by omega) (by omega) (by omega) g3 g4 ?_
           simp only [qMk]
           rw [if_pos (by rw [← g1]; exact c33)]
           exact g5)
        | (refine ih (k + 1) (p + 1) _ (by omega) (by omega) (by omega) (g3.u rfl) (fun z z0 z1 => ?_) ?_
           · rw [zU_nk (by omega)]; exact g4 z z0 z1
           · simp only [qMk]
             rw [zU_eq, if_neg (by rw [← g1]; exact c33), g5, g1])
      · refine wp_aload_n (pc := 36) d_Stemma_findReverted_36 rfl ?_
        refine wp_getR (pc := 37) d_Stemma_findReverted_37 rfl (zk_132 L) zx_132_7 ?_
        refine wp_iload_n (pc := 40) d_Stemma_findReverted_40 rfl ?_
        refine wp_dup2 (pc := 41) d_Stemma_findReverted_41 rfl rfl ?_
        refine wp_iald (pc := 42) d_Stemma_findReverted_42 (zk_146 L) (by omega) (by omega) ?_
        refine wp_iconst (pc := 43) d_Stemma_findReverted_43 rfl ?_
        refine wp_iload_n (pc := 44) d_Stemma_findReverted_44 rfl ?_
        refine wp_ishl (v := _) (pc := 45) d_Stemma_findReverted_45 rfl ?_
        refine wp_ior (v := _) (pc := 46) d_Stemma_findReverted_46 rfl ?_
        refine wp_iast (pc := 47) d_Stemma_findReverted_47 (zk_146 L) (by decide) (by omega) (by omega) ?_
        refine wp_iinc2 (pc := 48) d_Stemma_findReverted_48 rfl (by omega) (by omega) ?_
        refine wp_goto (tgt := 19) (pc := 51) d_Stemma_findReverted_51 rfl ?_
        first
        | (refine ih (k + 1) (p + 1) M (by omega) (by omega) (by omega) g3 g4 ?_
           simp only [qMk]
           rw [if_pos (by rw [← g1]; exact c33)]
           exact g5)
        | (refine ih (k + 1) (p + 1) _ (by omega) (by omega) (by omega) (g3.u rfl) (fun z z0 z1 => ?_) ?_
           · rw [zU_nk (by omega)]; exact g4 z z0 z1
           · simp only [qMk]
             rw [zU_eq, if_neg (by rw [← g1]; exact c33), g5, g1])
theorem lp_Sm_fr {M0 : zM} (h8 : 0 ≤ M0 132 8) (hs6 : M0 132 8 ≤ 6) (h0 : 0 ≤ M0 132 9) (hp : M0 132 9 ≤ 24) : ∀ (n9 : Nat) (s : Int) (M : zM) (u : zV), M0 132 8 - s < n9 → 0 ≤ s → s ≤ M0 132 8 → zSm (fun a => a = 146) M0 M → (∀ z : Int, 0 ≤ z → z < s → M 146 z.toNat = qMk (fun p => qGb M0 z p) (M0 132 9).toNat) → wp L 3 zm_Stemma_findReverted 2 [rV 132, iV s, u] [] M (fun r M' => r = none ∧ (zSm (fun a => a = 146) M0 M' ∧ ∀ s : Int, 0 ≤ s → s < M0 132 8 → M' 146 s.toNat = qMk (fun p => qGb M0 s p) (M0 132 9).toNat)) := by
  intro n9
  induction n9 with
  | zero =>
    intro s  M  u  h9 g1 g2 g3 g4
    exact absurd h9 (by omega)
  | succ n9 ih =>
    intro s  M  u  h9 g1 g2 g3 g4
    have e8 : M 132 8 = M0 132 8 := g3 132 (by decide) 8
    have e9 : M 132 9 = M0 132 9 := g3 132 (by decide) 9
    have eG : ∀ x p, qGb M x p = qGb M0 x p := fun x p => qGb_eq e9 e8 (fun c hc k => g3 (134 + c) (by omega) k) (fun k => g3 141 (by decide) k) (fun k => g3 143 (by decide) k) x p
    refine wp_iload_n (pc := 2) d_Stemma_findReverted_2 rfl ?_
    refine wp_aload_n (pc := 3) d_Stemma_findReverted_3 rfl ?_
    refine wp_getI (pc := 4) d_Stemma_findReverted_4 rfl (by decide) (zk_132 L) ?_
    refine wp_icmp_ge (tgt := 60) (pc := 7) d_Stemma_findReverted_7 rfl (fun c7 => ?_) (fun c7 => ?_)
    · refine wp_return_ (pc := 60) d_Stemma_findReverted_60 rfl ?_
      exact ⟨rfl, g3, fun z z0 z1 => g4 z z0 (by omega)⟩
    · refine wp_aload_n (pc := 10) d_Stemma_findReverted_10 rfl ?_
      refine wp_getR (pc := 11) d_Stemma_findReverted_11 rfl (zk_132 L) zx_132_7 ?_
      refine wp_iload_n (pc := 14) d_Stemma_findReverted_14 rfl ?_
      refine wp_iconst (pc := 15) d_Stemma_findReverted_15 rfl ?_
      refine wp_iast (pc := 16) d_Stemma_findReverted_16 (zk_146 L) (by decide) (by omega) (by omega) ?_
      refine wp_iconst (pc := 17) d_Stemma_findReverted_17 rfl ?_
      refine wp_ist2 (pc := 18) d_Stemma_findReverted_18 rfl ?_
      refine lp_Sm_fr1 h8 hs6 h0 hp g1 (by omega) (fun M' w a1 a2 => ih (s + 1) M' _ (by omega) (by omega) (by omega) a1 a2) 100 0 0 _ (by omega) rfl h0 (g3.u rfl) (fun z z0 z1 => ?_) zU_eq
      rw [zU_nk (by omega)]; exact g4 z z0 z1
theorem c_Sm_fr (h8 : 0 ≤ M 132 8) (hs6 : M 132 8 ≤ 6) (h0 : 0 ≤ M 132 9) (hp : M 132 9 ≤ 24) : wpc L 3 zm_Stemma_findReverted [rV 132] M (fun r M' => r = none ∧ (zSm (fun a => a = 146) M M' ∧ ∀ s : Int, 0 ≤ s → s < M 132 8 → M' 146 s.toNat = qMk (fun p => qGb M s p) (M 132 9).toNat)) := by
  show wp L _ zm_Stemma_findReverted 0 [rV 132, uV, uV] [] M _
  refine wp_iconst (pc := 0) d_Stemma_findReverted_0 rfl ?_
  refine wp_ist1 (pc := 1) d_Stemma_findReverted_1 rfl ?_
  exact lp_Sm_fr (M0 := M) h8 hs6 h0 hp 100 0 M _ (by omega) (by omega) (by omega) zSm.rf (fun s s0 s1 => absurd s1 (by omega))
end ZSt5
