/-! StopPress: letter, blank, copy, correct, drop, band -/
abbrev qPt := Int × (Int → Int)
def qPg (M : zM) : qPt := (M 5 1, qTx M 5)
def uWd (g : qPt) : Prop := 0 < g.1 ∧ ∀ i : Int, 0 ≤ i → i < g.1 → 97 ≤ g.2 i ∧ g.2 i ≤ 122
def uAp (g : qPt) (x : Int) : qPt := (g.1 + 1, fun i => if i = g.1 then x else g.2 i)
def uEm : qPt := (0, fun _ => -1)
def uPt (D : qDt) (x : Int) (g : qPt) : qDt := (fun c => if c = x then g.2 else D.1 c, fun c => if c = x then g.1 else D.2.1 c, D.2.2.1, if D.2.2.2 < x + 1 then x + 1 else D.2.2.2)
def uDr (D : qDt) : qDt := (fun c => if 0 ≤ c ∧ c < D.2.2.2 - 1 then D.1 c else fun _ => -1, fun c => if 0 ≤ c ∧ c < D.2.2.2 - 1 then D.2.1 c else 0, D.2.2.1, D.2.2.2 - 1)
def uBd (D : qDt) (v : Int) : qDt := (D.1, D.2.1, v, D.2.2.2)
/-- what holds of the page -/
def qPi (M : zM) : Prop := (0 ≤ M 5 1 ∧ M 5 1 ≤ 24) ∧ ∀ k : Nat, (k : Int) < M 5 1 → 32 ≤ M 6 k ∧ M 6 k ≤ 126
theorem qPg_wd {M : zM} : zWord M 5 ↔ uWd (qPg M) := by
  unfold zWord uWd qPg
  refine and_congr Iff.rfl (forall_congr' (fun i => forall_congr' (fun i0 => forall_congr' (fun i1 => ?_))))
  show _ ↔ 97 ≤ (if 0 ≤ i ∧ i < M 5 1 then M 6 i.toNat else -1) ∧ (if 0 ≤ i ∧ i < M 5 1 then M 6 i.toNat else -1) ≤ 122
  rw [if_pos ⟨i0, i1⟩]
theorem qPg_em {M : zM} (h : M 5 1 = 0) : qPg M = uEm := by
  unfold qPg uEm qTx
  rw [h]
  refine Prod.ext rfl ?_
  funext i
  exact if_neg (by omega)
theorem qPg_eq {M M' : zM} (h1 : M' 5 1 = M 5 1) (h2 : ∀ k, M' 6 k = M 6 k) : qPg M' = qPg M := by
  unfold qPg
  rw [h1, qTx_eq h1 h2]
theorem qPi.keep {M M' : zM} (h : qPi M) (h1 : M' 5 1 = M 5 1) (h2 : ∀ k, M' 6 k = M 6 k) : qPi M' := by
  unfold qPi
  rw [h1]
  exact ⟨h.1, fun k hk => by rw [h2]; exact h.2 k hk⟩
theorem qIC.keep {S : Nat → Prop} {M M' : zM} (h : qIC M) (hs : zSm S M M') (h1 : ∀ a, a < 147 → ¬ a = 4 → ¬ a = 5 → ¬ a = 6 → ¬ S a) : qIC M' ∧ qDC M' = qDC M := by
  obtain ⟨a1, a2, a3, a4⟩ := h
  have e7 : ∀ k, M' 7 k = M 7 k := hs 7 (h1 7 (by decide) (by decide) (by decide) (by decide))
  have e11 : M' 132 11 = M 132 11 := hs 132 (h1 132 (by decide) (by decide) (by decide) (by decide)) 11
  have eD : qDC M' = qDC M := qDC_keep a1.2.1.2 hs (h1 7 (by decide) (by decide) (by decide) (by decide)) (fun a b1 b2 => h1 a (by omega) (by omega) (by omega) (by omega))
  have hs2 : zSm (fun a => (a = 4 ∨ a = 5 ∨ a = 6) ∨ 147 ≤ a) M M' := fun a ha k => hs a (h1 a (by omega) (by omega) (by omega) (by omega)) k
  refine ⟨⟨?_, fun z => ?_, by rw [e11, e7]; exact a3, by rw [e7]; exact a4⟩, eD⟩
  · obtain ⟨b1, b2, b3, b4, b5, b6⟩ := a1
    have e : ∀ a, a < 147 → ¬ a = 4 → ¬ a = 5 → ¬ a = 6 → ∀ k, M' a k = M a k := fun a x1 x2 x3 x4 => hs a (h1 a x1 x2 x3 x4)
    refine ⟨fun a ha k => by rw [e a (by omega) (by omega) (by omega) (by omega)]; exact b1 a ha k, by rw [e7]; exact b2, by rw [e7]; exact b3, fun c hc => ?_, fun p hp => by rw [e _ (by omega) (by omega) (by omega) (by omega)]; exact b5 p hp, fun x y x0 x1 y0 y1 => ?_⟩
    · rw [e7] at hc
      have := b4 c hc
      unfold qTk at this ⊢
      rw [e _ (by omega) (by omega) (by omega) (by omega)]
      exact ⟨this.1, this.2.1, fun k hk => by rw [e _ (by omega) (by omega) (by omega) (by omega)]; exact this.2.2 k hk⟩
    · rw [e7] at x1 y1
      rw [e _ (by omega) (by omega) (by omega) (by omega)]
      exact (b6 x y x0 x1 y0 y1).imp id (fun z => ⟨z.1, z.2.keep (e _ (by omega) (by omega) (by omega) (by omega)) (e _ (by omega) (by omega) (by omega) (by omega)) (e _ (by omega) (by omega) (by omega) (by omega)) (e _ (by omega) (by omega) (by omega) (by omega)) (e _ (by omega) (by omega) (by omega) (by omega)) (e _ (by omega) (by omega) (by omega) (by omega)) (e _ (by omega) (by omega) (by omega) (by omega)) (e7 4)⟩)
  · rw [e11, e7] at z
    rw [eD]
    exact (a2 z).keep a1.2.1.2 hs2 (fun a b1 b2 => by omega)
/-- a copy is put -/
theorem qIC_put {M M' : zM} {x : Int} (h : qIC M) (hp : qPi M) (x0 : 0 ≤ x) (x1 : x < 6) (x2 : x ≤ M 7 3)
    (hs : zSm (fun a => a = 7 ∨ a = 12 + 2 * x.toNat ∨ a = 13 + 2 * x.toNat ∨ (24 ≤ a ∧ a < 132 ∧ a % 3 = 0)) M M') (hf : qFg M M' x 6) (h3 : M' 7 3 = (if M 7 3 < x + 1 then x + 1 else M 7 3)) (h5 : M' 7 5 = M 7 5 + 1) (h7 : ∀ k, k ≠ 3 → k ≠ 5 → M' 7 k = M 7 k) (hl : M' (12 + 2 * x.toNat) 1 = M 5 1) (hk : ∀ k : Int, 0 ≤ k → k < M 5 1 → M' (13 + 2 * x.toNat) k.toNat = M 6 k.toNat) :
    qIC M' ∧ qDC M' = uPt (qDC M) x (qPg M) := by
  obtain ⟨⟨b1, b2, b3, b4, b5, b6⟩, a2, a3, a4⟩ := h
  have e4 : M' 7 4 = M 7 4 := h7 4 (by decide) (by decide)
  have eT : ∀ c : Nat, c < 6 → ¬ (c : Int) = x → ∀ k, M' (12 + 2 * c) k = M (12 + 2 * c) k ∧ M' (12 + 2 * c + 1) k = M (12 + 2 * c + 1) k := fun c c1 c2 k => ⟨hs _ (by omega) k, hs _ (by omega) k⟩
  have e11 : M' 132 11 = M 132 11 := hs 132 (by omega) 11
  have hN : 0 ≤ M' 7 3 ∧ M' 7 3 ≤ 6 := by rw [h3]; split <;> omega
  have eX : qTx M' (12 + 2 * x.toNat) = qTx M 5 := by
    funext i
    unfold qTx
    rw [hl]
    by_cases e : 0 ≤ i ∧ i < M 5 1
    · rw [if_pos e, if_pos e]
      have := hk i e.1 e.2
      rw [show 12 + 2 * x.toNat + 1 = 13 + 2 * x.toNat by omega]
      exact this
    · rw [if_neg e, if_neg e]
  refine ⟨⟨⟨b1.keep hs (fun a ha => by omega), hN, by rw [e4]; exact b3, fun c hc => ?_, fun p hp => ?_, fun u v u0 u1 v0 v1 => ?_⟩, fun z => absurd z (by rw [e11, h5]; omega), by rw [e11, h5]; omega, by rw [h5]; omega⟩, ?_⟩
  · by_cases e : (c : Int) = x
    · have ec : c = x.toNat := by omega
      rw [ec]
      refine ⟨by rw [hl]; exact hp.1.1, by rw [hl]; exact hp.1.2, fun k hk2 => ?_⟩
      rw [hl] at hk2
      have h9 := hk k (by omega) hk2
      have h8 := hp.2 k hk2
      rw [show 12 + 2 * x.toNat + 1 = 13 + 2 * x.toNat by omega]
      rw [show ((k : Int)).toNat = k by omega] at h9
      rw [h9]; omega
    · have hc2 : (c : Int) < M 7 3 := by rw [h3] at hc; split at hc <;> omega
      have := b4 c hc2
      unfold qTk at this ⊢
      rw [(eT c (by omega) e 1).1]
      exact ⟨this.1, this.2.1, fun k hk2 => by rw [(eT c (by omega) e k).2]; exact this.2.2 k hk2⟩
  · rw [(hf p hp).2]
    split
    · exact Or.inl rfl
    · exact b5 p hp
  · have hu : u < 6 := by omega
    have hv : v < 6 := by omega
    have hq := hf (u * 6 + v).toNat (by omega)
    rw [hq.2]
    by_cases e : u = x ∨ v = x
    · rw [if_pos (by omega)]; exact Or.inl rfl
    · rw [if_neg (by omega)]
      have u2 : u < M 7 3 := by rw [h3] at u1; split at u1 <;> omega
      have v2 : v < M 7 3 := by rw [h3] at v1; split at v1 <;> omega
      rcases b6 u v u0 u2 v0 v2 with z | z
      · exact Or.inl z
      · refine Or.inr ⟨z.1, z.2.keep (fun k => ?_) (fun k => hs _ (by omega) k) (fun k => hs _ (by omega) k) (fun k => (eT u.toNat (by omega) (by omega) k).1) (fun k => (eT u.toNat (by omega) (by omega) k).2) (fun k => (eT v.toNat (by omega) (by omega) k).1) (fun k => (eT v.toNat (by omega) (by omega) k).2) e4⟩
        by_cases ek : k = 2
        · rw [ek, hq.2, if_neg (by omega)]
        · exact hq.1 k ek
  · unfold qDC uPt qPg
    rw [h3, e4]
    refine Prod.ext ?_ (Prod.ext ?_ rfl)
    · funext c
      dsimp only
      by_cases ec : c = x
      · rw [if_pos ec, ec, if_pos (by split <;> omega), eX]
      · rw [if_neg ec]
        by_cases hc : 0 ≤ c ∧ c < M 7 3
        · rw [if_pos hc, if_pos (by split <;> omega)]
          exact qTx_eq (eT c.toNat (by omega) (by omega) 1).1 (fun k => (eT c.toNat (by omega) (by omega) k).2)
        · rw [if_neg hc, if_neg (by split <;> omega)]
    · funext c
      dsimp only
      by_cases ec : c = x
      · rw [if_pos ec, ec, if_pos (by split <;> omega), hl]
      · rw [if_neg ec]
        by_cases hc : 0 ≤ c ∧ c < M 7 3
        · rw [if_pos hc, if_pos (by split <;> omega)]
          exact (eT c.toNat (by omega) (by omega) 1).1
        · rw [if_neg hc, if_neg (by split <;> omega)]
section ZPs
variable {L : Nat} {M : zM} {D : qDt} {x y c s w p : Int}
theorem c_P_letter (hp : qPi M) : Ci L 1 zm_P_letter [rV 4, iV x] M (fun z M' => zSm (fun a => a = 5 ∨ a = 6) M M' ∧ qPi M' ∧ (z, qPg M') = if 32 ≤ x ∧ x ≤ 126 then (if M 5 1 < 24 then (M 5 1 + 1, uAp (qPg M) x) else (-104, qPg M)) else (-102, qPg M)) := by
  show wp L _ zm_P_letter 0 [rV 4, iV x] [] M _
  have hp1 := hp.1
  refine wp_iload_n (pc := 0) d_P_letter_0 rfl ?_
  refine wp_bipush (pc := 1) d_P_letter_1 rfl ?_
  refine wp_icmp_lt (tgt := 12) (pc := 3) d_P_letter_3 rfl (fun c3 => ?_) (fun c3 => ?_)
  · refine wp_bipush (pc := 12) d_P_letter_12 rfl ?_
    refine wp_ireturn (pc := 14) d_P_letter_14 rfl ?_
    exact ⟨_, rfl, zSm.rf, hp, by rw [if_neg (by omega)]⟩
  · refine wp_iload_n (pc := 6) d_P_letter_6 rfl ?_
    refine wp_bipush (pc := 7) d_P_letter_7 rfl ?_
    refine wp_icmp_le (tgt := 15) (pc := 9) d_P_letter_9 rfl (fun c9 => ?_) (fun c9 => ?_)
    · refine wp_aload_n (pc := 15) d_P_letter_15 rfl ?_
      refine wp_getR (pc := 16) d_P_letter_16 rfl (zk_4 L) zx_4_0 ?_
      refine wp_callV0f (pc := 19) d_P_letter_19 rfl rfl (zk_5 L) rfl rfl (c_Text_size (zTx_5 L)) ?_
      refine wp_bipush (pc := 22) d_P_letter_22 rfl ?_
      refine wp_icmp_lt (tgt := 30) (pc := 24) d_P_letter_24 rfl (fun c24 => ?_) (fun c24 => ?_)
      · refine wp_aload_n (pc := 30) d_P_letter_30 rfl ?_
        refine wp_getR (pc := 31) d_P_letter_31 rfl (zk_4 L) zx_4_0 ?_
        refine wp_iload_n (pc := 34) d_P_letter_34 rfl ?_
        refine wp_callV1v (pc := 35) d_P_letter_35 rfl rfl (zk_5 L) rfl rfl (c_Text_append (zTx_5 L) (by omega) (by omega)) (fun M35 h35 => ?_)
        refine wp_aload_n (pc := 38) d_P_letter_38 rfl ?_
        refine wp_getR (pc := 39) d_P_letter_39 rfl (zk_4 L) zx_4_0 ?_
        refine wp_callV0f (pc := 42) d_P_letter_42 rfl rfl (zk_5 L) rfl rfl (c_Text_size (zTx_5 L)) ?_
        refine wp_ireturn (pc := 45) d_P_letter_45 rfl ?_
        have e1 : M35 5 1 = M 5 1 + 1 := by rw [h35, zU_eq]
        have e2 : ∀ k : Nat, M35 6 k = if (k : Int) = M 5 1 then x else M 6 k := fun k => by
          rw [h35, zU_na (by decide)]
          by_cases e : (k : Int) = M 5 1
          · rw [if_pos e, show (M 5 1).toNat = k by omega, zU_eq]
          · rw [if_neg e, zU_nk (by omega)]
        refine ⟨_, rfl, ?_, ⟨by omega, fun k hk => ?_⟩, ?_⟩
        · rw [h35]; exact (zSm.rf.u (by omega)).u (by omega)
        · rw [e2]
          split
          · omega
          · exact hp.2 k (by omega)
        · rw [if_pos (by omega), if_pos (by omega), e1]
          refine Prod.ext rfl ?_
          show qPg M35 = _
          unfold qPg uAp qTx
          rw [e1]
          refine Prod.ext rfl ?_
          funext i
          dsimp only
          by_cases ei : 0 ≤ i ∧ i < M 5 1 + 1
          · rw [if_pos ei, e2]
            by_cases e : i = M 5 1
            · rw [if_pos e, if_pos (by omega)]
            · rw [if_neg e, if_neg (by omega), if_pos (by omega)]
          · rw [if_neg ei, if_neg (by omega), if_neg (by omega)]
      · refine wp_bipush (pc := 27) d_P_letter_27 rfl ?_
        refine wp_ireturn (pc := 29) d_P_letter_29 rfl ?_
        exact ⟨_, rfl, zSm.rf, hp, by rw [if_pos (by omega), if_neg (by omega)]⟩
    · refine wp_bipush (pc := 12) d_P_letter_12 rfl ?_
      refine wp_ireturn (pc := 14) d_P_letter_14 rfl ?_
      exact ⟨_, rfl, zSm.rf, hp, by rw [if_neg (by omega)]⟩
theorem c_P_blank (hp : qPi M) : Ci L 1 zm_P_blank [rV 4] M (fun z M' => zSm (fun a => a = 5) M M' ∧ qPi M' ∧ z = M 5 1 ∧ qPg M' = uEm) := by
  show wp L _ zm_P_blank 0 [rV 4, uV] [] M _
  refine wp_aload_n (pc := 0) d_P_blank_0 rfl ?_
  refine wp_getR (pc := 1) d_P_blank_1 rfl (zk_4 L) zx_4_0 ?_
  refine wp_callV0f (pc := 4) d_P_blank_4 rfl rfl (zk_5 L) rfl rfl (c_Text_size (zTx_5 L)) ?_
  refine wp_ist1 (pc := 7) d_P_blank_7 rfl ?_
  refine wp_aload_n (pc := 8) d_P_blank_8 rfl ?_
  refine wp_getR (pc := 9) d_P_blank_9 rfl (zk_4 L) zx_4_0 ?_
  refine wp_callV0v (pc := 12) d_P_blank_12 rfl rfl (zk_5 L) rfl rfl (c_Text_clear (zTx_5 L)) (fun M12 h12 => ?_)
  refine wp_iload_n (pc := 15) d_P_blank_15 rfl ?_
  refine wp_ireturn (pc := 16) d_P_blank_16 rfl ?_
  have e1 : M12 5 1 = 0 := by rw [h12, zU_eq]
  exact ⟨_, rfl, by rw [h12]; exact zSm.rf.u rfl, ⟨by omega, fun k hk => absurd hk (by omega)⟩, rfl, qPg_em e1⟩
theorem c_P_copy (h : qIC M) (hp : qPi M) (h7 : 0 ≤ M 4 7 ∧ M 4 7 ≤ 100000) (h5 : M 7 5 ≤ 100000) : Ci L 3 zm_P_copy [rV 4] M (fun z M' => zSm (fun a => 4 ≤ a ∧ a < 147) M M' ∧ M' 4 8 = M 4 8 ∧ qIC M' ∧ qPi M' ∧ 0 ≤ M' 7 5 ∧ M' 7 5 ≤ M 7 5 + 1 ∧ (¬ uWd (qPg M) ∧ z = -103 ∧ qDC M' = qDC M ∧ qPg M' = qPg M ∧ M' 4 7 = M 4 7 ∨ uWd (qPg M) ∧ ¬ M 7 3 < 6 ∧ z = -104 ∧ qDC M' = qDC M ∧ qPg M' = qPg M ∧ M' 4 7 = M 4 7 ∨ uWd (qPg M) ∧ M 7 3 < 6 ∧ z = M 7 3 ∧ qDC M' = uPt (qDC M) (M 7 3) (qPg M) ∧ qPg M' = uEm ∧ M' 4 7 = M 4 7 + 1)) := by
  show wp L _ zm_P_copy 0 [rV 4, uV] [] M _
  have hci := h.1
  obtain ⟨a1, a2, a3, a4, a5, a6⟩ := hci
  have hd := h.d
  have h75 := h.2.2.2
  refine wp_aload_n (pc := 0) d_P_copy_0 rfl ?_
  refine wp_getR (pc := 1) d_P_copy_1 rfl (zk_4 L) zx_4_0 ?_
  refine wp_callV0i (pc := 4) d_P_copy_4 rfl rfl (zk_5 L) rfl rfl (c_Text_isWord (zTx_5 L) hp.1.1 hp.1.2) (fun x4 M4 h4 => ?_)
  obtain ⟨j1, j2, j3⟩ := h4
  rw [j1]
  rw [qPg_wd] at j3
  refine wp_if_ne (tgt := 13) (pc := 7) d_P_copy_7 rfl (fun c7 => ?_) (fun c7 => ?_)
  · refine wp_aload_n (pc := 13) d_P_copy_13 rfl ?_
    refine wp_getR (pc := 14) d_P_copy_14 rfl (zk_4 L) zx_4_1 ?_
    refine wp_callV0f (pc := 17) d_P_copy_17 rfl rfl (zk_7 L) rfl rfl c_Co_size ?_
    refine wp_ist1 (pc := 20) d_P_copy_20 rfl ?_
    refine wp_iload_n (pc := 21) d_P_copy_21 rfl ?_
    refine wp_bipush (pc := 22) d_P_copy_22 rfl ?_
    refine wp_icmp_lt (tgt := 30) (pc := 24) d_P_copy_24 rfl (fun c24 => ?_) (fun c24 => ?_)
    · refine wp_aload_n (pc := 30) d_P_copy_30 rfl ?_
      refine wp_getR (pc := 31) d_P_copy_31 rfl (zk_4 L) zx_4_1 ?_
      refine wp_iload_n (pc := 34) d_P_copy_34 rfl ?_
      refine wp_aload_n (pc := 35) d_P_copy_35 rfl ?_
      refine wp_getR (pc := 36) d_P_copy_36 rfl (zk_4 L) zx_4_0 ?_
      refine wp_callV2v (pc := 39) d_P_copy_39 rfl rfl (zk_7 L) rfl rfl (c_Co_put (zTx_5 L) (x := M 7 3) (by omega) (by omega) (by omega) (by omega) (by omega) (by omega) rfl hp.1.1 hp.1.2) (fun M39 h39 => ?_)
      refine wp_aload_n (pc := 42) d_P_copy_42 rfl ?_
      refine wp_getR (pc := 43) d_P_copy_43 rfl (zk_4 L) zx_4_0 ?_
      obtain ⟨w1, w2, w3, w4, w5, w6, w7⟩ := h39
      have q := qIC_put h hp (by omega) (by omega) (by omega) w1 w2 w3 w4 w5 w6 w7
      refine wp_callV0v (pc := 46) d_P_copy_46 rfl rfl (zk_5 L) rfl rfl (c_Text_clear (zTx_5 L)) (fun M46 h46 => ?_)
      have e5 : M46 5 1 = 0 := by rw [h46, zU_eq]
      have k1 : zSm (fun a => a = 5) M39 M46 := by rw [h46]; exact zSm.rf.u rfl
      have k2 : zSm (fun a => a = 4) M46 (zU M46 4 7 (M46 4 7 + 1)) := zSm.rf.u rfl
      have q1 := q.1.keep k1 (fun a _ _ b _ => b)
      have q2 := q1.1.keep k2 (fun a _ b _ _ => b)
      have f4 : ∀ k, M46 4 k = M 4 k := fun k => (k1 4 (by decide) k).trans (w1 4 (by omega) k)
      have f5 : zU M46 4 7 (M46 4 7 + 1) 5 1 = 0 := (zU_na (by decide)).trans e5
      refine wp_aload_n (pc := 49) d_P_copy_49 rfl ?_
      refine wp_dup (pc := 50) d_P_copy_50 rfl ?_
      refine wp_getI (pc := 51) d_P_copy_51 rfl (by decide) (zk_4 L) ?_
      refine wp_iconst (pc := 54) d_P_copy_54 rfl ?_
      refine wp_iadd (pc := 55) d_P_copy_55 (by rw [f4]; omega) (by rw [f4]; omega) ?_
      refine wp_putI (pc := 56) d_P_copy_56 rfl (zk_4 L) (by decide) ?_
      refine wp_iload_n (pc := 59) d_P_copy_59 rfl ?_
      refine wp_ireturn (pc := 60) d_P_copy_60 rfl ?_
      refine ⟨_, rfl, ?_, ?_, q2.1, ⟨by rw [f5]; omega, fun k hk => absurd hk (by rw [f5]; omega)⟩, ?_, ?_, Or.inr (Or.inr ⟨j3.1 (by omega), by omega, rfl, ?_, qPg_em f5, ?_⟩)⟩
      · exact ((w1.up (fun a ha => by omega)).tr (k1.up (fun a ha => by omega))).tr (k2.up (fun a ha => by omega))
      · rw [zU_nk (by decide), f4]
      · rw [zU_na (by decide), k1 7 (by decide), w4]; omega
      · rw [zU_na (by decide), k1 7 (by decide), w4]; omega
      · rw [q2.2, q1.2]; exact q.2
      · rw [zU_eq, f4]
    · refine wp_bipush (pc := 27) d_P_copy_27 rfl ?_
      refine wp_ireturn (pc := 29) d_P_copy_29 rfl ?_
      exact ⟨_, rfl, zSm.rf, rfl, h, hp, h75, by omega, Or.inr (Or.inl ⟨j3.1 (by omega), by omega, rfl, rfl, rfl, rfl⟩)⟩
  · refine wp_bipush (pc := 10) d_P_copy_10 rfl ?_
    refine wp_ireturn (pc := 12) d_P_copy_12 rfl ?_
    exact ⟨_, rfl, zSm.rf, rfl, h, hp, h75, by omega, Or.inl ⟨fun z => by have := j3.2 z; omega, rfl, rfl, rfl, rfl⟩⟩
theorem c_P_correct (h : qIC M) (hp : qPi M) (h7 : 0 ≤ M 4 7 ∧ M 4 7 ≤ 100000) (h5 : M 7 5 ≤ 100000) : Ci L 3 zm_P_correct [rV 4, iV c] M (fun z M' => zSm (fun a => 4 ≤ a ∧ a < 147) M M' ∧ M' 4 8 = M 4 8 ∧ qIC M' ∧ qPi M' ∧ 0 ≤ M' 7 5 ∧ M' 7 5 ≤ M 7 5 + 1 ∧ (¬ (0 ≤ c ∧ c < M 7 3) ∧ z = -101 ∧ qDC M' = qDC M ∧ qPg M' = qPg M ∧ M' 4 7 = M 4 7 ∨ (0 ≤ c ∧ c < M 7 3) ∧ ¬ uWd (qPg M) ∧ z = -103 ∧ qDC M' = qDC M ∧ qPg M' = qPg M ∧ M' 4 7 = M 4 7 ∨ (0 ≤ c ∧ c < M 7 3) ∧ uWd (qPg M) ∧ z = (qDC M).2.1 c ∧ qDC M' = uPt (qDC M) c (qPg M) ∧ qPg M' = uEm ∧ M' 4 7 = M 4 7 + 1)) := by
  show wp L _ zm_P_correct 0 [rV 4, iV c, uV] [] M _
  have hci := h.1
  obtain ⟨a1, a2, a3, a4, a5, a6⟩ := hci
  have hd := h.d
  have h75 := h.2.2.2
  refine wp_aload_n (pc := 0) d_P_correct_0 rfl ?_
  refine wp_getR (pc := 1) d_P_correct_1 rfl (zk_4 L) zx_4_1 ?_
  refine wp_iload_n (pc := 4) d_P_correct_4 rfl ?_
  refine wp_callV1f (pc := 5) d_P_correct_5 rfl rfl (zk_7 L) rfl rfl c_Co_has ?_
  refine wp_if_ne (tgt := 14) (pc := 8) d_P_correct_8 rfl (fun c8 => ?_) (fun c8 => ?_)
  · have c8 := zb_ne0 c8
    refine wp_aload_n (pc := 14) d_P_correct_14 rfl ?_
    refine wp_getR (pc := 15) d_P_correct_15 rfl (zk_4 L) zx_4_0 ?_
    refine wp_callV0i (pc := 18) d_P_correct_18 rfl rfl (zk_5 L) rfl rfl (c_Text_isWord (zTx_5 L) hp.1.1 hp.1.2) (fun x18 M18 h18 => ?_)
    obtain ⟨j1, j2, j3⟩ := h18
    rw [j1]
    rw [qPg_wd] at j3
    refine wp_if_ne (tgt := 27) (pc := 21) d_P_correct_21 rfl (fun c21 => ?_) (fun c21 => ?_)
    · refine wp_aload_n (pc := 27) d_P_correct_27 rfl ?_
      refine wp_getR (pc := 28) d_P_correct_28 rfl (zk_4 L) zx_4_1 ?_
      refine wp_iload_n (pc := 31) d_P_correct_31 rfl ?_
      refine wp_callV1f (pc := 32) d_P_correct_32 rfl rfl (zk_7 L) rfl rfl (c_Co_text (by omega)) ?_
      rw [if_pos (by omega)]
      refine wp_callV0f (pc := 35) d_P_correct_35 rfl rfl (zTx_i L (show c.toNat < 6 by omega)).1 rfl rfl (c_Text_size (zTx_i L (show c.toNat < 6 by omega))) ?_
      refine wp_ist2 (pc := 38) d_P_correct_38 rfl ?_
      refine wp_aload_n (pc := 39) d_P_correct_39 rfl ?_
      refine wp_getR (pc := 40) d_P_correct_40 rfl (zk_4 L) zx_4_1 ?_
      refine wp_iload_n (pc := 43) d_P_correct_43 rfl ?_
      refine wp_aload_n (pc := 44) d_P_correct_44 rfl ?_
      refine wp_getR (pc := 45) d_P_correct_45 rfl (zk_4 L) zx_4_0 ?_
      refine wp_callV2v (pc := 48) d_P_correct_48 rfl rfl (zk_7 L) rfl rfl (c_Co_put (zTx_5 L) (x := c) (by omega) (by omega) (by omega) (by omega) (by omega) (by omega) rfl hp.1.1 hp.1.2) (fun M48 h48 => ?_)
      refine wp_aload_n (pc := 51) d_P_correct_51 rfl ?_
      refine wp_getR (pc := 52) d_P_correct_52 rfl (zk_4 L) zx_4_0 ?_
      obtain ⟨w1, w2, w3, w4, w5, w6, w7⟩ := h48
      have q := qIC_put h hp (by omega) (by omega) (by omega) w1 w2 w3 w4 w5 w6 w7
      refine wp_callV0v (pc := 55) d_P_correct_55 rfl rfl (zk_5 L) rfl rfl (c_Text_clear (zTx_5 L)) (fun M55 h55 => ?_)
      have e5 : M55 5 1 = 0 := by rw [h55, zU_eq]
      have k1 : zSm (fun a => a = 5) M48 M55 := by rw [h55]; exact zSm.rf.u rfl
      have k2 : zSm (fun a => a = 4) M55 (zU M55 4 7 (M55 4 7 + 1)) := zSm.rf.u rfl
      have q1 := q.1.keep k1 (fun a _ _ b _ => b)
      have q2 := q1.1.keep k2 (fun a _ b _ _ => b)
      have f4 : ∀ k, M55 4 k = M 4 k := fun k => (k1 4 (by decide) k).trans (w1 4 (by omega) k)
      have f5 : zU M55 4 7 (M55 4 7 + 1) 5 1 = 0 := (zU_na (by decide)).trans e5
      refine wp_aload_n (pc := 58) d_P_correct_58 rfl ?_
      refine wp_dup (pc := 59) d_P_correct_59 rfl ?_
      refine wp_getI (pc := 60) d_P_correct_60 rfl (by decide) (zk_4 L) ?_
      refine wp_iconst (pc := 63) d_P_correct_63 rfl ?_
      refine wp_iadd (pc := 64) d_P_correct_64 (by rw [f4]; omega) (by rw [f4]; omega) ?_
      refine wp_putI (pc := 65) d_P_correct_65 rfl (zk_4 L) (by decide) ?_
      refine wp_iload_n (pc := 68) d_P_correct_68 rfl ?_
      refine wp_ireturn (pc := 69) d_P_correct_69 rfl ?_
      refine ⟨_, rfl, ?_, ?_, q2.1, ⟨by rw [f5]; omega, fun k hk => absurd hk (by rw [f5]; omega)⟩, ?_, ?_, Or.inr (Or.inr ⟨c8, j3.1 (by omega), ?_, ?_, qPg_em f5, ?_⟩)⟩
      · exact ((w1.up (fun a ha => by omega)).tr (k1.up (fun a ha => by omega))).tr (k2.up (fun a ha => by omega))
      · rw [zU_nk (by decide), f4]
      · rw [zU_na (by decide), k1 7 (by decide), w4]; omega
      · rw [zU_na (by decide), k1 7 (by decide), w4]; omega
      · rw [qDC_2 c8.1 c8.2]
      · rw [q2.2, q1.2]; exact q.2
      · rw [zU_eq, f4]
    · refine wp_bipush (pc := 24) d_P_correct_24 rfl ?_
      refine wp_ireturn (pc := 26) d_P_correct_26 rfl ?_
      exact ⟨_, rfl, zSm.rf, rfl, h, hp, h75, by omega, Or.inr (Or.inl ⟨c8, fun z => by have := j3.2 z; omega, rfl, rfl, rfl, rfl⟩)⟩
  · have c8 := zb_eq0 (Decidable.of_not_not c8)
    refine wp_bipush (pc := 11) d_P_correct_11 rfl ?_
    refine wp_ireturn (pc := 13) d_P_correct_13 rfl ?_
    exact ⟨_, rfl, zSm.rf, rfl, h, hp, h75, by omega, Or.inl ⟨c8, rfl, rfl, rfl, rfl⟩⟩
theorem c_P_drop (h : qIC M) (h5 : M 7 5 ≤ 100000) : Ci L 3 zm_P_drop [rV 4] M (fun z M' => zSm (fun a => 7 ≤ a ∧ a < 147) M M' ∧ qIC M' ∧ 0 ≤ M' 7 5 ∧ M' 7 5 ≤ M 7 5 + 1 ∧ (M 7 3 = 0 ∧ z = -103 ∧ qDC M' = qDC M ∨ 0 < M 7 3 ∧ z = M 7 3 - 1 ∧ qDC M' = uDr (qDC M))) := by
  show wp L _ zm_P_drop 0 [rV 4] [] M _
  have hci := h.1
  obtain ⟨a1, a2, a3, a4, a5, a6⟩ := hci
  have hd := h.d
  have h75 := h.2.2.2
  refine wp_aload_n (pc := 0) d_P_drop_0 rfl ?_
  refine wp_getR (pc := 1) d_P_drop_1 rfl (zk_4 L) zx_4_1 ?_
  refine wp_callV0f (pc := 4) d_P_drop_4 rfl rfl (zk_7 L) rfl rfl c_Co_size ?_
  refine wp_if_gt (tgt := 13) (pc := 7) d_P_drop_7 rfl (fun c7 => ?_) (fun c7 => ?_)
  · refine wp_aload_n (pc := 13) d_P_drop_13 rfl ?_
    refine wp_getR (pc := 14) d_P_drop_14 rfl (zk_4 L) zx_4_1 ?_
    refine wp_callV0v (pc := 17) d_P_drop_17 rfl rfl (zk_7 L) rfl rfl (c_Co_removeLast (by omega) (by omega) (by omega)) (fun M17 h17 => ?_)
    obtain ⟨w1, w2, w3, w4, w5⟩ := h17
    refine wp_aload_n (pc := 20) d_P_drop_20 rfl ?_
    refine wp_getR (pc := 21) d_P_drop_21 rfl (zk_4 L) zx_4_1 ?_
    refine wp_callV0f (pc := 24) d_P_drop_24 rfl rfl (zk_7 L) rfl rfl c_Co_size ?_
    refine wp_ireturn (pc := 27) d_P_drop_27 rfl ?_
    have e4 : M17 7 4 = M 7 4 := w4 4 (by decide) (by decide)
    have e11 : M17 132 11 = M 132 11 := w1 132 (by omega) 11
    have eT : ∀ c : Nat, (c : Int) < M 7 3 - 1 → ∀ k, M17 (12 + 2 * c) k = M (12 + 2 * c) k ∧ M17 (12 + 2 * c + 1) k = M (12 + 2 * c + 1) k := fun c c1 k => ⟨w1 _ (by omega) k, w1 _ (by omega) k⟩
    refine ⟨_, rfl, w1.up (fun a ha => by omega), ⟨⟨a1.keep w1 (fun a ha => by omega), by rw [w2]; omega, by rw [e4]; exact a3, fun c hc => ?_, fun p hp => by rw [w1 _ (by omega)]; exact a5 p hp, fun u v u0 u1 v0 v1 => ?_⟩, fun z => absurd z (by rw [e11, w3]; have := h.2.2.1; omega), by rw [e11, w3]; have := h.2.2.1; omega, by rw [w3]; omega⟩, by rw [w3]; omega, by rw [w3]; omega, Or.inr ⟨by omega, w2, ?_⟩⟩
    · rw [w2] at hc
      have := a4 c (by omega)
      unfold qTk at this ⊢
      rw [(eT c hc 1).1]
      exact ⟨this.1, this.2.1, fun k hk2 => by rw [(eT c hc k).2]; exact this.2.2 k hk2⟩
    · rw [w2] at u1 v1
      rw [w1 (24 + 3 * (u * 6 + v).toNat) (by omega)]
      exact (a6 u v u0 (by omega) v0 (by omega)).imp id (fun z => ⟨z.1, z.2.keep (fun k => w1 _ (by omega) k) (fun k => w1 _ (by omega) k) (fun k => w1 _ (by omega) k) (fun k => (eT u.toNat (by omega) k).1) (fun k => (eT u.toNat (by omega) k).2) (fun k => (eT v.toNat (by omega) k).1) (fun k => (eT v.toNat (by omega) k).2) e4⟩)
    · unfold qDC uDr
      rw [w2, e4]
      refine Prod.ext ?_ (Prod.ext ?_ rfl)
      · funext c
        dsimp only
        by_cases hc : 0 ≤ c ∧ c < M 7 3 - 1
        · rw [if_pos hc, if_pos hc, if_pos (by omega)]
          exact qTx_eq (eT c.toNat (by omega) 1).1 (fun k => (eT c.toNat (by omega) k).2)
        · rw [if_neg hc, if_neg hc]
      · funext c
        dsimp only
        by_cases hc : 0 ≤ c ∧ c < M 7 3 - 1
        · rw [if_pos hc, if_pos hc, if_pos (by omega)]
          exact (eT c.toNat (by omega) 1).1
        · rw [if_neg hc, if_neg hc]
  · refine wp_bipush (pc := 10) d_P_drop_10 rfl ?_
    refine wp_ireturn (pc := 12) d_P_drop_12 rfl ?_
    exact ⟨_, rfl, zSm.rf, h, h75, by omega, Or.inl ⟨by omega, rfl, rfl⟩⟩
theorem c_P_band (h : qIC M) (h5 : M 7 5 ≤ 100000) : Ci L 3 zm_P_band [rV 4, iV x] M (fun z M' => zSm (fun a => 7 ≤ a ∧ a < 147) M M' ∧ qIC M' ∧ 0 ≤ M' 7 5 ∧ M' 7 5 ≤ M 7 5 + 1 ∧ (¬ (0 ≤ x ∧ x ≤ 9) ∧ z = -102 ∧ qDC M' = qDC M ∨ (0 ≤ x ∧ x ≤ 9) ∧ z = M 7 4 ∧ qDC M' = uBd (qDC M) x)) := by
  show wp L _ zm_P_band 0 [rV 4, iV x, uV] [] M _
  have hci := h.1
  obtain ⟨a1, a2, a3, a4, a5, a6⟩ := hci
  have hd := h.d
  have h75 := h.2.2.2
  refine wp_iload_n (pc := 0) d_P_band_0 rfl ?_
  refine wp_if_lt (tgt := 10) (pc := 1) d_P_band_1 rfl (fun c1 => ?_) (fun c1 => ?_)
  · refine wp_bipush (pc := 10) d_P_band_10 rfl ?_
    refine wp_ireturn (pc := 12) d_P_band_12 rfl ?_
    exact ⟨_, rfl, zSm.rf, h, h75, by omega, Or.inl ⟨by omega, rfl, rfl⟩⟩
  · refine wp_iload_n (pc := 4) d_P_band_4 rfl ?_
    refine wp_bipush (pc := 5) d_P_band_5 rfl ?_
    refine wp_icmp_le (tgt := 13) (pc := 7) d_P_band_7 rfl (fun c7 => ?_) (fun c7 => ?_)
    · refine wp_aload_n (pc := 13) d_P_band_13 rfl ?_
      refine wp_getR (pc := 14) d_P_band_14 rfl (zk_4 L) zx_4_1 ?_
      refine wp_callV0f (pc := 17) d_P_band_17 rfl rfl (zk_7 L) rfl rfl c_Co_reach ?_
      refine wp_ist2 (pc := 20) d_P_band_20 rfl ?_
      refine wp_aload_n (pc := 21) d_P_band_21 rfl ?_
      refine wp_getR (pc := 22) d_P_band_22 rfl (zk_4 L) zx_4_1 ?_
      refine wp_iload_n (pc := 25) d_P_band_25 rfl ?_
      refine wp_callV1v (pc := 26) d_P_band_26 rfl rfl (zk_7 L) rfl rfl (c_Co_setReach (by omega)) (fun M26 h26 => ?_)
      refine wp_iload_n (pc := 29) d_P_band_29 rfl ?_
      refine wp_ireturn (pc := 30) d_P_band_30 rfl ?_
      rcases h26 with ⟨w0, w1⟩ | ⟨w0, w1, w2, w3, w4, w5⟩
      · subst w1
        exact ⟨_, rfl, zSm.rf, h, h75, by omega, Or.inr ⟨by omega, rfl, by rw [w0]; rfl⟩⟩
      · have e11 : M26 132 11 = M 132 11 := w1 132 (by omega) 11
        have e3 : M26 7 3 = M 7 3 := w5 3 (by decide) (by decide)
        have eT : ∀ c : Nat, c < 6 → ∀ k, M26 (12 + 2 * c) k = M (12 + 2 * c) k ∧ M26 (12 + 2 * c + 1) k = M (12 + 2 * c + 1) k := fun c c1 k => ⟨w1 _ (by omega) k, w1 _ (by omega) k⟩
        refine ⟨_, rfl, w1.up (fun a ha => by omega), ⟨⟨a1.keep w1 (fun a ha => by omega), by rw [e3]; exact a2, by rw [w3]; omega, fun c hc => ?_, fun p hp => Or.inl (w2 p hp).2, fun u v u0 u1 v0 v1 => Or.inl (w2 _ (by rw [e3] at u1 v1; omega)).2⟩, fun z => absurd z (by rw [e11, w4]; have := h.2.2.1; omega), by rw [e11, w4]; have := h.2.2.1; omega, by rw [w4]; omega⟩, by rw [w4]; omega, by rw [w4]; omega, Or.inr ⟨by omega, rfl, ?_⟩⟩
        · rw [e3] at hc
          have := a4 c (by omega)
          unfold qTk at this ⊢
          rw [(eT c (by omega) 1).1]
          exact ⟨this.1, this.2.1, fun k hk2 => by rw [(eT c (by omega) k).2]; exact this.2.2 k hk2⟩
        · unfold qDC uBd
          rw [w3, e3]
          refine Prod.ext ?_ (Prod.ext ?_ rfl)
          · funext c
            dsimp only
            by_cases hc : 0 ≤ c ∧ c < M 7 3
            · rw [if_pos hc, if_pos hc]
              exact qTx_eq (eT c.toNat (by omega) 1).1 (fun k => (eT c.toNat (by omega) k).2)
            · rw [if_neg hc, if_neg hc]
          · funext c
            dsimp only
            by_cases hc : 0 ≤ c ∧ c < M 7 3
            · rw [if_pos hc, if_pos hc]
              exact (eT c.toNat (by omega) 1).1
            · rw [if_neg hc, if_neg hc]
    · refine wp_bipush (pc := 10) d_P_band_10 rfl ?_
      refine wp_ireturn (pc := 12) d_P_band_12 rfl ?_
      exact ⟨_, rfl, zSm.rf, h, h75, by omega, Or.inl ⟨by omega, rfl, rfl⟩⟩
end ZPs
