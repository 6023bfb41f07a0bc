/-! StopPress: see, unsee, seen, count -/
abbrev qYt := Int × (Int → Int → Int)
def qYC (M : zM) : qYt := (M 147 1, fun i k => if (0 ≤ i ∧ i < M 147 1) ∧ 0 ≤ k ∧ k < 4 then M (149 + i.toNat) k.toNat else -1)
def uAdd (Y : qYt) (a b c d : Int) : qYt := (Y.1 + 1, fun i k => if i = Y.1 then (if k = 0 then a else if k = 1 then b else if k = 2 then c else if k = 3 then d else -1) else Y.2 i k)
def uRm (Y : qYt) (j : Int) : qYt := (Y.1 - 1, fun i k => if 0 ≤ i ∧ i < Y.1 - 1 then (if i < j then Y.2 i k else Y.2 (i + 1) k) else -1)
def uCl (Y : qYt) (x y z : Int) : Bool := qEx (fun k => decide (Y.2 k 1 = y ∧ (Y.2 k 0 = x ∨ Y.2 k 2 = z))) Y.1.toNat
/-- what holds of the sightings -/
def qYi (Y : qYt) : Prop := (0 ≤ Y.1 ∧ Y.1 ≤ 12) ∧ (∀ i : Int, 0 ≤ i → i < Y.1 → (0 ≤ Y.2 i 0 ∧ Y.2 i 0 < 6) ∧ (0 ≤ Y.2 i 1 ∧ Y.2 i 1 < 6) ∧ (0 ≤ Y.2 i 2 ∧ Y.2 i 2 ≤ 9) ∧ 1 ≤ Y.2 i 3 ∧ Y.2 i 3 ≤ 9) ∧ ∀ i j : Int, 0 ≤ i → i < Y.1 → 0 ≤ j → j < Y.1 → Y.2 i 1 = Y.2 j 1 → Y.2 i 0 = Y.2 j 0 → i = j
theorem qYC_1 {M : zM} {i k : Int} (h0 : 0 ≤ i) (h1 : i < M 147 1) (k0 : 0 ≤ k) (k1 : k < 4) : (qYC M).2 i k = M (149 + i.toNat) k.toNat := if_pos ⟨⟨h0, h1⟩, k0, k1⟩
theorem qYC_eq {M M' : zM} (hl : M 147 1 ≤ 12) (h1 : M' 147 1 = M 147 1) (h2 : ∀ a, 149 ≤ a → a < 161 → ∀ k, M' a k = M a k) : qYC M' = qYC M := by
  unfold qYC
  rw [h1]
  refine Prod.ext rfl ?_
  funext i k
  dsimp only
  by_cases e : (0 ≤ i ∧ i < M 147 1) ∧ 0 ≤ k ∧ k < 4
  · rw [if_pos e, if_pos e, h2 _ (by omega) (by omega)]
  · rw [if_neg e, if_neg e]
theorem uAdd_i {Y : qYt} {a b c d : Int} (h : qYi Y) (hn : Y.1 < 12) (h1 : 0 ≤ a ∧ a < 6) (h2 : 0 ≤ b ∧ b < 6) (h3 : 0 ≤ c ∧ c ≤ 9) (h4 : 1 ≤ d ∧ d ≤ 9) (hc : uCl Y a b c = false) : qYi (uAdd Y a b c d) := by
  have hno : ∀ k : Int, 0 ≤ k → k < Y.1 → Y.2 k 1 = b → ¬ Y.2 k 0 = a := by
    intro k k0 k1 kb ka
    have := (qEx_iff (fun k => decide (Y.2 k 1 = b ∧ (Y.2 k 0 = a ∨ Y.2 k 2 = c))) Y.1.toNat).2 ⟨k, k0, by omega, decide_eq_true ⟨kb, Or.inl ka⟩⟩
    rw [show qEx (fun k => decide (Y.2 k 1 = b ∧ (Y.2 k 0 = a ∨ Y.2 k 2 = c))) Y.1.toNat = uCl Y a b c from rfl, hc] at this
    exact absurd this (by decide)
  have eq : ∀ i k : Int, ¬ i = Y.1 → (uAdd Y a b c d).2 i k = Y.2 i k := fun i k hi => if_neg hi
  have e0 : (uAdd Y a b c d).2 Y.1 0 = a := (if_pos rfl).trans (if_pos rfl)
  have e1 : (uAdd Y a b c d).2 Y.1 1 = b := (if_pos rfl).trans ((if_neg (by decide)).trans (if_pos rfl))
  have e2 : (uAdd Y a b c d).2 Y.1 2 = c := (if_pos rfl).trans ((if_neg (by decide)).trans ((if_neg (by decide)).trans (if_pos rfl)))
  have e3 : (uAdd Y a b c d).2 Y.1 3 = d := (if_pos rfl).trans ((if_neg (by decide)).trans ((if_neg (by decide)).trans ((if_neg (by decide)).trans (if_pos rfl))))
  have en : (uAdd Y a b c d).1 = Y.1 + 1 := rfl
  obtain ⟨g1, g2, g3⟩ := h
  refine ⟨by rw [en]; omega, fun i i0 i1 => ?_, fun i j i0 i1 j0 j1 => ?_⟩
  · rw [en] at i1
    by_cases e : i = Y.1
    · rw [e, e0, e1, e2, e3]; exact ⟨h1, h2, h3, h4⟩
    · rw [eq i _ e, eq i _ e, eq i _ e, eq i _ e]; exact g2 i i0 (by omega)
  · rw [en] at i1 j1
    by_cases e : i = Y.1
    · by_cases e' : j = Y.1
      · intro _ _; omega
      · rw [e, e0, e1, eq j _ e', eq j _ e']
        intro x1 x2
        exact absurd x2.symm (hno j j0 (by omega) x1.symm)
    · by_cases e' : j = Y.1
      · rw [e', e0, e1, eq i _ e, eq i _ e]
        intro x1 x2
        exact absurd x2 (hno i i0 (by omega) x1)
      · rw [eq i _ e, eq i _ e, eq j _ e', eq j _ e']
        exact g3 i j i0 (by omega) j0 (by omega)
theorem uRm_i {Y : qYt} {j : Int} (h : qYi Y) (j0 : 0 ≤ j) (j1 : j < Y.1) : qYi (uRm Y j) := by
  obtain ⟨g1, g2, g3⟩ := h
  have en : (uRm Y j).1 = Y.1 - 1 := rfl
  have eq : ∀ i k : Int, 0 ≤ i → i < Y.1 - 1 → (uRm Y j).2 i k = Y.2 (if i < j then i else i + 1) k := fun i k i0 i1 => by
    show (if 0 ≤ i ∧ i < Y.1 - 1 then (if i < j then Y.2 i k else Y.2 (i + 1) k) else -1) = _
    rw [if_pos ⟨i0, i1⟩]
    split <;> rfl
  refine ⟨by rw [en]; omega, fun i i0 i1 => ?_, fun i k i0 i1 k0 k1 => ?_⟩
  · rw [en] at i1
    rw [eq i _ i0 i1, eq i _ i0 i1, eq i _ i0 i1, eq i _ i0 i1]
    exact g2 _ (by split <;> omega) (by split <;> omega)
  · rw [en] at i1 k1
    rw [eq i _ i0 i1, eq i _ i0 i1, eq k _ k0 k1, eq k _ k0 k1]
    intro x1 x2
    have := g3 _ _ (by split <;> omega) (by split <;> omega) (by split <;> omega) (by split <;> omega) x1 x2
    split at this <;> split at this <;> omega
def xCt (D : qDt) (Y : qYt) (g : qPt) (a b w : Int) : Int := if w = 0 then D.2.2.2 else if w = 1 then Y.1 else if w = 2 then g.1 else if w = 3 then D.2.2.1 else if w = 4 then a else if w = 5 then b else -102
def xSn (Y : qYt) (i w : Int) : Int := if 0 ≤ i ∧ i < Y.1 then (if 0 ≤ w ∧ w ≤ 3 then Y.2 i w else -102) else -101
section ZPy
variable {L : Nat} {M : zM} {x y z w c p s : Int}
theorem c_P_seen (h : qYi (qYC M)) : Cf L 2 zm_P_seen [rV 4, iV x, iV w] M (iV (xSn (qYC M) x w)) M := by
  show wp L _ zm_P_seen 0 [rV 4, iV x, iV w] [] M _
  have h1 : 0 ≤ M 147 1 ∧ M 147 1 ≤ 12 := h.1
  have e1 : (qYC M).1 = M 147 1 := rfl
  refine wp_aload_n (pc := 0) d_P_seen_0 rfl ?_
  refine wp_getR (pc := 1) d_P_seen_1 rfl (zk_4 L) zx_4_3 ?_
  refine wp_iload_n (pc := 4) d_P_seen_4 rfl ?_
  refine wp_callV1f (pc := 5) d_P_seen_5 rfl rfl (zk_147 L) rfl rfl c_Sg_has ?_
  refine wp_if_ne (tgt := 14) (pc := 8) d_P_seen_8 rfl (fun c8 => ?_) (fun c8 => ?_)
  · have c8 := zb_ne0 c8
    refine wp_iload_n (pc := 14) d_P_seen_14 rfl ?_
    refine wp_if_lt (tgt := 23) (pc := 15) d_P_seen_15 rfl (fun c15 => ?_) (fun c15 => ?_)
    · refine wp_bipush (pc := 23) d_P_seen_23 rfl ?_
      refine wp_ireturn (pc := 25) d_P_seen_25 rfl ?_
      exact ⟨by unfold xSn; rw [if_pos (by omega), if_neg (by omega)], rfl⟩
    · refine wp_iload_n (pc := 18) d_P_seen_18 rfl ?_
      refine wp_iconst (pc := 19) d_P_seen_19 rfl ?_
      refine wp_icmp_lt (tgt := 26) (pc := 20) d_P_seen_20 rfl (fun c20 => ?_) (fun c20 => ?_)
      · refine wp_aload_n (pc := 26) d_P_seen_26 rfl ?_
        refine wp_getR (pc := 27) d_P_seen_27 rfl (zk_4 L) zx_4_3 ?_
        refine wp_iload_n (pc := 30) d_P_seen_30 rfl ?_
        refine wp_iload_n (pc := 31) d_P_seen_31 rfl ?_
        refine wp_callV2f (pc := 32) d_P_seen_32 rfl rfl (zk_147 L) rfl rfl (c_Sg_get h1.2) ?_
        refine wp_ireturn (pc := 35) d_P_seen_35 rfl ?_
        exact ⟨by unfold xSn; rw [if_pos (show 0 ≤ x ∧ x < (qYC M).1 by omega), if_pos (show 0 ≤ w ∧ w ≤ 3 by omega)]; rfl, rfl⟩
      · refine wp_bipush (pc := 23) d_P_seen_23 rfl ?_
        refine wp_ireturn (pc := 25) d_P_seen_25 rfl ?_
        exact ⟨by unfold xSn; rw [if_pos (by omega), if_neg (by omega)], rfl⟩
  · have c8 := zb_eq0 (Decidable.of_not_not c8)
    refine wp_bipush (pc := 11) d_P_seen_11 rfl ?_
    refine wp_ireturn (pc := 13) d_P_seen_13 rfl ?_
    exact ⟨by unfold xSn; rw [if_neg (by omega)], rfl⟩
theorem c_P_see (h : qYi (qYC M)) (hc : 0 ≤ M 147 2 ∧ M 147 2 ≤ 100000) : Ci L 1 zm_P_see [rV 4, iV x, iV y, iV z, iV w] M (fun v M' => (M' = M ∧ (¬ ((0 ≤ x ∧ x < 6) ∧ (0 ≤ y ∧ y < 6) ∧ (0 ≤ z ∧ z ≤ 9) ∧ 1 ≤ w ∧ w ≤ 9) ∧ v = -102 ∨ ((0 ≤ x ∧ x < 6) ∧ (0 ≤ y ∧ y < 6) ∧ (0 ≤ z ∧ z ≤ 9) ∧ 1 ≤ w ∧ w ≤ 9) ∧ (uCl (qYC M) x y z = true ∧ v = -103 ∨ uCl (qYC M) x y z = false ∧ ¬ (qYC M).1 < 12 ∧ v = -104))) ∨ (zSm (fun a => 147 ≤ a ∧ a < 161) M M' ∧ M' 147 2 = M 147 2 + 1 ∧ ((0 ≤ x ∧ x < 6) ∧ (0 ≤ y ∧ y < 6) ∧ (0 ≤ z ∧ z ≤ 9) ∧ 1 ≤ w ∧ w ≤ 9) ∧ uCl (qYC M) x y z = false ∧ (qYC M).1 < 12 ∧ v = (qYC M).1 ∧ qYC M' = uAdd (qYC M) x y z w ∧ qYi (qYC M'))) := by
  show wp L _ zm_P_see 0 [rV 4, iV x, iV y, iV z, iV w, uV] [] M _
  have h1 : 0 ≤ M 147 1 ∧ M 147 1 ≤ 12 := h.1
  have e1 : (qYC M).1 = M 147 1 := rfl
  refine wp_iload_n (pc := 0) d_P_see_0 rfl ?_
  refine wp_if_lt (tgt := 20) (pc := 1) d_P_see_1 rfl (fun c1 => ?_) (fun c1 => ?_)
  · refine wp_bipush (pc := 20) d_P_see_20 rfl ?_
    refine wp_ireturn (pc := 22) d_P_see_22 rfl ?_
    exact ⟨_, rfl, Or.inl ⟨rfl, Or.inl ⟨by omega, rfl⟩⟩⟩
  · refine wp_iload_n (pc := 4) d_P_see_4 rfl ?_
    refine wp_bipush (pc := 5) d_P_see_5 rfl ?_
    refine wp_icmp_ge (tgt := 20) (pc := 7) d_P_see_7 rfl (fun c7 => ?_) (fun c7 => ?_)
    · refine wp_bipush (pc := 20) d_P_see_20 rfl ?_
      refine wp_ireturn (pc := 22) d_P_see_22 rfl ?_
      exact ⟨_, rfl, Or.inl ⟨rfl, Or.inl ⟨by omega, rfl⟩⟩⟩
    · refine wp_iload_n (pc := 10) d_P_see_10 rfl ?_
      refine wp_if_lt (tgt := 20) (pc := 11) d_P_see_11 rfl (fun c11 => ?_) (fun c11 => ?_)
      · refine wp_bipush (pc := 20) d_P_see_20 rfl ?_
        refine wp_ireturn (pc := 22) d_P_see_22 rfl ?_
        exact ⟨_, rfl, Or.inl ⟨rfl, Or.inl ⟨by omega, rfl⟩⟩⟩
      · refine wp_iload_n (pc := 14) d_P_see_14 rfl ?_
        refine wp_bipush (pc := 15) d_P_see_15 rfl ?_
        refine wp_icmp_lt (tgt := 23) (pc := 17) d_P_see_17 rfl (fun c17 => ?_) (fun c17 => ?_)
        · refine wp_iload_n (pc := 23) d_P_see_23 rfl ?_
          refine wp_if_lt (tgt := 46) (pc := 24) d_P_see_24 rfl (fun c24 => ?_) (fun c24 => ?_)
          · refine wp_bipush (pc := 46) d_P_see_46 rfl ?_
            refine wp_ireturn (pc := 48) d_P_see_48 rfl ?_
            exact ⟨_, rfl, Or.inl ⟨rfl, Or.inl ⟨by omega, rfl⟩⟩⟩
          · refine wp_iload_n (pc := 27) d_P_see_27 rfl ?_
            refine wp_bipush (pc := 28) d_P_see_28 rfl ?_
            refine wp_icmp_gt (tgt := 46) (pc := 30) d_P_see_30 rfl (fun c30 => ?_) (fun c30 => ?_)
            · refine wp_bipush (pc := 46) d_P_see_46 rfl ?_
              refine wp_ireturn (pc := 48) d_P_see_48 rfl ?_
              exact ⟨_, rfl, Or.inl ⟨rfl, Or.inl ⟨by omega, rfl⟩⟩⟩
            · refine wp_iload (pc := 33) d_P_see_33 rfl ?_
              refine wp_iconst (pc := 35) d_P_see_35 rfl ?_
              refine wp_icmp_lt (tgt := 46) (pc := 36) d_P_see_36 rfl (fun c36 => ?_) (fun c36 => ?_)
              · refine wp_bipush (pc := 46) d_P_see_46 rfl ?_
                refine wp_ireturn (pc := 48) d_P_see_48 rfl ?_
                exact ⟨_, rfl, Or.inl ⟨rfl, Or.inl ⟨by omega, rfl⟩⟩⟩
              · refine wp_iload (pc := 39) d_P_see_39 rfl ?_
                refine wp_bipush (pc := 41) d_P_see_41 rfl ?_
                refine wp_icmp_le (tgt := 49) (pc := 43) d_P_see_43 rfl (fun c43 => ?_) (fun c43 => ?_)
                · refine wp_aload_n (pc := 49) d_P_see_49 rfl ?_
                  refine wp_getR (pc := 50) d_P_see_50 rfl (zk_4 L) zx_4_3 ?_
                  refine wp_iload_n (pc := 53) d_P_see_53 rfl ?_
                  refine wp_iload_n (pc := 54) d_P_see_54 rfl ?_
                  refine wp_iload_n (pc := 55) d_P_see_55 rfl ?_
                  refine wp_callV3i (pc := 56) d_P_see_56 rfl rfl (zk_147 L) rfl rfl (c_Sg_clash h1.1 h1.2) (fun x56 M56 h56 => ?_)
                  obtain ⟨j1, j2, j3⟩ := h56
                  rw [j1]
                  have hcl : x56 = 1 ↔ uCl (qYC M) x y z = true := by
                    rw [j3]
                    unfold uCl
                    rw [qEx_iff]
                    constructor
                    · rintro ⟨k, k0, k1, k2, k3⟩
                      exact ⟨k, k0, by omega, decide_eq_true (by rw [qYC_1 k0 k1 (by decide) (by decide), qYC_1 k0 k1 (by decide) (by decide), qYC_1 k0 k1 (by decide) (by decide)]; exact ⟨k2, k3⟩)⟩
                    · rintro ⟨k, k0, k1, k2⟩
                      have k2 := of_decide_eq_true k2
                      have k1 : k < M 147 1 := by omega
                      rw [qYC_1 k0 k1 (by decide) (by decide), qYC_1 k0 k1 (by decide) (by decide), qYC_1 k0 k1 (by decide) (by decide)] at k2
                      exact ⟨k, k0, k1, k2.1, k2.2⟩
                  refine wp_if_eq (tgt := 65) (pc := 59) d_P_see_59 rfl (fun c59 => ?_) (fun c59 => ?_)
                  · refine wp_aload_n (pc := 65) d_P_see_65 rfl ?_
                    refine wp_getR (pc := 66) d_P_see_66 rfl (zk_4 L) zx_4_3 ?_
                    refine wp_callV0f (pc := 69) d_P_see_69 rfl rfl (zk_147 L) rfl rfl c_Sg_size ?_
                    refine wp_ist5 (pc := 72) d_P_see_72 rfl ?_
                    refine wp_iload (pc := 74) d_P_see_74 rfl ?_
                    refine wp_bipush (pc := 76) d_P_see_76 rfl ?_
                    refine wp_icmp_lt (tgt := 84) (pc := 78) d_P_see_78 rfl (fun c78 => ?_) (fun c78 => ?_)
                    · refine wp_aload_n (pc := 84) d_P_see_84 rfl ?_
                      refine wp_getR (pc := 85) d_P_see_85 rfl (zk_4 L) zx_4_3 ?_
                      refine wp_iload_n (pc := 88) d_P_see_88 rfl ?_
                      refine wp_iload_n (pc := 89) d_P_see_89 rfl ?_
                      refine wp_iload_n (pc := 90) d_P_see_90 rfl ?_
                      refine wp_iload (pc := 91) d_P_see_91 rfl ?_
                      refine wp_callV4v (pc := 93) d_P_see_93 rfl rfl (zk_147 L) rfl rfl (c_Sg_add h1.1 (by omega) hc) (fun M93 h93 => ?_)
                      refine wp_iload (pc := 96) d_P_see_96 rfl ?_
                      refine wp_ireturn (pc := 98) d_P_see_98 rfl ?_
                      obtain ⟨w1, w2, w3, w4, w5, w6, w7, w8⟩ := h93
                      have hno : uCl (qYC M) x y z = false := Bool.eq_false_iff.2 (fun z => by have := hcl.2 z; omega)
                      have hY : qYC M93 = uAdd (qYC M) x y z w := by
                        unfold qYC uAdd
                        rw [w3]
                        refine Prod.ext rfl ?_
                        funext i k
                        dsimp only
                        by_cases e : i = M 147 1
                        · rw [if_pos e]
                          by_cases ek : 0 ≤ k ∧ k < 4
                          · rw [if_pos (by omega), e]
                            rcases (show k = 0 ∨ k = 1 ∨ k = 2 ∨ k = 3 by omega) with q | q | q | q
                            · rw [q]; exact w5
                            · rw [q]; exact w6
                            · rw [q]; exact w7
                            · rw [q]; exact w8
                          · rw [if_neg (by omega), if_neg (by omega), if_neg (by omega), if_neg (by omega), if_neg (by omega)]
                        · rw [if_neg e]
                          by_cases ei : (0 ≤ i ∧ i < M 147 1) ∧ 0 ≤ k ∧ k < 4
                          · rw [if_pos ei, if_pos (by omega), w1 _ (by omega)]
                          · rw [if_neg ei, if_neg (by omega)]
                      refine ⟨_, rfl, Or.inr ⟨w1.up (fun a ha => by omega), w4, by omega, hno, by omega, rfl, hY, ?_⟩⟩
                      rw [hY]
                      exact uAdd_i h (by omega) (by omega) (by omega) (by omega) (by omega) hno
                    · refine wp_bipush (pc := 81) d_P_see_81 rfl ?_
                      refine wp_ireturn (pc := 83) d_P_see_83 rfl ?_
                      exact ⟨_, rfl, Or.inl ⟨rfl, Or.inr ⟨by omega, Or.inr ⟨Bool.eq_false_iff.2 (fun z => by have := hcl.2 z; omega), by omega, rfl⟩⟩⟩⟩
                  · refine wp_bipush (pc := 62) d_P_see_62 rfl ?_
                    refine wp_ireturn (pc := 64) d_P_see_64 rfl ?_
                    exact ⟨_, rfl, Or.inl ⟨rfl, Or.inr ⟨by omega, Or.inl ⟨hcl.1 (by omega), rfl⟩⟩⟩⟩
                · refine wp_bipush (pc := 46) d_P_see_46 rfl ?_
                  refine wp_ireturn (pc := 48) d_P_see_48 rfl ?_
                  exact ⟨_, rfl, Or.inl ⟨rfl, Or.inl ⟨by omega, rfl⟩⟩⟩
        · refine wp_bipush (pc := 20) d_P_see_20 rfl ?_
          refine wp_ireturn (pc := 22) d_P_see_22 rfl ?_
          exact ⟨_, rfl, Or.inl ⟨rfl, Or.inl ⟨by omega, rfl⟩⟩⟩
theorem c_P_unsee (h : qYi (qYC M)) (hc : 0 ≤ M 147 2 ∧ M 147 2 ≤ 100000) (h8 : 0 ≤ M 4 8 ∧ M 4 8 ≤ 100000) : Ci L 2 zm_P_unsee [rV 4, iV x] M (fun v M' => (M' = M ∧ ¬ (0 ≤ x ∧ x < (qYC M).1) ∧ v = -101) ∨ (zSm (fun a => a = 4 ∨ 147 ≤ a ∧ a < 161) M M' ∧ (∀ k, ¬ k = 8 → M' 4 k = M 4 k) ∧ M' 4 8 = M 4 8 + 1 ∧ M' 147 2 = M 147 2 + 1 ∧ (0 ≤ x ∧ x < (qYC M).1) ∧ v = (qYC M).1 - 1 ∧ qYC M' = uRm (qYC M) x ∧ qYi (qYC M'))) := by
  show wp L _ zm_P_unsee 0 [rV 4, iV x] [] M _
  have h1 : 0 ≤ M 147 1 ∧ M 147 1 ≤ 12 := h.1
  have e1 : (qYC M).1 = M 147 1 := rfl
  refine wp_aload_n (pc := 0) d_P_unsee_0 rfl ?_
  refine wp_getR (pc := 1) d_P_unsee_1 rfl (zk_4 L) zx_4_3 ?_
  refine wp_iload_n (pc := 4) d_P_unsee_4 rfl ?_
  refine wp_callV1f (pc := 5) d_P_unsee_5 rfl rfl (zk_147 L) rfl rfl c_Sg_has ?_
  refine wp_if_ne (tgt := 14) (pc := 8) d_P_unsee_8 rfl (fun c8 => ?_) (fun c8 => ?_)
  · have c8 := zb_ne0 c8
    refine wp_aload_n (pc := 14) d_P_unsee_14 rfl ?_
    refine wp_getR (pc := 15) d_P_unsee_15 rfl (zk_4 L) zx_4_3 ?_
    refine wp_iload_n (pc := 18) d_P_unsee_18 rfl ?_
    refine wp_callV1v (pc := 19) d_P_unsee_19 rfl rfl (zk_147 L) rfl rfl (c_Sg_remove (by omega) (by omega) h1.2 hc) (fun M19 h19 => ?_)
    obtain ⟨w1, w2, w3, w4, w5, w6, w7⟩ := h19
    have f4 : ∀ k, M19 4 k = M 4 k := w1 4 (by omega)
    refine wp_aload_n (pc := 22) d_P_unsee_22 rfl ?_
    refine wp_dup (pc := 23) d_P_unsee_23 rfl ?_
    refine wp_getI (pc := 24) d_P_unsee_24 rfl (by decide) (zk_4 L) ?_
    refine wp_iconst (pc := 27) d_P_unsee_27 rfl ?_
    refine wp_iadd (pc := 28) d_P_unsee_28 (by rw [f4]; omega) (by rw [f4]; omega) ?_
    refine wp_putI (pc := 29) d_P_unsee_29 rfl (zk_4 L) (by decide) ?_
    refine wp_aload_n (pc := 32) d_P_unsee_32 rfl ?_
    refine wp_getR (pc := 33) d_P_unsee_33 rfl (zk_4 L) zx_4_3 ?_
    refine wp_callV0f (pc := 36) d_P_unsee_36 rfl rfl (zk_147 L) rfl rfl c_Sg_size ?_
    refine wp_ireturn (pc := 39) d_P_unsee_39 rfl ?_
    have hY : qYC (zU M19 4 8 (M19 4 8 + 1)) = uRm (qYC M) x := by
      unfold qYC uRm
      rw [zU_na (by decide), w5]
      refine Prod.ext rfl ?_
      funext i k
      dsimp only
      rw [zU_na (by omega)]
      by_cases ei : 0 ≤ i ∧ i < M 147 1 - 1
      · rw [if_pos ei]
        by_cases e : i < x
        · rw [if_pos e]
          by_cases ek : 0 ≤ k ∧ k < 4
          · rw [if_pos ⟨ei, ek⟩, if_pos ⟨⟨ei.1, by omega⟩, ek⟩, w2 i (by omega) e _ (by omega)]
          · rw [if_neg (fun z => ek z.2), if_neg (fun z => ek z.2)]
        · rw [if_neg e]
          by_cases ek : 0 ≤ k ∧ k < 4
          · rw [if_pos ⟨ei, ek⟩, if_pos ⟨⟨by omega, by omega⟩, ek⟩, w3 i (by omega) (by omega) _ (by omega), show (i + 1).toNat = i.toNat + 1 by omega]
            rfl
          · rw [if_neg (fun z => ek z.2), if_neg (fun z => ek z.2)]
      · rw [if_neg ei, if_neg (fun z => ei z.1)]
    refine ⟨_, rfl, Or.inr ⟨(w1.up (fun a ha => by omega)).u (by omega), fun k hk => by rw [zU_nk hk, f4], by rw [zU_eq, f4], by rw [zU_na (by decide), w6], by omega, by rw [zU_na (by decide), w5, e1], hY, ?_⟩⟩
    rw [hY]
    exact uRm_i h (by omega) (by omega)
  · have c8 := zb_eq0 (Decidable.of_not_not c8)
    refine wp_bipush (pc := 11) d_P_unsee_11 rfl ?_
    refine wp_ireturn (pc := 13) d_P_unsee_13 rfl ?_
    exact ⟨_, rfl, Or.inl ⟨rfl, by omega, rfl⟩⟩
theorem c_P_count  : Cf L 1 zm_P_count [rV 4, iV w] M (iV (xCt (qDC M) (qYC M) (qPg M) (M 4 7) (M 4 8) w)) M := by
  show wp L _ zm_P_count 0 [rV 4, iV w] [] M _
  refine wp_iload_n (pc := 0) d_P_count_0 rfl ?_
  rcases zsw6 0 w with c1 | c1 | c1 | c1 | c1 | c1 | c1
  · refine wp_tableO (tgt := 82) (pc := 1) d_P_count_1 (by omega) rfl ?_
    refine wp_bipush (pc := 82) d_P_count_82 rfl ?_
    refine wp_ireturn (pc := 84) d_P_count_84 rfl ?_
    refine ⟨?_, rfl⟩
    unfold xCt
    first | (subst c1; rfl) | (rw [if_neg (by omega), if_neg (by omega), if_neg (by omega), if_neg (by omega), if_neg (by omega), if_neg (by omega)])
  · refine wp_tableI (tgt := 40) (off := 39) (pc := 1) d_P_count_1 (by omega) (by omega) (by rw [c1]; rfl) rfl ?_
    refine wp_aload_n (pc := 40) d_P_count_40 rfl ?_
    refine wp_getR (pc := 41) d_P_count_41 rfl (zk_4 L) zx_4_1 ?_
    refine wp_callV0f (pc := 44) d_P_count_44 rfl rfl (zk_7 L) rfl rfl c_Co_size ?_
    refine wp_ireturn (pc := 47) d_P_count_47 rfl ?_
    refine ⟨?_, rfl⟩
    unfold xCt
    first | (subst c1; rfl) | (rw [if_neg (by omega), if_neg (by omega), if_neg (by omega), if_neg (by omega), if_neg (by omega), if_neg (by omega)])
  · refine wp_tableI (tgt := 48) (off := 47) (pc := 1) d_P_count_1 (by omega) (by omega) (by rw [c1]; rfl) rfl ?_
    refine wp_aload_n (pc := 48) d_P_count_48 rfl ?_
    refine wp_getR (pc := 49) d_P_count_49 rfl (zk_4 L) zx_4_3 ?_
    refine wp_callV0f (pc := 52) d_P_count_52 rfl rfl (zk_147 L) rfl rfl c_Sg_size ?_
    refine wp_ireturn (pc := 55) d_P_count_55 rfl ?_
    refine ⟨?_, rfl⟩
    unfold xCt
    first | (subst c1; rfl) | (rw [if_neg (by omega), if_neg (by omega), if_neg (by omega), if_neg (by omega), if_neg (by omega), if_neg (by omega)])
  · refine wp_tableI (tgt := 56) (off := 55) (pc := 1) d_P_count_1 (by omega) (by omega) (by rw [c1]; rfl) rfl ?_
    refine wp_aload_n (pc := 56) d_P_count_56 rfl ?_
    refine wp_getR (pc := 57) d_P_count_57 rfl (zk_4 L) zx_4_0 ?_
    refine wp_callV0f (pc := 60) d_P_count_60 rfl rfl (zk_5 L) rfl rfl (c_Text_size (zTx_5 L)) ?_
    refine wp_ireturn (pc := 63) d_P_count_63 rfl ?_
    refine ⟨?_, rfl⟩
    unfold xCt
    first | (subst c1; rfl) | (rw [if_neg (by omega), if_neg (by omega), if_neg (by omega), if_neg (by omega), if_neg (by omega), if_neg (by omega)])
  · refine wp_tableI (tgt := 64) (off := 63) (pc := 1) d_P_count_1 (by omega) (by omega) (by rw [c1]; rfl) rfl ?_
    refine wp_aload_n (pc := 64) d_P_count_64 rfl ?_
    refine wp_getR (pc := 65) d_P_count_65 rfl (zk_4 L) zx_4_1 ?_
    refine wp_callV0f (pc := 68) d_P_count_68 rfl rfl (zk_7 L) rfl rfl c_Co_reach ?_
    refine wp_ireturn (pc := 71) d_P_count_71 rfl ?_
    refine ⟨?_, rfl⟩
    unfold xCt
    first | (subst c1; rfl) | (rw [if_neg (by omega), if_neg (by omega), if_neg (by omega), if_neg (by omega), if_neg (by omega), if_neg (by omega)])
  · refine wp_tableI (tgt := 72) (off := 71) (pc := 1) d_P_count_1 (by omega) (by omega) (by rw [c1]; rfl) rfl ?_
    refine wp_aload_n (pc := 72) d_P_count_72 rfl ?_
    refine wp_getI (pc := 73) d_P_count_73 rfl (by decide) (zk_4 L) ?_
    refine wp_ireturn (pc := 76) d_P_count_76 rfl ?_
    refine ⟨?_, rfl⟩
    unfold xCt
    first | (subst c1; rfl) | (rw [if_neg (by omega), if_neg (by omega), if_neg (by omega), if_neg (by omega), if_neg (by omega), if_neg (by omega)])
  · refine wp_tableI (tgt := 77) (off := 76) (pc := 1) d_P_count_1 (by omega) (by omega) (by rw [c1]; rfl) rfl ?_
    refine wp_aload_n (pc := 77) d_P_count_77 rfl ?_
    refine wp_getI (pc := 78) d_P_count_78 rfl (by decide) (zk_4 L) ?_
    refine wp_ireturn (pc := 81) d_P_count_81 rfl ?_
    refine ⟨?_, rfl⟩
    unfold xCt
    first | (subst c1; rfl) | (rw [if_neg (by omega), if_neg (by omega), if_neg (by omega), if_neg (by omega), if_neg (by omega), if_neg (by omega)])
end ZPy
