/-! Stemma: cell 132; the readings are the rows 134 to 139 -/
theorem zk_rd (L : Nat) {j : Nat} (h : j < 6) : zkd L (134 + j) = some (20, 24) := by
  have h1 : ∀ j, j < 6 → (zsh (20, 0))[134 + j]? = some (20, 24) := by decide +kernel
  rw [← h1 j h]; exact (zsh_ne (by omega)).trans (zsh_ne (c := (20, 0)) (by omega)).symm
theorem zx_rd {j : Nat} (h : j < 6) : zK0 133 j = ((134 + j : Nat) : Int) := by
  have h1 : ∀ j, j < 6 → zK0 133 j = ((134 + j : Nat) : Int) := by decide +kernel
  exact h1 j h
/-- of how many of the first n numbers c holds -/
def qN (c : Int → Bool) : Nat → Int
  | 0 => 0
  | k + 1 => qN c k + (if c (k : Int) = true then 1 else 0)
theorem qN_b (c : Int → Bool) : ∀ n, 0 ≤ qN c n ∧ qN c n ≤ n := by
  intro n
  induction n with
  | zero => exact ⟨Int.le_refl _, Int.le_refl _⟩
  | succ n ih => simp only [qN]; split <;> omega
theorem qN_congr {c c' : Int → Bool} : ∀ {n : Nat}, (∀ k : Int, 0 ≤ k → k < n → c k = c' k) → qN c n = qN c' n := by
  intro n
  induction n with
  | zero => intro _; rfl
  | succ n ih =>
    intro h
    simp only [qN]
    rw [ih (fun k k0 k1 => h k k0 (by omega)), h n (by omega) (by omega)]
/-- a sum over the first n numbers -/
def qS (f : Int → Int) : Nat → Int
  | 0 => 0
  | k + 1 => qS f k + f (k : Int)
theorem qS_congr {f g : Int → Int} : ∀ {n : Nat}, (∀ k : Int, 0 ≤ k → k < n → f k = g k) → qS f n = qS g n := by
  intro n
  induction n with
  | zero => intro _; rfl
  | succ n ih =>
    intro h
    simp only [qS]
    rw [ih (fun k k0 k1 => h k k0 (by omega)), h n (by omega) (by omega)]
theorem qS_b {f : Int → Int} {B : Int} : ∀ {n : Nat}, (∀ k : Int, 0 ≤ k → k < n → 0 ≤ f k ∧ f k ≤ B) → 0 ≤ qS f n ∧ qS f n ≤ B * n := by
  intro n
  induction n with
  | zero => intro _; exact ⟨Int.le_refl _, by simp [qS]⟩
  | succ n ih =>
    intro h
    have h1 := ih (fun k k0 k1 => h k k0 (by omega))
    have h2 := h n (by omega) (by omega)
    simp only [qS]
    refine ⟨by omega, ?_⟩
    rw [show ((n + 1 : Nat) : Int) = (n : Int) + 1 by omega, Int.mul_add]
    omega
/-- the readings that the memory has -/
def qR (M : zM) (c p : Int) : Int := if (0 ≤ c ∧ c < 6) ∧ 0 ≤ p ∧ p < M 132 9 then M (134 + c.toNat) p.toNat else -1
def qDf (M : zM) (c c' : Int) : Int := qN (fun p => decide (¬ qR M c p = qR M c' p)) (M 132 9).toNat
section ZSt2
variable {L : Nat} {M : zM} {i j x y : Int}
theorem c_Sm_size  : Cf L 0 zm_Stemma_size [rV 132] M (iV (M 132 8)) M := by
  show wp L _ zm_Stemma_size 0 [rV 132] [] M _
  refine wp_aload_n (pc := 0) d_Stemma_size_0 rfl ?_
  refine wp_getI (pc := 1) d_Stemma_size_1 rfl (by decide) (zk_132 L) ?_
  refine wp_ireturn (pc := 4) d_Stemma_size_4 rfl ?_
  exact ⟨rfl, rfl⟩
theorem c_Sm_has  : Cf L 0 zm_Stemma_has [rV 132, iV i] M (iV (if 0 ≤ i ∧ i < M 132 8 then 1 else 0)) M := by
  show wp L _ zm_Stemma_has 0 [rV 132, iV i] [] M _
  refine wp_iload_n (pc := 0) d_Stemma_has_0 rfl ?_
  refine wp_if_lt (tgt := 16) (pc := 1) d_Stemma_has_1 rfl (fun c1 => ?_) (fun c1 => ?_)
  · refine wp_iconst (pc := 16) d_Stemma_has_16 rfl ?_
    refine wp_zreturn (pc := 17) d_Stemma_has_17 rfl (by omega) ?_
    first | exact ⟨by rw [if_pos (by omega)], rfl⟩ | exact ⟨by rw [if_neg (by omega)], rfl⟩
  · refine wp_iload_n (pc := 4) d_Stemma_has_4 rfl ?_
    refine wp_aload_n (pc := 5) d_Stemma_has_5 rfl ?_
    refine wp_getI (pc := 6) d_Stemma_has_6 rfl (by decide) (zk_132 L) ?_
    refine wp_icmp_ge (tgt := 16) (pc := 9) d_Stemma_has_9 rfl (fun c9 => ?_) (fun c9 => ?_)
    · refine wp_iconst (pc := 16) d_Stemma_has_16 rfl ?_
      refine wp_zreturn (pc := 17) d_Stemma_has_17 rfl (by omega) ?_
      first | exact ⟨by rw [if_pos (by omega)], rfl⟩ | exact ⟨by rw [if_neg (by omega)], rfl⟩
    · refine wp_iconst (pc := 12) d_Stemma_has_12 rfl ?_
      refine wp_goto (tgt := 17) (pc := 13) d_Stemma_has_13 rfl ?_
      refine wp_zreturn (pc := 17) d_Stemma_has_17 rfl (by omega) ?_
      first | exact ⟨by rw [if_pos (by omega)], rfl⟩ | exact ⟨by rw [if_neg (by omega)], rfl⟩
theorem c_Sm_stateOf  : Cf L 0 zm_Stemma_stateOfCopy [rV 132, iV i] M (iV (if 0 ≤ i ∧ i < 6 then M 140 i.toNat else -1)) M := by
  show wp L _ zm_Stemma_stateOfCopy 0 [rV 132, iV i] [] M _
  refine wp_iload_n (pc := 0) d_Stemma_stateOfCopy_0 rfl ?_
  refine wp_if_lt (tgt := 19) (pc := 1) d_Stemma_stateOfCopy_1 rfl (fun c1 => ?_) (fun c1 => ?_)
  · refine wp_iconst (pc := 19) d_Stemma_stateOfCopy_19 rfl ?_
    refine wp_ireturn (pc := 20) d_Stemma_stateOfCopy_20 rfl ?_
    first | exact ⟨by rw [if_pos (by omega)], rfl⟩ | exact ⟨by rw [if_neg (by omega)], rfl⟩
  · refine wp_iload_n (pc := 4) d_Stemma_stateOfCopy_4 rfl ?_
    refine wp_bipush (pc := 5) d_Stemma_stateOfCopy_5 rfl ?_
    refine wp_icmp_ge (tgt := 19) (pc := 7) d_Stemma_stateOfCopy_7 rfl (fun c7 => ?_) (fun c7 => ?_)
    · refine wp_iconst (pc := 19) d_Stemma_stateOfCopy_19 rfl ?_
      refine wp_ireturn (pc := 20) d_Stemma_stateOfCopy_20 rfl ?_
      first | exact ⟨by rw [if_pos (by omega)], rfl⟩ | exact ⟨by rw [if_neg (by omega)], rfl⟩
    · refine wp_aload_n (pc := 10) d_Stemma_stateOfCopy_10 rfl ?_
      refine wp_getR (pc := 11) d_Stemma_stateOfCopy_11 rfl (zk_132 L) zx_132_1 ?_
      refine wp_iload_n (pc := 14) d_Stemma_stateOfCopy_14 rfl ?_
      refine wp_iald (pc := 15) d_Stemma_stateOfCopy_15 (zk_140 L) (by omega) (by omega) ?_
      refine wp_goto (tgt := 20) (pc := 16) d_Stemma_stateOfCopy_16 rfl ?_
      refine wp_ireturn (pc := 20) d_Stemma_stateOfCopy_20 rfl ?_
      first | exact ⟨by rw [if_pos (by omega)], rfl⟩ | exact ⟨by rw [if_neg (by omega)], rfl⟩
theorem c_Sm_isExcl  : Cf L 1 zm_Stemma_isExcluded [rV 132, iV i] M (iV (if (if 0 ≤ i ∧ i < 6 then M 140 i.toNat else -1) = -1 then 1 else 0)) M := by
  show wp L _ zm_Stemma_isExcluded 0 [rV 132, iV i] [] M _
  refine wp_aload_n (pc := 0) d_Stemma_isExcluded_0 rfl ?_
  refine wp_iload_n (pc := 1) d_Stemma_isExcluded_1 rfl ?_
  refine wp_callV1f (pc := 2) d_Stemma_isExcluded_2 rfl rfl (zk_132 L) rfl rfl c_Sm_stateOf ?_
  refine wp_iconst (pc := 5) d_Stemma_isExcluded_5 rfl ?_
  refine wp_icmp_ne (tgt := 13) (pc := 6) d_Stemma_isExcluded_6 rfl (fun c6 => ?_) (fun c6 => ?_)
  · refine wp_iconst (pc := 13) d_Stemma_isExcluded_13 rfl ?_
    refine wp_zreturn (pc := 14) d_Stemma_isExcluded_14 rfl (by omega) ?_
    first | exact ⟨by rw [if_pos (by omega)], rfl⟩ | exact ⟨by rw [if_neg (by omega)], rfl⟩
  · refine wp_iconst (pc := 9) d_Stemma_isExcluded_9 rfl ?_
    refine wp_goto (tgt := 14) (pc := 10) d_Stemma_isExcluded_10 rfl ?_
    refine wp_zreturn (pc := 14) d_Stemma_isExcluded_14 rfl (by omega) ?_
    first | exact ⟨by rw [if_pos (by omega)], rfl⟩ | exact ⟨by rw [if_neg (by omega)], rfl⟩
theorem c_Sm_readingAt (hp : M 132 9 ≤ 24) : Cf L 0 zm_Stemma_readingAt [rV 132, iV i, iV j] M (iV (qR M i j)) M := by
  show wp L _ zm_Stemma_readingAt 0 [rV 132, iV i, iV j, uV] [] M _
  refine wp_iload_n (pc := 0) d_Stemma_readingAt_0 rfl ?_
  refine wp_if_lt (tgt := 26) (pc := 1) d_Stemma_readingAt_1 rfl (fun c1 => ?_) (fun c1 => ?_)
  · refine wp_iconst (pc := 26) d_Stemma_readingAt_26 rfl ?_
    refine wp_ist3 (pc := 27) d_Stemma_readingAt_27 rfl ?_
    refine wp_iload_n (pc := 28) d_Stemma_readingAt_28 rfl ?_
    refine wp_if_eq (tgt := 43) (pc := 29) d_Stemma_readingAt_29 rfl (fun c29 => ?_) (fun c29 => ?_)
    · refine wp_iconst (pc := 43) d_Stemma_readingAt_43 rfl ?_
      refine wp_ireturn (pc := 44) d_Stemma_readingAt_44 rfl ?_
      unfold qR
      first | exact ⟨by rw [if_pos (by omega)], rfl⟩ | exact ⟨by rw [if_neg (by omega)], rfl⟩
    · exact absurd c29 (by decide)
  · refine wp_iload_n (pc := 4) d_Stemma_readingAt_4 rfl ?_
    refine wp_bipush (pc := 5) d_Stemma_readingAt_5 rfl ?_
    refine wp_icmp_ge (tgt := 26) (pc := 7) d_Stemma_readingAt_7 rfl (fun c7 => ?_) (fun c7 => ?_)
    · refine wp_iconst (pc := 26) d_Stemma_readingAt_26 rfl ?_
      refine wp_ist3 (pc := 27) d_Stemma_readingAt_27 rfl ?_
      refine wp_iload_n (pc := 28) d_Stemma_readingAt_28 rfl ?_
      refine wp_if_eq (tgt := 43) (pc := 29) d_Stemma_readingAt_29 rfl (fun c29 => ?_) (fun c29 => ?_)
      · refine wp_iconst (pc := 43) d_Stemma_readingAt_43 rfl ?_
        refine wp_ireturn (pc := 44) d_Stemma_readingAt_44 rfl ?_
        unfold qR
        first | exact ⟨by rw [if_pos (by omega)], rfl⟩ | exact ⟨by rw [if_neg (by omega)], rfl⟩
      · exact absurd c29 (by decide)
    · refine wp_iload_n (pc := 10) d_Stemma_readingAt_10 rfl ?_
      refine wp_if_lt (tgt := 26) (pc := 11) d_Stemma_readingAt_11 rfl (fun c11 => ?_) (fun c11 => ?_)
      · refine wp_iconst (pc := 26) d_Stemma_readingAt_26 rfl ?_
        refine wp_ist3 (pc := 27) d_Stemma_readingAt_27 rfl ?_
        refine wp_iload_n (pc := 28) d_Stemma_readingAt_28 rfl ?_
        refine wp_if_eq (tgt := 43) (pc := 29) d_Stemma_readingAt_29 rfl (fun c29 => ?_) (fun c29 => ?_)
        · refine wp_iconst (pc := 43) d_Stemma_readingAt_43 rfl ?_
          refine wp_ireturn (pc := 44) d_Stemma_readingAt_44 rfl ?_
          unfold qR
          first | exact ⟨by rw [if_pos (by omega)], rfl⟩ | exact ⟨by rw [if_neg (by omega)], rfl⟩
        · exact absurd c29 (by decide)
      · refine wp_iload_n (pc := 14) d_Stemma_readingAt_14 rfl ?_
        refine wp_aload_n (pc := 15) d_Stemma_readingAt_15 rfl ?_
        refine wp_getI (pc := 16) d_Stemma_readingAt_16 rfl (by decide) (zk_132 L) ?_
        refine wp_icmp_ge (tgt := 26) (pc := 19) d_Stemma_readingAt_19 rfl (fun c19 => ?_) (fun c19 => ?_)
        · refine wp_iconst (pc := 26) d_Stemma_readingAt_26 rfl ?_
          refine wp_ist3 (pc := 27) d_Stemma_readingAt_27 rfl ?_
          refine wp_iload_n (pc := 28) d_Stemma_readingAt_28 rfl ?_
          refine wp_if_eq (tgt := 43) (pc := 29) d_Stemma_readingAt_29 rfl (fun c29 => ?_) (fun c29 => ?_)
          · refine wp_iconst (pc := 43) d_Stemma_readingAt_43 rfl ?_
            refine wp_ireturn (pc := 44) d_Stemma_readingAt_44 rfl ?_
            unfold qR
            first | exact ⟨by rw [if_pos (by omega)], rfl⟩ | exact ⟨by rw [if_neg (by omega)], rfl⟩
          · exact absurd c29 (by decide)
        · refine wp_iconst (pc := 22) d_Stemma_readingAt_22 rfl ?_
          refine wp_goto (tgt := 27) (pc := 23) d_Stemma_readingAt_23 rfl ?_
          refine wp_ist3 (pc := 27) d_Stemma_readingAt_27 rfl ?_
          refine wp_iload_n (pc := 28) d_Stemma_readingAt_28 rfl ?_
          refine wp_if_eq (tgt := 43) (pc := 29) d_Stemma_readingAt_29 rfl (fun c29 => ?_) (fun c29 => ?_)
          · exact absurd c29 (by decide)
          · refine wp_aload_n (pc := 32) d_Stemma_readingAt_32 rfl ?_
            refine wp_getR (pc := 33) d_Stemma_readingAt_33 rfl (zk_132 L) zx_132_0 ?_
            refine wp_iload_n (pc := 36) d_Stemma_readingAt_36 rfl ?_
            refine wp_aald (b := 134 + (i).toNat) (pc := 37) d_Stemma_readingAt_37 (zk_133 L) (by decide) (by omega) (by omega) (zx_rd (show (i).toNat < 6 by omega)) ?_
            refine wp_iload_n (pc := 38) d_Stemma_readingAt_38 rfl ?_
            refine wp_iald (pc := 39) d_Stemma_readingAt_39 (zk_rd L (show (i).toNat < 6 by omega)) (by omega) (by omega) ?_
            refine wp_goto (tgt := 44) (pc := 40) d_Stemma_readingAt_40 rfl ?_
            refine wp_ireturn (pc := 44) d_Stemma_readingAt_44 rfl ?_
            unfold qR
            first | exact ⟨by rw [if_pos (by omega)], rfl⟩ | exact ⟨by rw [if_neg (by omega)], rfl⟩
theorem lp_Sm_diff (h0 : 0 ≤ M 132 9) (hp : M 132 9 ≤ 24) : ∀ (n9 : Nat) (k : Nat) (p : Int) (v : Int), M 132 9 - p < n9 → p = k → p ≤ M 132 9 → v = qN (fun p => decide (¬ qR M x p = qR M y p)) k → wp L 1 zm_Stemma_differences 5 [rV 132, iV x, iV y, iV v, iV p] [] M (fun r M' => r = some (iV (qDf M x y)) ∧ M' = M) := by
  intro n9
  induction n9 with
  | zero =>
    intro k  p  v  h9 g1 g2 g3
    exact absurd h9 (by omega)
  | succ n9 ih =>
    intro k  p  v  h9 g1 g2 g3
    have hv := qN_b (fun p => decide (¬ qR M x p = qR M y p)) k
    refine wp_iload (pc := 5) d_Stemma_differences_5 rfl ?_
    refine wp_aload_n (pc := 7) d_Stemma_differences_7 rfl ?_
    refine wp_getI (pc := 8) d_Stemma_differences_8 rfl (by decide) (zk_132 L) ?_
    refine wp_icmp_ge (tgt := 40) (pc := 11) d_Stemma_differences_11 rfl (fun c11 => ?_) (fun c11 => ?_)
    · refine wp_iload_n (pc := 40) d_Stemma_differences_40 rfl ?_
      refine wp_ireturn (pc := 41) d_Stemma_differences_41 rfl ?_
      exact ⟨by unfold qDf; rw [g3, show (M 132 9).toNat = k by omega], rfl⟩
    · refine wp_aload_n (pc := 14) d_Stemma_differences_14 rfl ?_
      refine wp_iload_n (pc := 15) d_Stemma_differences_15 rfl ?_
      refine wp_iload (pc := 16) d_Stemma_differences_16 rfl ?_
      refine wp_callV2f (pc := 18) d_Stemma_differences_18 rfl rfl (zk_132 L) rfl rfl (c_Sm_readingAt hp) ?_
      refine wp_aload_n (pc := 21) d_Stemma_differences_21 rfl ?_
      refine wp_iload_n (pc := 22) d_Stemma_differences_22 rfl ?_
      refine wp_iload (pc := 23) d_Stemma_differences_23 rfl ?_
      refine wp_callV2f (pc := 25) d_Stemma_differences_25 rfl rfl (zk_132 L) rfl rfl (c_Sm_readingAt hp) ?_
      refine wp_icmp_eq (tgt := 34) (pc := 28) d_Stemma_differences_28 rfl (fun c28 => ?_) (fun c28 => ?_)
      · refine wp_iinc4 (pc := 34) d_Stemma_differences_34 rfl (by omega) (by omega) ?_
        refine wp_goto (tgt := 5) (pc := 37) d_Stemma_differences_37 rfl ?_
        refine ih (k + 1) (p + 1) _ (by omega) (by omega) (by omega) ?_
        simp only [qN]
        first | rw [if_pos (by rw [← g1]; exact decide_eq_true c28), g3] | rw [if_neg (by rw [← g1]; exact fun z => of_decide_eq_true z c28), g3, Int.add_zero]
      · refine wp_iinc3 (pc := 31) d_Stemma_differences_31 rfl (by omega) (by omega) ?_
        refine wp_iinc4 (pc := 34) d_Stemma_differences_34 rfl (by omega) (by omega) ?_
        refine wp_goto (tgt := 5) (pc := 37) d_Stemma_differences_37 rfl ?_
        refine ih (k + 1) (p + 1) _ (by omega) (by omega) (by omega) ?_
        simp only [qN]
        first | rw [if_pos (by rw [← g1]; exact decide_eq_true c28), g3] | rw [if_neg (by rw [← g1]; exact fun z => of_decide_eq_true z c28), g3, Int.add_zero]
theorem c_Sm_diff (h0 : 0 ≤ M 132 9) (hp : M 132 9 ≤ 24) : Cf L 1 zm_Stemma_differences [rV 132, iV x, iV y] M (iV (qDf M x y)) M := by
  show wp L _ zm_Stemma_differences 0 [rV 132, iV x, iV y, uV, uV] [] M _
  refine wp_iconst (pc := 0) d_Stemma_differences_0 rfl ?_
  refine wp_ist3 (pc := 1) d_Stemma_differences_1 rfl ?_
  refine wp_iconst (pc := 2) d_Stemma_differences_2 rfl ?_
  refine wp_ist4 (pc := 3) d_Stemma_differences_3 rfl ?_
  exact lp_Sm_diff h0 hp 100 0 0 0 (by omega) rfl h0 rfl
theorem c_Sm_dist (h0 : 0 ≤ M 132 9) (hp : M 132 9 ≤ 24) (hs6 : M 132 8 ≤ 6) : Cf L 2 zm_Stemma_distance [rV 132, iV x, iV y] M (iV (if (0 ≤ x ∧ x < M 132 8) ∧ 0 ≤ y ∧ y < M 132 8 then qDf M (M 141 x.toNat) (M 141 y.toNat) else 0)) M := by
  show wp L _ zm_Stemma_distance 0 [rV 132, iV x, iV y] [] M _
  refine wp_aload_n (pc := 0) d_Stemma_distance_0 rfl ?_
  refine wp_iload_n (pc := 1) d_Stemma_distance_1 rfl ?_
  refine wp_callV1f (pc := 2) d_Stemma_distance_2 rfl rfl (zk_132 L) rfl rfl c_Sm_has ?_
  refine wp_if_eq (tgt := 35) (pc := 5) d_Stemma_distance_5 rfl (fun c5 => ?_) (fun c5 => ?_)
  · have c5 := zb_eq0 c5
    refine wp_iconst (pc := 35) d_Stemma_distance_35 rfl ?_
    refine wp_ireturn (pc := 36) d_Stemma_distance_36 rfl ?_
    first | exact ⟨by rw [if_pos (by omega)], rfl⟩ | exact ⟨by rw [if_neg (by omega)], rfl⟩
  · have c5 := zb_ne0 c5
    refine wp_aload_n (pc := 8) d_Stemma_distance_8 rfl ?_
    refine wp_iload_n (pc := 9) d_Stemma_distance_9 rfl ?_
    refine wp_callV1f (pc := 10) d_Stemma_distance_10 rfl rfl (zk_132 L) rfl rfl c_Sm_has ?_
    refine wp_if_eq (tgt := 35) (pc := 13) d_Stemma_distance_13 rfl (fun c13 => ?_) (fun c13 => ?_)
    · have c13 := zb_eq0 c13
      refine wp_iconst (pc := 35) d_Stemma_distance_35 rfl ?_
      refine wp_ireturn (pc := 36) d_Stemma_distance_36 rfl ?_
      first | exact ⟨by rw [if_pos (by omega)], rfl⟩ | exact ⟨by rw [if_neg (by omega)], rfl⟩
    · have c13 := zb_ne0 c13
      refine wp_aload_n (pc := 16) d_Stemma_distance_16 rfl ?_
      refine wp_aload_n (pc := 17) d_Stemma_distance_17 rfl ?_
      refine wp_getR (pc := 18) d_Stemma_distance_18 rfl (zk_132 L) zx_132_2 ?_
      refine wp_iload_n (pc := 21) d_Stemma_distance_21 rfl ?_
      refine wp_iald (pc := 22) d_Stemma_distance_22 (zk_141 L) (by omega) (by omega) ?_
      refine wp_aload_n (pc := 23) d_Stemma_distance_23 rfl ?_
      refine wp_getR (pc := 24) d_Stemma_distance_24 rfl (zk_132 L) zx_132_2 ?_
      refine wp_iload_n (pc := 27) d_Stemma_distance_27 rfl ?_
      refine wp_iald (pc := 28) d_Stemma_distance_28 (zk_141 L) (by omega) (by omega) ?_
      refine wp_callV2f (pc := 29) d_Stemma_distance_29 rfl rfl (zk_132 L) rfl rfl (c_Sm_diff h0 hp) ?_
      refine wp_goto (tgt := 36) (pc := 32) d_Stemma_distance_32 rfl ?_
      refine wp_ireturn (pc := 36) d_Stemma_distance_36 rfl ?_
      first | exact ⟨by rw [if_pos (by omega)], rfl⟩ | exact ⟨by rw [if_neg (by omega)], rfl⟩
theorem c_Sm_rdSt (hp : M 132 9 ≤ 24) (hs6 : M 132 8 ≤ 6) : Cf L 1 zm_Stemma_readingOfState [rV 132, iV x, iV y] M (iV (if 0 ≤ x ∧ x < M 132 8 then qR M (M 141 x.toNat) y else -1)) M := by
  show wp L _ zm_Stemma_readingOfState 0 [rV 132, iV x, iV y] [] M _
  refine wp_aload_n (pc := 0) d_Stemma_readingOfState_0 rfl ?_
  refine wp_iload_n (pc := 1) d_Stemma_readingOfState_1 rfl ?_
  refine wp_callV1f (pc := 2) d_Stemma_readingOfState_2 rfl rfl (zk_132 L) rfl rfl c_Sm_has ?_
  refine wp_if_eq (tgt := 22) (pc := 5) d_Stemma_readingOfState_5 rfl (fun c5 => ?_) (fun c5 => ?_)
  · have c5 := zb_eq0 c5
    refine wp_iconst (pc := 22) d_Stemma_readingOfState_22 rfl ?_
    refine wp_ireturn (pc := 23) d_Stemma_readingOfState_23 rfl ?_
    first | exact ⟨by rw [if_pos (by omega)], rfl⟩ | exact ⟨by rw [if_neg (by omega)], rfl⟩
  · have c5 := zb_ne0 c5
    refine wp_aload_n (pc := 8) d_Stemma_readingOfState_8 rfl ?_
    refine wp_aload_n (pc := 9) d_Stemma_readingOfState_9 rfl ?_
    refine wp_getR (pc := 10) d_Stemma_readingOfState_10 rfl (zk_132 L) zx_132_2 ?_
    refine wp_iload_n (pc := 13) d_Stemma_readingOfState_13 rfl ?_
    refine wp_iald (pc := 14) d_Stemma_readingOfState_14 (zk_141 L) (by omega) (by omega) ?_
    refine wp_iload_n (pc := 15) d_Stemma_readingOfState_15 rfl ?_
    refine wp_callV2f (pc := 16) d_Stemma_readingOfState_16 rfl rfl (zk_132 L) rfl rfl (c_Sm_readingAt hp) ?_
    refine wp_goto (tgt := 23) (pc := 19) d_Stemma_readingOfState_19 rfl ?_
    refine wp_ireturn (pc := 23) d_Stemma_readingOfState_23 rfl ?_
    first | exact ⟨by rw [if_pos (by omega)], rfl⟩ | exact ⟨by rw [if_neg (by omega)], rfl⟩
theorem c_Sm_parentOf (hs6 : M 132 8 ≤ 6) : Cf L 1 zm_Stemma_parentOf [rV 132, iV x] M (iV (if 0 ≤ x ∧ x < M 132 8 then M 143 x.toNat else -1)) M := by
  show wp L _ zm_Stemma_parentOf 0 [rV 132, iV x] [] M _
  refine wp_aload_n (pc := 0) d_Stemma_parentOf_0 rfl ?_
  refine wp_iload_n (pc := 1) d_Stemma_parentOf_1 rfl ?_
  refine wp_callV1f (pc := 2) d_Stemma_parentOf_2 rfl rfl (zk_132 L) rfl rfl c_Sm_has ?_
  refine wp_if_eq (tgt := 17) (pc := 5) d_Stemma_parentOf_5 rfl (fun c5 => ?_) (fun c5 => ?_)
  · have c5 := zb_eq0 c5
    refine wp_iconst (pc := 17) d_Stemma_parentOf_17 rfl ?_
    refine wp_ireturn (pc := 18) d_Stemma_parentOf_18 rfl ?_
    first | exact ⟨by rw [if_pos (by omega)], rfl⟩ | exact ⟨by rw [if_neg (by omega)], rfl⟩
  · have c5 := zb_ne0 c5
    refine wp_aload_n (pc := 8) d_Stemma_parentOf_8 rfl ?_
    refine wp_getR (pc := 9) d_Stemma_parentOf_9 rfl (zk_132 L) zx_132_4 ?_
    refine wp_iload_n (pc := 12) d_Stemma_parentOf_12 rfl ?_
    refine wp_iald (pc := 13) d_Stemma_parentOf_13 (zk_143 L) (by omega) (by omega) ?_
    refine wp_goto (tgt := 18) (pc := 14) d_Stemma_parentOf_14 rfl ?_
    refine wp_ireturn (pc := 18) d_Stemma_parentOf_18 rfl ?_
    first | exact ⟨by rw [if_pos (by omega)], rfl⟩ | exact ⟨by rw [if_neg (by omega)], rfl⟩
theorem c_Sm_isRev (hs6 : M 132 8 ≤ 6) : Cf L 1 zm_Stemma_isReverted [rV 132, iV x, iV y] M (iV (if ((0 ≤ x ∧ x < M 132 8) ∧ 0 ≤ y ∧ y < M 132 9) ∧ ¬ zI2 (· &&& ·) (zI2 zShr (M 146 x.toNat) y) 1 = 0 then 1 else 0)) M := by
  show wp L _ zm_Stemma_isReverted 0 [rV 132, iV x, iV y] [] M _
  refine wp_aload_n (pc := 0) d_Stemma_isReverted_0 rfl ?_
  refine wp_iload_n (pc := 1) d_Stemma_isReverted_1 rfl ?_
  refine wp_callV1f (pc := 2) d_Stemma_isReverted_2 rfl rfl (zk_132 L) rfl rfl c_Sm_has ?_
  refine wp_if_eq (tgt := 37) (pc := 5) d_Stemma_isReverted_5 rfl (fun c5 => ?_) (fun c5 => ?_)
  · have c5 := zb_eq0 c5
    refine wp_iconst (pc := 37) d_Stemma_isReverted_37 rfl ?_
    refine wp_zreturn (pc := 38) d_Stemma_isReverted_38 rfl (by omega) ?_
    first | exact ⟨by rw [if_pos (by omega)], rfl⟩ | exact ⟨by rw [if_neg (by omega)], rfl⟩
  · have c5 := zb_ne0 c5
    refine wp_iload_n (pc := 8) d_Stemma_isReverted_8 rfl ?_
    refine wp_if_lt (tgt := 37) (pc := 9) d_Stemma_isReverted_9 rfl (fun c9 => ?_) (fun c9 => ?_)
    · refine wp_iconst (pc := 37) d_Stemma_isReverted_37 rfl ?_
      refine wp_zreturn (pc := 38) d_Stemma_isReverted_38 rfl (by omega) ?_
      first | exact ⟨by rw [if_pos (by omega)], rfl⟩ | exact ⟨by rw [if_neg (by omega)], rfl⟩
    · refine wp_iload_n (pc := 12) d_Stemma_isReverted_12 rfl ?_
      refine wp_aload_n (pc := 13) d_Stemma_isReverted_13 rfl ?_
      refine wp_getI (pc := 14) d_Stemma_isReverted_14 rfl (by decide) (zk_132 L) ?_
      refine wp_icmp_ge (tgt := 37) (pc := 17) d_Stemma_isReverted_17 rfl (fun c17 => ?_) (fun c17 => ?_)
      · refine wp_iconst (pc := 37) d_Stemma_isReverted_37 rfl ?_
        refine wp_zreturn (pc := 38) d_Stemma_isReverted_38 rfl (by omega) ?_
        first | exact ⟨by rw [if_pos (by omega)], rfl⟩ | exact ⟨by rw [if_neg (by omega)], rfl⟩
      · refine wp_aload_n (pc := 20) d_Stemma_isReverted_20 rfl ?_
        refine wp_getR (pc := 21) d_Stemma_isReverted_21 rfl (zk_132 L) zx_132_7 ?_
        refine wp_iload_n (pc := 24) d_Stemma_isReverted_24 rfl ?_
        refine wp_iald (pc := 25) d_Stemma_isReverted_25 (zk_146 L) (by omega) (by omega) ?_
        refine wp_iload_n (pc := 26) d_Stemma_isReverted_26 rfl ?_
        refine wp_ishr (v := _) (pc := 27) d_Stemma_isReverted_27 rfl ?_
        refine wp_iconst (pc := 28) d_Stemma_isReverted_28 rfl ?_
        refine wp_iand (v := _) (pc := 29) d_Stemma_isReverted_29 rfl ?_
        refine wp_if_eq (tgt := 37) (pc := 30) d_Stemma_isReverted_30 rfl (fun c30 => ?_) (fun c30 => ?_)
        · refine wp_iconst (pc := 37) d_Stemma_isReverted_37 rfl ?_
          refine wp_zreturn (pc := 38) d_Stemma_isReverted_38 rfl (by omega) ?_
          first | exact ⟨by rw [if_pos (by omega)], rfl⟩ | exact ⟨by rw [if_neg (by omega)], rfl⟩
        · refine wp_iconst (pc := 33) d_Stemma_isReverted_33 rfl ?_
          refine wp_goto (tgt := 38) (pc := 34) d_Stemma_isReverted_34 rfl ?_
          refine wp_zreturn (pc := 38) d_Stemma_isReverted_38 rfl (by omega) ?_
          first | exact ⟨by rw [if_pos (by omega)], rfl⟩ | exact ⟨by rw [if_neg (by omega)], rfl⟩
/-- the n-th step up from a state, in the memory's tree -/
def qPm (M : zM) (x : Int) : Int := if 0 ≤ x ∧ x < M 132 8 then M 143 x.toNat else -1
def qUp (M : zM) : Nat → Int → Int
  | 0, x => x
  | n + 1, x => qPm M (qUp M n x)
/-- how many steps up there are, at most n -/
def qAc (M : zM) : Nat → Int → Int
  | 0, _ => 0
  | n + 1, x => if x = -1 then 0 else 1 + qAc M n (qPm M x)
theorem lp_Sm_anc (h8 : 0 ≤ M 132 8) (hs6 : M 132 8 ≤ 6) : ∀ (n9 : Nat) (v : Int) (u : Int) (i : Int), M 132 8 - i < n9 → 0 ≤ i → i ≤ M 132 8 → 0 ≤ v → v ≤ i → wp L 2 zm_Stemma_ancestors 11 [rV 132, iV x, iV v, iV u, iV i] [] M (fun r M' => r = some (iV (v + qAc M (M 132 8 - i).toNat u)) ∧ M' = M) := by
  intro n9
  induction n9 with
  | zero =>
    intro v  u  i  h9 g1 g2 g3 g4
    exact absurd h9 (by omega)
  | succ n9 ih =>
    intro v  u  i  h9 g1 g2 g3 g4
    refine wp_iload (pc := 11) d_Stemma_ancestors_11 rfl ?_
    refine wp_aload_n (pc := 13) d_Stemma_ancestors_13 rfl ?_
    refine wp_getI (pc := 14) d_Stemma_ancestors_14 rfl (by decide) (zk_132 L) ?_
    refine wp_icmp_ge (tgt := 40) (pc := 17) d_Stemma_ancestors_17 rfl (fun c17 => ?_) (fun c17 => ?_)
    · refine wp_iload_n (pc := 40) d_Stemma_ancestors_40 rfl ?_
      refine wp_ireturn (pc := 41) d_Stemma_ancestors_41 rfl ?_
      refine ⟨?_, rfl⟩
      first
      | (rw [show (M 132 8 - i).toNat = 0 by omega]; simp only [qAc, Int.add_zero])
      | (rw [show (M 132 8 - i).toNat = (M 132 8 - (i + 1)).toNat + 1 by omega]; simp only [qAc]; rw [if_pos c22, Int.add_zero])
    · refine wp_iload_n (pc := 20) d_Stemma_ancestors_20 rfl ?_
      refine wp_iconst (pc := 21) d_Stemma_ancestors_21 rfl ?_
      refine wp_icmp_eq (tgt := 40) (pc := 22) d_Stemma_ancestors_22 rfl (fun c22 => ?_) (fun c22 => ?_)
      · refine wp_iload_n (pc := 40) d_Stemma_ancestors_40 rfl ?_
        refine wp_ireturn (pc := 41) d_Stemma_ancestors_41 rfl ?_
        refine ⟨?_, rfl⟩
        first
        | (rw [show (M 132 8 - i).toNat = 0 by omega]; simp only [qAc, Int.add_zero])
        | (rw [show (M 132 8 - i).toNat = (M 132 8 - (i + 1)).toNat + 1 by omega]; simp only [qAc]; rw [if_pos c22, Int.add_zero])
      · refine wp_iinc2 (pc := 25) d_Stemma_ancestors_25 rfl (by omega) (by omega) ?_
        refine wp_aload_n (pc := 28) d_Stemma_ancestors_28 rfl ?_
        refine wp_iload_n (pc := 29) d_Stemma_ancestors_29 rfl ?_
        refine wp_callV1f (pc := 30) d_Stemma_ancestors_30 rfl rfl (zk_132 L) rfl rfl (c_Sm_parentOf hs6) ?_
        refine wp_ist3 (pc := 33) d_Stemma_ancestors_33 rfl ?_
        refine wp_iinc4 (pc := 34) d_Stemma_ancestors_34 rfl (by omega) (by omega) ?_
        refine wp_goto (tgt := 11) (pc := 37) d_Stemma_ancestors_37 rfl ?_
        have := ih (v + 1) (qPm M u) (i + 1) (by omega) (by omega) (by omega) (by omega) (by omega)
        refine wp_mono this (fun r M' hr => ⟨hr.1.trans ?_, hr.2⟩)
        rw [show (M 132 8 - i).toNat = (M 132 8 - (i + 1)).toNat + 1 by omega]
        simp only [qAc]
        rw [if_neg c22, Int.add_assoc]
theorem c_Sm_anc (h8 : 0 ≤ M 132 8) (hs6 : M 132 8 ≤ 6) : Cf L 2 zm_Stemma_ancestors [rV 132, iV x] M (iV (qAc M (M 132 8).toNat (qPm M x))) M := by
  show wp L _ zm_Stemma_ancestors 0 [rV 132, iV x, uV, uV, uV] [] M _
  refine wp_iconst (pc := 0) d_Stemma_ancestors_0 rfl ?_
  refine wp_ist2 (pc := 1) d_Stemma_ancestors_1 rfl ?_
  refine wp_aload_n (pc := 2) d_Stemma_ancestors_2 rfl ?_
  refine wp_iload_n (pc := 3) d_Stemma_ancestors_3 rfl ?_
  refine wp_callV1f (pc := 4) d_Stemma_ancestors_4 rfl rfl (zk_132 L) rfl rfl (c_Sm_parentOf hs6) ?_
  refine wp_ist3 (pc := 7) d_Stemma_ancestors_7 rfl ?_
  refine wp_iconst (pc := 8) d_Stemma_ancestors_8 rfl ?_
  refine wp_ist4 (pc := 9) d_Stemma_ancestors_9 rfl ?_
  refine wp_mono (lp_Sm_anc h8 hs6 100 0 (qPm M x) 0 (by omega) (by omega) (by omega) (by omega) (by omega)) (fun r M' hr => ⟨hr.1.trans ?_, hr.2⟩)
  rw [Int.zero_add, Int.sub_zero]
theorem lp_Sm_len (h8 : 0 ≤ M 132 8) (hs6 : M 132 8 ≤ 6) (hb : ∀ k : Int, 0 ≤ k → k < M 132 8 → 0 ≤ M 144 k.toNat ∧ M 144 k.toNat ≤ 24) : ∀ (n9 : Nat) (k : Nat) (v : Int) (i : Int), M 132 8 - i < n9 → i = k → i ≤ M 132 8 → v = qS (fun s => M 144 s.toNat) k → wp L 0 zm_Stemma_length 4 [rV 132, iV v, iV i] [] M (fun r M' => r = some (iV (qS (fun s => M 144 s.toNat) (M 132 8).toNat)) ∧ M' = M) := by
  intro n9
  induction n9 with
  | zero =>
    intro k  v  i  h9 g1 g2 g3
    exact absurd h9 (by omega)
  | succ n9 ih =>
    intro k  v  i  h9 g1 g2 g3
    have hv := qS_b (f := fun s => M 144 s.toNat) (B := 24) (n := k) (fun s s0 s1 => hb s s0 (by omega))
    refine wp_iload_n (pc := 4) d_Stemma_length_4 rfl ?_
    refine wp_aload_n (pc := 5) d_Stemma_length_5 rfl ?_
    refine wp_getI (pc := 6) d_Stemma_length_6 rfl (by decide) (zk_132 L) ?_
    refine wp_icmp_ge (tgt := 27) (pc := 9) d_Stemma_length_9 rfl (fun c9 => ?_) (fun c9 => ?_)
    · refine wp_iload_n (pc := 27) d_Stemma_length_27 rfl ?_
      refine wp_ireturn (pc := 28) d_Stemma_length_28 rfl ?_
      exact ⟨by rw [g3, show (M 132 8).toNat = k by omega], rfl⟩
    · have hbi := hb i (by omega) (by omega)
      refine wp_iload_n (pc := 12) d_Stemma_length_12 rfl ?_
      refine wp_aload_n (pc := 13) d_Stemma_length_13 rfl ?_
      refine wp_getR (pc := 14) d_Stemma_length_14 rfl (zk_132 L) zx_132_5 ?_
      refine wp_iload_n (pc := 17) d_Stemma_length_17 rfl ?_
      refine wp_iald (pc := 18) d_Stemma_length_18 (zk_144 L) (by omega) (by omega) ?_
      refine wp_iadd (pc := 19) d_Stemma_length_19 (by omega) (by omega) ?_
      refine wp_ist1 (pc := 20) d_Stemma_length_20 rfl ?_
      refine wp_iinc2 (pc := 21) d_Stemma_length_21 rfl (by omega) (by omega) ?_
      refine wp_goto (tgt := 4) (pc := 24) d_Stemma_length_24 rfl ?_
      refine ih (k + 1) _ (i + 1) (by omega) (by omega) (by omega) ?_
      simp only [qS]
      rw [g3, g1]
theorem c_Sm_len (h8 : 0 ≤ M 132 8) (hs6 : M 132 8 ≤ 6) (hb : ∀ k : Int, 0 ≤ k → k < M 132 8 → 0 ≤ M 144 k.toNat ∧ M 144 k.toNat ≤ 24) : Cf L 0 zm_Stemma_length [rV 132] M (iV (qS (fun s => M 144 s.toNat) (M 132 8).toNat)) M := by
  show wp L _ zm_Stemma_length 0 [rV 132, uV, uV] [] M _
  refine wp_iconst (pc := 0) d_Stemma_length_0 rfl ?_
  refine wp_ist1 (pc := 1) d_Stemma_length_1 rfl ?_
  refine wp_iconst (pc := 2) d_Stemma_length_2 rfl ?_
  refine wp_ist2 (pc := 3) d_Stemma_length_3 rfl ?_
  exact lp_Sm_len h8 hs6 hb 100 0 0 0 (by omega) rfl h8 rfl
end ZSt2
