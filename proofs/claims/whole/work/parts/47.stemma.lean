/-! Stemma, on: what it tells -/
section ZSt6
variable {L : Nat} {M : zM} {i j x y : Int}
/-- whether c holds of one of the first n numbers -/
def qEx (c : Int → Bool) : Nat → Bool
  | 0 => false
  | k + 1 => qEx c k || c (k : Int)
theorem qEx_s (c : Int → Bool) (k : Nat) : qEx c (k + 1) = (qEx c k || c (k : Int)) := rfl
/-- a truth as a number -/
def qB (b : Bool) : Int := if b = true then 1 else 0
theorem qB_0 {b : Bool} (h : qB b = 0) : b = false := by cases b; rfl; exact absurd h (by decide)
theorem qB_1 {b : Bool} (h : ¬ qB b = 0) : b = true := by cases b; exact absurd rfl h; rfl
theorem qB_in (b : Bool) : qB b = 0 ∨ qB b = 1 := by cases b; exact Or.inl rfl; exact Or.inr rfl
theorem qEx_iff (c : Int → Bool) : ∀ n : Nat, qEx c n = true ↔ ∃ k : Int, 0 ≤ k ∧ k < n ∧ c k = true := by
  intro n
  induction n with
  | zero => exact ⟨fun h => absurd (show false = true from h) (by decide), fun ⟨k, h1, h2, _⟩ => absurd h2 (by omega)⟩
  | succ n ih =>
    simp only [qEx, Bool.or_eq_true, ih]
    constructor
    · rintro (⟨k, h1, h2, h3⟩ | h)
      · exact ⟨k, h1, by omega, h3⟩
      · exact ⟨n, by omega, by omega, h⟩
    · rintro ⟨k, h1, h2, h3⟩
      by_cases e : k = n
      · exact Or.inr (e ▸ h3)
      · exact Or.inl ⟨k, h1, by omega, h3⟩
theorem qEx_congr {c c' : Int → Bool} : ∀ {n : Nat}, (∀ k : Int, 0 ≤ k → k < n → c k = c' k) → qEx c n = qEx c' n := by
  intro n
  induction n with
  | zero => intro _; rfl
  | succ n ih =>
    intro h
    simp only [qEx]
    rw [ih (fun k k0 k1 => h k k0 (by omega)), h n (by omega) (by omega)]
theorem qMk_bm (c : Int → Int) : ∀ n : Nat, n ≤ 24 → qMk c n = ((qBm (fun k => decide (¬ c (k : Int) = 0)) n : Nat) : Int) := by
  intro n
  induction n with
  | zero => intro _; rfl
  | succ n ih =>
    intro h
    have hl := qBm_lt (fun k => decide (¬ c (k : Int) = 0)) n
    have hp : 2 ^ n ≤ 2 ^ 24 := Nat.pow_le_pow_right (by decide) (by omega)
    simp only [qMk, qBm]
    rw [ih (by omega)]
    by_cases e : c (n : Int) = 0
    · rw [if_pos e, if_neg (by simp [e])]
    · rw [if_neg e, if_pos (by simp [e]), zn_shl1 n (by omega), zn_or (by omega) (by omega)]
      congr 1
      have h2 := Nat.two_pow_add_eq_or_of_lt hl 1
      rw [Nat.mul_one] at h2
      rw [Nat.or_comm, Nat.add_comm, h2]
def qVp (M : zM) : Int := qN (fun p => qEx (fun s => decide (¬ qRS M s p = qRS M 0 p)) (M 132 8).toNat) (M 132 9).toNat
def qPr (M : zM) (n : Nat) : Nat := qBm (fun k => qEx (fun s => decide (1 ≤ s ∧ M 143 s.toNat = (k : Int))) n) 24
def qDa (M : zM) (w : Int) : Int := if w = 0 then M 132 8 else if w = 1 then M 132 10 else if w = 2 then qS (fun s => M 144 s.toNat) (M 132 8).toNat else if w = 3 then qVp M else if w = 4 then qS (fun s => qPc (M 146 s.toNat).toNat 24) (M 132 8).toNat else M 132 8 - qPc (qPr M (M 132 8).toNat) 24
def qDe (M : zM) (s w : Int) : Int := if w = 0 then M 141 s.toNat else if w = 1 then M 142 s.toNat else if w = 2 then M 143 s.toNat else if w = 3 then M 144 s.toNat else if w = 4 then qAc M (M 132 8).toNat (qPm M s) else if w = 5 then qPc (M 146 s.toNat).toNat 24 else M 145 s.toNat
/-- what holds of the memory of a stemma that is built -/
def qWf (M : zM) : Prop := (0 ≤ M 132 8 ∧ M 132 8 ≤ 6) ∧ (0 ≤ M 132 9 ∧ M 132 9 ≤ 24) ∧ ∀ s : Int, 0 ≤ s → s < M 132 8 → (0 ≤ M 144 s.toNat ∧ M 144 s.toNat ≤ 24) ∧ (1 ≤ s → 0 ≤ M 143 s.toNat ∧ M 143 s.toNat < 6) ∧ (0 ≤ M 146 s.toNat ∧ M 146 s.toNat < 16777216)
theorem qPc_b (a n : Nat) : 0 ≤ qPc a n ∧ qPc a n ≤ n := qN_b _ n
theorem qPr_lt (M : zM) (n : Nat) : qPr M n < 16777216 := qBm_lt _ 24
theorem qPr_su {M : zM} {n : Nat} (h1 : 1 ≤ n) (h2 : 0 ≤ M 143 n) (h3 : M 143 n < 6) : zI2 (· ||| ·) ((qPr M n : Nat) : Int) (zI2 zShl 1 (M 143 n)) = ((qPr M (n + 1) : Nat) : Int) := by
  have hl := qPr_lt M n
  have hp : 2 ^ (M 143 n).toNat ≤ 2 ^ 6 := Nat.pow_le_pow_right (by decide) (by omega)
  rw [show M 143 n = (((M 143 n).toNat : Nat) : Int) by omega, zn_shl1 _ (by omega), zn_or (by omega) (by omega)]
  congr 1
  unfold qPr
  apply qBm_uniq
  · exact Nat.or_lt_two_pow hl (Nat.pow_lt_pow_right (by decide) (by omega))
  · intro k hk
    rw [Nat.testBit_or, qBm_bit, Nat.testBit_two_pow]
    simp only [qEx]
    rw [show decide (k < 24) = true from decide_eq_true hk, Bool.true_and]
    congr 1
    rw [Bool.eq_iff_iff, decide_eq_true_iff, decide_eq_true_iff]
    rw [show ((n : Int)).toNat = n by omega]
    omega
theorem lp_Sm_vp1 (hw : qWf M) {Qx : Option zV → zM → Prop} {v p : Int} (p0 : 0 ≤ p) (p1 : p < M 132 9) (v0 : 0 ≤ v) (v1 : v ≤ p) (hq : ∀ (u1 u2 : zV), wp L 2 zm_Stemma_variedPlaces 4 [rV 132, iV (v + qB (qEx (fun s => decide (¬ qRS M s p = qRS M 0 p)) (M 132 8).toNat)), iV (p + 1), u1, u2] [] M Qx) : ∀ (n9 : Nat) (k : Nat) (s : Int) (b : Int), M 132 8 + 1 - s < n9 → (s = (k : Int) + 1) → (s ≤ 1 ∨ s ≤ M 132 8) → (b = qB (qEx (fun s => decide (¬ qRS M s p = qRS M 0 p)) (k + 1))) → wp L 2 zm_Stemma_variedPlaces 17 [rV 132, iV v, iV p, iV b, iV s] [] M (Qx) := by
  intro n9
  induction n9 with
  | zero =>
    intro k  s  b  h9 g1 g2 g3
    have hw1 := hw.1
    exact absurd h9 (by omega)
  | succ n9 ih =>
    intro k  s  b  h9 g1 g2 g3
    have hw1 := hw.1
    have hw2 := hw.2.1
    refine wp_iload (pc := 17) d_Stemma_variedPlaces_17 rfl ?_
    refine wp_aload_n (pc := 19) d_Stemma_variedPlaces_19 rfl ?_
    refine wp_getI (pc := 20) d_Stemma_variedPlaces_20 rfl (by decide) (zk_132 L) ?_
    refine wp_icmp_ge (tgt := 58) (pc := 23) d_Stemma_variedPlaces_23 rfl (fun c23 => ?_) (fun c23 => ?_)
    · refine wp_iload_n (pc := 58) d_Stemma_variedPlaces_58 rfl ?_
      refine wp_iload_n (pc := 59) d_Stemma_variedPlaces_59 rfl ?_
      refine wp_if_eq (tgt := 67) (pc := 60) d_Stemma_variedPlaces_60 rfl (fun c60 => ?_) (fun c60 => ?_)
      · refine wp_iconst (pc := 67) d_Stemma_variedPlaces_67 rfl ?_
        refine wp_iadd (pc := 68) d_Stemma_variedPlaces_68 (by omega) (by omega) ?_
        refine wp_ist1 (pc := 69) d_Stemma_variedPlaces_69 rfl ?_
        refine wp_iinc2 (pc := 70) d_Stemma_variedPlaces_70 rfl (by omega) (by omega) ?_
        refine wp_goto (tgt := 4) (pc := 73) d_Stemma_variedPlaces_73 rfl ?_
        have he : qEx (fun s => decide (¬ qRS M s p = qRS M 0 p)) (k + 1) = qEx (fun s => decide (¬ qRS M s p = qRS M 0 p)) (M 132 8).toNat := by
          by_cases e : M 132 8 = 0
          · rw [show k = 0 by omega, e]; simp [qEx]
          · rw [show k + 1 = (M 132 8).toNat by omega]
        rw [he] at g3
        rw [g3] at c60
        first
        | (have := hq (iV b) (iV s)
           rw [qB_0 c60] at this
           exact this)
        | (have := hq (iV b) (iV s)
           rw [qB_1 c60] at this
           exact this)
      · refine wp_iconst (pc := 63) d_Stemma_variedPlaces_63 rfl ?_
        refine wp_goto (tgt := 68) (pc := 64) d_Stemma_variedPlaces_64 rfl ?_
        refine wp_iadd (pc := 68) d_Stemma_variedPlaces_68 (by omega) (by omega) ?_
        refine wp_ist1 (pc := 69) d_Stemma_variedPlaces_69 rfl ?_
        refine wp_iinc2 (pc := 70) d_Stemma_variedPlaces_70 rfl (by omega) (by omega) ?_
        refine wp_goto (tgt := 4) (pc := 73) d_Stemma_variedPlaces_73 rfl ?_
        have he : qEx (fun s => decide (¬ qRS M s p = qRS M 0 p)) (k + 1) = qEx (fun s => decide (¬ qRS M s p = qRS M 0 p)) (M 132 8).toNat := by
          by_cases e : M 132 8 = 0
          · rw [show k = 0 by omega, e]; simp [qEx]
          · rw [show k + 1 = (M 132 8).toNat by omega]
        rw [he] at g3
        rw [g3] at c60
        first
        | (have := hq (iV b) (iV s)
           rw [qB_0 c60] at this
           exact this)
        | (have := hq (iV b) (iV s)
           rw [qB_1 c60] at this
           exact this)
    · refine wp_iload_n (pc := 26) d_Stemma_variedPlaces_26 rfl ?_
      refine wp_if_ne (tgt := 46) (pc := 27) d_Stemma_variedPlaces_27 rfl (fun c27 => ?_) (fun c27 => ?_)
      · refine wp_iconst (pc := 46) d_Stemma_variedPlaces_46 rfl ?_
        refine wp_goto (tgt := 51) (pc := 47) d_Stemma_variedPlaces_47 rfl ?_
        refine wp_ist3 (pc := 51) d_Stemma_variedPlaces_51 rfl ?_
        refine wp_iinc4 (pc := 52) d_Stemma_variedPlaces_52 rfl (by omega) (by omega) ?_
        refine wp_goto (tgt := 17) (pc := 55) d_Stemma_variedPlaces_55 rfl ?_
        refine ih (k + 1) (s + 1) _ (by omega) (by omega) (Or.inr (by omega)) ?_
        rw [qEx_s _ (k + 1)]
        rw [show ((k + 1 : Nat) : Int) = s by omega]
        rw [g3] at c27
        first
        | (rw [qB_1 c27, Bool.true_or]; rfl)
        | (rw [qB_0 (Decidable.of_not_not c27), Bool.false_or, decide_eq_true c43]; rfl)
        | (rw [qB_0 (Decidable.of_not_not c27), Bool.false_or, decide_eq_false (fun z => z c43)]; rfl)
      · refine wp_aload_n (pc := 30) d_Stemma_variedPlaces_30 rfl ?_
        refine wp_iload (pc := 31) d_Stemma_variedPlaces_31 rfl ?_
        refine wp_iload_n (pc := 33) d_Stemma_variedPlaces_33 rfl ?_
        refine wp_callV2f (pc := 34) d_Stemma_variedPlaces_34 rfl rfl (zk_132 L) rfl rfl (c_Sm_rdS hw.2.1.2 hw.1.2) ?_
        refine wp_aload_n (pc := 37) d_Stemma_variedPlaces_37 rfl ?_
        refine wp_iconst (pc := 38) d_Stemma_variedPlaces_38 rfl ?_
        refine wp_iload_n (pc := 39) d_Stemma_variedPlaces_39 rfl ?_
        refine wp_callV2f (pc := 40) d_Stemma_variedPlaces_40 rfl rfl (zk_132 L) rfl rfl (c_Sm_rdS hw.2.1.2 hw.1.2) ?_
        refine wp_icmp_eq (tgt := 50) (pc := 43) d_Stemma_variedPlaces_43 rfl (fun c43 => ?_) (fun c43 => ?_)
        · refine wp_iconst (pc := 50) d_Stemma_variedPlaces_50 rfl ?_
          refine wp_ist3 (pc := 51) d_Stemma_variedPlaces_51 rfl ?_
          refine wp_iinc4 (pc := 52) d_Stemma_variedPlaces_52 rfl (by omega) (by omega) ?_
          refine wp_goto (tgt := 17) (pc := 55) d_Stemma_variedPlaces_55 rfl ?_
          refine ih (k + 1) (s + 1) _ (by omega) (by omega) (Or.inr (by omega)) ?_
          rw [qEx_s _ (k + 1)]
          rw [show ((k + 1 : Nat) : Int) = s by omega]
          rw [g3] at c27
          first
          | (rw [qB_1 c27, Bool.true_or]; rfl)
          | (rw [qB_0 (Decidable.of_not_not c27), Bool.false_or, decide_eq_true c43]; rfl)
          | (rw [qB_0 (Decidable.of_not_not c27), Bool.false_or, decide_eq_false (fun z => z c43)]; rfl)
        · refine wp_iconst (pc := 46) d_Stemma_variedPlaces_46 rfl ?_
          refine wp_goto (tgt := 51) (pc := 47) d_Stemma_variedPlaces_47 rfl ?_
          refine wp_ist3 (pc := 51) d_Stemma_variedPlaces_51 rfl ?_
          refine wp_iinc4 (pc := 52) d_Stemma_variedPlaces_52 rfl (by omega) (by omega) ?_
          refine wp_goto (tgt := 17) (pc := 55) d_Stemma_variedPlaces_55 rfl ?_
          refine ih (k + 1) (s + 1) _ (by omega) (by omega) (Or.inr (by omega)) ?_
          rw [qEx_s _ (k + 1)]
          rw [show ((k + 1 : Nat) : Int) = s by omega]
          rw [g3] at c27
          first
          | (rw [qB_1 c27, Bool.true_or]; rfl)
          | (rw [qB_0 (Decidable.of_not_not c27), Bool.false_or, decide_eq_true c43]; rfl)
          | (rw [qB_0 (Decidable.of_not_not c27), Bool.false_or, decide_eq_false (fun z => z c43)]; rfl)
theorem lp_Sm_vp (hw : qWf M) : ∀ (n9 : Nat) (k : Nat) (v : Int) (p : Int) (u1 : zV) (u2 : zV), M 132 9 - p < n9 → (p = k) → (p ≤ M 132 9) → (v = qN (fun p => qEx (fun s => decide (¬ qRS M s p = qRS M 0 p)) (M 132 8).toNat) k) → wp L 2 zm_Stemma_variedPlaces 4 [rV 132, iV v, iV p, u1, u2] [] M (fun r M' => r = some (iV (qVp M)) ∧ M' = M) := by
  intro n9
  induction n9 with
  | zero =>
    intro k  v  p  u1  u2  h9 g1 g2 g3
    exact absurd h9 (by omega)
  | succ n9 ih =>
    intro k  v  p  u1  u2  h9 g1 g2 g3
    have hw1 := hw.1
    have hw2 := hw.2.1
    have hv := qN_b (fun p => qEx (fun s => decide (¬ qRS M s p = qRS M 0 p)) (M 132 8).toNat) k
    refine wp_iload_n (pc := 4) d_Stemma_variedPlaces_4 rfl ?_
    refine wp_aload_n (pc := 5) d_Stemma_variedPlaces_5 rfl ?_
    refine wp_getI (pc := 6) d_Stemma_variedPlaces_6 rfl (by decide) (zk_132 L) ?_
    refine wp_icmp_ge (tgt := 76) (pc := 9) d_Stemma_variedPlaces_9 rfl (fun c9 => ?_) (fun c9 => ?_)
    · refine wp_iload_n (pc := 76) d_Stemma_variedPlaces_76 rfl ?_
      refine wp_ireturn (pc := 77) d_Stemma_variedPlaces_77 rfl ?_
      exact ⟨by unfold qVp; rw [g3, show (M 132 9).toNat = k by omega], rfl⟩
    · refine wp_iconst (pc := 12) d_Stemma_variedPlaces_12 rfl ?_
      refine wp_ist3 (pc := 13) d_Stemma_variedPlaces_13 rfl ?_
      refine wp_iconst (pc := 14) d_Stemma_variedPlaces_14 rfl ?_
      refine wp_ist4 (pc := 15) d_Stemma_variedPlaces_15 rfl ?_
      refine lp_Sm_vp1 hw (by omega) (by omega) (by omega) (by omega) (fun w1 w2 => ih (k + 1) _ (p + 1) w1 w2 (by omega) (by omega) (by omega) ?_) 100 0 1 0 (by omega) rfl (Or.inl (by omega)) (by simp [qEx, qB])
      show _ = _ + (if _ = true then 1 else 0)
      rw [g3, g1]
      rfl
theorem c_Sm_vp (hw : qWf M) : Cf L 2 zm_Stemma_variedPlaces [rV 132] M (iV (qVp M)) M := by
  show wp L _ zm_Stemma_variedPlaces 0 [rV 132, uV, uV, uV, uV] [] M _
  refine wp_iconst (pc := 0) d_Stemma_variedPlaces_0 rfl ?_
  refine wp_ist1 (pc := 1) d_Stemma_variedPlaces_1 rfl ?_
  refine wp_iconst (pc := 2) d_Stemma_variedPlaces_2 rfl ?_
  refine wp_ist2 (pc := 3) d_Stemma_variedPlaces_3 rfl ?_
  exact lp_Sm_vp hw 100 0 0 0 _ _ (by have := hw.2.1; omega) rfl hw.2.1.1 rfl
theorem lp_Sm_rv (hw : qWf M) : ∀ (n9 : Nat) (k : Nat) (v : Int) (s : Int), M 132 8 - s < n9 → (s = k) → (s ≤ M 132 8) → (v = qS (fun s => qPc (M 146 s.toNat).toNat 24) k) → wp L 1 zm_Stemma_reversions 4 [rV 132, iV v, iV s] [] M (fun r M' => r = some (iV (qS (fun s => qPc (M 146 s.toNat).toNat 24) (M 132 8).toNat)) ∧ M' = M) := by
  intro n9
  induction n9 with
  | zero =>
    intro k  v  s  h9 g1 g2 g3
    exact absurd h9 (by omega)
  | succ n9 ih =>
    intro k  v  s  h9 g1 g2 g3
    have hw1 := hw.1
    have hv := qS_b (f := (fun s => qPc (M 146 s.toNat).toNat 24)) (B := 24) (n := k) (fun s s0 s1 => qPc_b _ 24)
    refine wp_iload_n (pc := 4) d_Stemma_reversions_4 rfl ?_
    refine wp_aload_n (pc := 5) d_Stemma_reversions_5 rfl ?_
    refine wp_getI (pc := 6) d_Stemma_reversions_6 rfl (by decide) (zk_132 L) ?_
    refine wp_icmp_ge (tgt := 30) (pc := 9) d_Stemma_reversions_9 rfl (fun c9 => ?_) (fun c9 => ?_)
    · refine wp_iload_n (pc := 30) d_Stemma_reversions_30 rfl ?_
      refine wp_ireturn (pc := 31) d_Stemma_reversions_31 rfl ?_
      exact ⟨by rw [g3, show (M 132 8).toNat = k by omega], rfl⟩
    · have hm := (hw.2.2 s (by omega) (by omega)).2.2
      have hb := qPc_b (M 146 s.toNat).toNat 24
      refine wp_iload_n (pc := 12) d_Stemma_reversions_12 rfl ?_
      refine wp_aload_n (pc := 13) d_Stemma_reversions_13 rfl ?_
      refine wp_getR (pc := 14) d_Stemma_reversions_14 rfl (zk_132 L) zx_132_7 ?_
      refine wp_iload_n (pc := 17) d_Stemma_reversions_17 rfl ?_
      refine wp_iald (pc := 18) d_Stemma_reversions_18 (zk_146 L) (by omega) (by omega) ?_
      rw [show M 146 s.toNat = (((M 146 s.toNat).toNat : Nat) : Int) by omega]
      refine wp_callS1f (pc := 19) d_Stemma_reversions_19 rfl rfl rfl rfl rfl (c_bitCount (x := (M 146 s.toNat).toNat) (by omega)) ?_
      refine wp_iadd (pc := 22) d_Stemma_reversions_22 (by omega) (by omega) ?_
      refine wp_ist1 (pc := 23) d_Stemma_reversions_23 rfl ?_
      refine wp_iinc2 (pc := 24) d_Stemma_reversions_24 rfl (by omega) (by omega) ?_
      refine wp_goto (tgt := 4) (pc := 27) d_Stemma_reversions_27 rfl ?_
      refine ih (k + 1) _ (s + 1) (by omega) (by omega) (by omega) ?_
      simp only [qS]
      rw [g3, g1]
theorem c_Sm_rv (hw : qWf M) : Cf L 1 zm_Stemma_reversions [rV 132] M (iV (qS (fun s => qPc (M 146 s.toNat).toNat 24) (M 132 8).toNat)) M := by
  show wp L _ zm_Stemma_reversions 0 [rV 132, uV, uV] [] M _
  refine wp_iconst (pc := 0) d_Stemma_reversions_0 rfl ?_
  refine wp_ist1 (pc := 1) d_Stemma_reversions_1 rfl ?_
  refine wp_iconst (pc := 2) d_Stemma_reversions_2 rfl ?_
  refine wp_ist2 (pc := 3) d_Stemma_reversions_3 rfl ?_
  exact lp_Sm_rv hw 100 0 0 0 (by have := hw.1; omega) rfl hw.1.1 rfl
theorem lp_Sm_lv (hw : qWf M) : ∀ (n9 : Nat) (k : Nat) (v : Int) (s : Int), M 132 8 + 1 - s < n9 → (1 ≤ s) → (s = k) → (s ≤ 1 ∨ s ≤ M 132 8) → (v = ((qPr M k : Nat) : Int)) → wp L 1 zm_Stemma_leaves 4 [rV 132, iV v, iV s] [] M (fun r M' => r = some (iV (M 132 8 - qPc (qPr M (M 132 8).toNat) 24)) ∧ M' = M) := by
  intro n9
  induction n9 with
  | zero =>
    intro k  v  s  h9 g0 g1 g2 g3
    have hw1 := hw.1
    exact absurd h9 (by omega)
  | succ n9 ih =>
    intro k  v  s  h9 g0 g1 g2 g3
    have hw1 := hw.1
    have hpl := qPr_lt M k
    have hpb := qPc_b (qPr M k) 24
    refine wp_iload_n (pc := 4) d_Stemma_leaves_4 rfl ?_
    refine wp_aload_n (pc := 5) d_Stemma_leaves_5 rfl ?_
    refine wp_getI (pc := 6) d_Stemma_leaves_6 rfl (by decide) (zk_132 L) ?_
    refine wp_icmp_ge (tgt := 29) (pc := 9) d_Stemma_leaves_9 rfl (fun c9 => ?_) (fun c9 => ?_)
    · refine wp_aload_n (pc := 29) d_Stemma_leaves_29 rfl ?_
      refine wp_getI (pc := 30) d_Stemma_leaves_30 rfl (by decide) (zk_132 L) ?_
      refine wp_iload_n (pc := 33) d_Stemma_leaves_33 rfl ?_
      rw [g3]
      refine wp_callS1f (pc := 34) d_Stemma_leaves_34 rfl rfl rfl rfl rfl (c_bitCount (x := qPr M k) (by omega)) ?_
      refine wp_isub (pc := 37) d_Stemma_leaves_37 (by omega) (by omega) ?_
      refine wp_ireturn (pc := 38) d_Stemma_leaves_38 rfl ?_
      have he : qPr M k = qPr M (M 132 8).toNat := by
        by_cases e : M 132 8 = 0
        · rw [show k = 1 by omega, e]; exact qBm_congr (fun k _ => by simp [qEx])
        · rw [show k = (M 132 8).toNat by omega]
      exact ⟨by rw [he], rfl⟩
    · have hm := (hw.2.2 s (by omega) (by omega)).2.1 (by omega)
      rw [show s.toNat = k by omega] at hm
      refine wp_iload_n (pc := 12) d_Stemma_leaves_12 rfl ?_
      refine wp_iconst (pc := 13) d_Stemma_leaves_13 rfl ?_
      refine wp_aload_n (pc := 14) d_Stemma_leaves_14 rfl ?_
      refine wp_getR (pc := 15) d_Stemma_leaves_15 rfl (zk_132 L) zx_132_4 ?_
      refine wp_iload_n (pc := 18) d_Stemma_leaves_18 rfl ?_
      refine wp_iald (pc := 19) d_Stemma_leaves_19 (zk_143 L) (by omega) (by omega) ?_
      refine wp_ishl (v := _) (pc := 20) d_Stemma_leaves_20 rfl ?_
      refine wp_ior (v := _) (pc := 21) d_Stemma_leaves_21 rfl ?_
      refine wp_ist1 (pc := 22) d_Stemma_leaves_22 rfl ?_
      refine wp_iinc2 (pc := 23) d_Stemma_leaves_23 rfl (by omega) (by omega) ?_
      refine wp_goto (tgt := 4) (pc := 26) d_Stemma_leaves_26 rfl ?_
      refine ih (k + 1) _ (s + 1) (by omega) (by omega) (by omega) (Or.inr (by omega)) ?_
      rw [g3, show s.toNat = k by omega]
      exact qPr_su (by omega) hm.1 hm.2
theorem c_Sm_lv (hw : qWf M) : Cf L 1 zm_Stemma_leaves [rV 132] M (iV (M 132 8 - qPc (qPr M (M 132 8).toNat) 24)) M := by
  show wp L _ zm_Stemma_leaves 0 [rV 132, uV, uV] [] M _
  refine wp_iconst (pc := 0) d_Stemma_leaves_0 rfl ?_
  refine wp_ist1 (pc := 1) d_Stemma_leaves_1 rfl ?_
  refine wp_iconst (pc := 2) d_Stemma_leaves_2 rfl ?_
  refine wp_ist2 (pc := 3) d_Stemma_leaves_3 rfl ?_
  exact lp_Sm_lv hw 100 1 0 1 (by have := hw.1; omega) (by omega) rfl (Or.inl (by omega)) (by rw [show qPr M 1 = 0 from (qBm_congr (c' := fun _ => false) (fun k _ => by simp [qEx])).trans (by decide)]; rfl)
theorem c_Sm_de (hw : qWf M) {s w : Int} (s0 : 0 ≤ s) (s1 : s < M 132 8) : Cf L 3 zm_Stemma_describe [rV 132, iV s, iV w] M (iV (qDe M s w)) M := by
  show wp L _ zm_Stemma_describe 0 [rV 132, iV s, iV w] [] M _
  have hw1 := hw.1
  have hm := (hw.2.2 s (by omega) (by omega)).2.2
  refine wp_aload_n (pc := 0) d_Stemma_describe_0 rfl ?_
  refine wp_iload_n (pc := 1) d_Stemma_describe_1 rfl ?_
  refine wp_callV1f (pc := 2) d_Stemma_describe_2 rfl rfl (zk_132 L) rfl rfl c_Sm_has ?_
  refine wp_if_ne (tgt := 10) (pc := 5) d_Stemma_describe_5 rfl (fun c5 => ?_) (fun c5 => ?_)
  · refine wp_iload_n (pc := 10) d_Stemma_describe_10 rfl ?_
    rcases zsw6 0 w with c11 | c11 | c11 | c11 | c11 | c11 | c11
    · refine wp_tableO (tgt := 92) (pc := 11) d_Stemma_describe_11 (by omega) rfl ?_
      refine wp_aload_n (pc := 92) d_Stemma_describe_92 rfl ?_
      refine wp_getR (pc := 93) d_Stemma_describe_93 rfl (zk_132 L) zx_132_6 ?_
      refine wp_iload_n (pc := 96) d_Stemma_describe_96 rfl ?_
      refine wp_iald (pc := 97) d_Stemma_describe_97 (zk_145 L) (by omega) (by omega) ?_
      refine wp_ireturn (pc := 98) d_Stemma_describe_98 rfl ?_
      refine ⟨?_, rfl⟩
      unfold qDe
      first | (subst c11; rfl) | (rw [if_neg (by omega), if_neg (by omega), if_neg (by omega), if_neg (by omega), if_neg (by omega), if_neg (by omega)])
    · refine wp_tableI (tgt := 48) (off := 37) (pc := 11) d_Stemma_describe_11 (by omega) (by omega) (by rw [c11]; rfl) rfl ?_
      refine wp_aload_n (pc := 48) d_Stemma_describe_48 rfl ?_
      refine wp_getR (pc := 49) d_Stemma_describe_49 rfl (zk_132 L) zx_132_2 ?_
      refine wp_iload_n (pc := 52) d_Stemma_describe_52 rfl ?_
      refine wp_iald (pc := 53) d_Stemma_describe_53 (zk_141 L) (by omega) (by omega) ?_
      refine wp_ireturn (pc := 54) d_Stemma_describe_54 rfl ?_
      refine ⟨?_, rfl⟩
      unfold qDe
      first | (subst c11; rfl) | (rw [if_neg (by omega), if_neg (by omega), if_neg (by omega), if_neg (by omega), if_neg (by omega), if_neg (by omega)])
    · refine wp_tableI (tgt := 55) (off := 44) (pc := 11) d_Stemma_describe_11 (by omega) (by omega) (by rw [c11]; rfl) rfl ?_
      refine wp_aload_n (pc := 55) d_Stemma_describe_55 rfl ?_
      refine wp_getR (pc := 56) d_Stemma_describe_56 rfl (zk_132 L) zx_132_3 ?_
      refine wp_iload_n (pc := 59) d_Stemma_describe_59 rfl ?_
      refine wp_iald (pc := 60) d_Stemma_describe_60 (zk_142 L) (by omega) (by omega) ?_
      refine wp_ireturn (pc := 61) d_Stemma_describe_61 rfl ?_
      refine ⟨?_, rfl⟩
      unfold qDe
      first | (subst c11; rfl) | (rw [if_neg (by omega), if_neg (by omega), if_neg (by omega), if_neg (by omega), if_neg (by omega), if_neg (by omega)])
    · refine wp_tableI (tgt := 62) (off := 51) (pc := 11) d_Stemma_describe_11 (by omega) (by omega) (by rw [c11]; rfl) rfl ?_
      refine wp_aload_n (pc := 62) d_Stemma_describe_62 rfl ?_
      refine wp_getR (pc := 63) d_Stemma_describe_63 rfl (zk_132 L) zx_132_4 ?_
      refine wp_iload_n (pc := 66) d_Stemma_describe_66 rfl ?_
      refine wp_iald (pc := 67) d_Stemma_describe_67 (zk_143 L) (by omega) (by omega) ?_
      refine wp_ireturn (pc := 68) d_Stemma_describe_68 rfl ?_
      refine ⟨?_, rfl⟩
      unfold qDe
      first | (subst c11; rfl) | (rw [if_neg (by omega), if_neg (by omega), if_neg (by omega), if_neg (by omega), if_neg (by omega), if_neg (by omega)])
    · refine wp_tableI (tgt := 69) (off := 58) (pc := 11) d_Stemma_describe_11 (by omega) (by omega) (by rw [c11]; rfl) rfl ?_
      refine wp_aload_n (pc := 69) d_Stemma_describe_69 rfl ?_
      refine wp_getR (pc := 70) d_Stemma_describe_70 rfl (zk_132 L) zx_132_5 ?_
      refine wp_iload_n (pc := 73) d_Stemma_describe_73 rfl ?_
      refine wp_iald (pc := 74) d_Stemma_describe_74 (zk_144 L) (by omega) (by omega) ?_
      refine wp_ireturn (pc := 75) d_Stemma_describe_75 rfl ?_
      refine ⟨?_, rfl⟩
      unfold qDe
      first | (subst c11; rfl) | (rw [if_neg (by omega), if_neg (by omega), if_neg (by omega), if_neg (by omega), if_neg (by omega), if_neg (by omega)])
    · refine wp_tableI (tgt := 76) (off := 65) (pc := 11) d_Stemma_describe_11 (by omega) (by omega) (by rw [c11]; rfl) rfl ?_
      refine wp_aload_n (pc := 76) d_Stemma_describe_76 rfl ?_
      refine wp_iload_n (pc := 77) d_Stemma_describe_77 rfl ?_
      refine wp_callV1f (pc := 78) d_Stemma_describe_78 rfl rfl (zk_132 L) rfl rfl (c_Sm_anc hw.1.1 hw.1.2) ?_
      refine wp_ireturn (pc := 81) d_Stemma_describe_81 rfl ?_
      refine ⟨?_, rfl⟩
      unfold qDe
      first | (subst c11; rfl) | (rw [if_neg (by omega), if_neg (by omega), if_neg (by omega), if_neg (by omega), if_neg (by omega), if_neg (by omega)])
    · refine wp_tableI (tgt := 82) (off := 71) (pc := 11) d_Stemma_describe_11 (by omega) (by omega) (by rw [c11]; rfl) rfl ?_
      refine wp_aload_n (pc := 82) d_Stemma_describe_82 rfl ?_
      refine wp_getR (pc := 83) d_Stemma_describe_83 rfl (zk_132 L) zx_132_7 ?_
      refine wp_iload_n (pc := 86) d_Stemma_describe_86 rfl ?_
      refine wp_iald (pc := 87) d_Stemma_describe_87 (zk_146 L) (by omega) (by omega) ?_
      rw [show M 146 s.toNat = (((M 146 s.toNat).toNat : Nat) : Int) by omega]
      refine wp_callS1f (pc := 88) d_Stemma_describe_88 rfl rfl rfl rfl rfl (c_bitCount (x := (M 146 s.toNat).toNat) (by omega)) ?_
      refine wp_ireturn (pc := 91) d_Stemma_describe_91 rfl ?_
      refine ⟨?_, rfl⟩
      unfold qDe
      first | (subst c11; rfl) | (rw [if_neg (by omega), if_neg (by omega), if_neg (by omega), if_neg (by omega), if_neg (by omega), if_neg (by omega)])
  · exact absurd (zb_eq0 (Decidable.of_not_not c5)) (by omega)
theorem c_Sm_da (hw : qWf M) {w : Int} : Cf L 3 zm_Stemma_describeAll [rV 132, iV w] M (iV (qDa M w)) M := by
  show wp L _ zm_Stemma_describeAll 0 [rV 132, iV w] [] M _
  refine wp_iload_n (pc := 0) d_Stemma_describeAll_0 rfl ?_
  rcases zsw5 0 w with c1 | c1 | c1 | c1 | c1 | c1
  · refine wp_tableO (tgt := 61) (pc := 1) d_Stemma_describeAll_1 (by omega) rfl ?_
    refine wp_aload_n (pc := 61) d_Stemma_describeAll_61 rfl ?_
    refine wp_callV0f (pc := 62) d_Stemma_describeAll_62 rfl rfl (zk_132 L) rfl rfl (c_Sm_lv hw) ?_
    refine wp_ireturn (pc := 65) d_Stemma_describeAll_65 rfl ?_
    refine ⟨?_, rfl⟩
    unfold qDa
    first | (subst c1; rfl) | (rw [if_neg (by omega), if_neg (by omega), if_neg (by omega), if_neg (by omega), if_neg (by omega)])
  · refine wp_tableI (tgt := 36) (off := 35) (pc := 1) d_Stemma_describeAll_1 (by omega) (by omega) (by rw [c1]; rfl) rfl ?_
    refine wp_aload_n (pc := 36) d_Stemma_describeAll_36 rfl ?_
    refine wp_getI (pc := 37) d_Stemma_describeAll_37 rfl (by decide) (zk_132 L) ?_
    refine wp_ireturn (pc := 40) d_Stemma_describeAll_40 rfl ?_
    refine ⟨?_, rfl⟩
    unfold qDa
    first | (subst c1; rfl) | (rw [if_neg (by omega), if_neg (by omega), if_neg (by omega), if_neg (by omega), if_neg (by omega)])
  · refine wp_tableI (tgt := 41) (off := 40) (pc := 1) d_Stemma_describeAll_1 (by omega) (by omega) (by rw [c1]; rfl) rfl ?_
    refine wp_aload_n (pc := 41) d_Stemma_describeAll_41 rfl ?_
    refine wp_getI (pc := 42) d_Stemma_describeAll_42 rfl (by decide) (zk_132 L) ?_
    refine wp_ireturn (pc := 45) d_Stemma_describeAll_45 rfl ?_
    refine ⟨?_, rfl⟩
    unfold qDa
    first | (subst c1; rfl) | (rw [if_neg (by omega), if_neg (by omega), if_neg (by omega), if_neg (by omega), if_neg (by omega)])
  · refine wp_tableI (tgt := 46) (off := 45) (pc := 1) d_Stemma_describeAll_1 (by omega) (by omega) (by rw [c1]; rfl) rfl ?_
    refine wp_aload_n (pc := 46) d_Stemma_describeAll_46 rfl ?_
    refine wp_callV0f (pc := 47) d_Stemma_describeAll_47 rfl rfl (zk_132 L) rfl rfl (c_Sm_len hw.1.1 hw.1.2 (fun k k0 k1 => (hw.2.2 k k0 k1).1)) ?_
    refine wp_ireturn (pc := 50) d_Stemma_describeAll_50 rfl ?_
    refine ⟨?_, rfl⟩
    unfold qDa
    first | (subst c1; rfl) | (rw [if_neg (by omega), if_neg (by omega), if_neg (by omega), if_neg (by omega), if_neg (by omega)])
  · refine wp_tableI (tgt := 51) (off := 50) (pc := 1) d_Stemma_describeAll_1 (by omega) (by omega) (by rw [c1]; rfl) rfl ?_
    refine wp_aload_n (pc := 51) d_Stemma_describeAll_51 rfl ?_
    refine wp_callV0f (pc := 52) d_Stemma_describeAll_52 rfl rfl (zk_132 L) rfl rfl (c_Sm_vp hw) ?_
    refine wp_ireturn (pc := 55) d_Stemma_describeAll_55 rfl ?_
    refine ⟨?_, rfl⟩
    unfold qDa
    first | (subst c1; rfl) | (rw [if_neg (by omega), if_neg (by omega), if_neg (by omega), if_neg (by omega), if_neg (by omega)])
  · refine wp_tableI (tgt := 56) (off := 55) (pc := 1) d_Stemma_describeAll_1 (by omega) (by omega) (by rw [c1]; rfl) rfl ?_
    refine wp_aload_n (pc := 56) d_Stemma_describeAll_56 rfl ?_
    refine wp_callV0f (pc := 57) d_Stemma_describeAll_57 rfl rfl (zk_132 L) rfl rfl (c_Sm_rv hw) ?_
    refine wp_ireturn (pc := 60) d_Stemma_describeAll_60 rfl ?_
    refine ⟨?_, rfl⟩
    unfold qDa
    first | (subst c1; rfl) | (rw [if_neg (by omega), if_neg (by omega), if_neg (by omega), if_neg (by omega), if_neg (by omega)])
end ZSt6
