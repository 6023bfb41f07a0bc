/-! the model's formes in time: bits, ahead, ways -/
theorem zh1 {b : Bool} (h : ¬ (if b = true then (1 : Int) else 0) = 1) : b = false := by cases b; rfl; exact absurd rfl h
theorem zh2 {b : Bool} (h : (if b = true then (1 : Int) else 0) = 1) : b = true := by cases b; exact absurd h (by decide); rfl
theorem zn_shlI {a : Int} (h0 : 0 ≤ a) (h1 : a < 31) : zI2 zShl 1 a = ((2 ^ a.toNat : Nat) : Int) := by
  have := zn_shl1 a.toNat (by omega)
  rwa [show ((a.toNat : Nat) : Int) = a by omega] at this
theorem z2p {n : Nat} (h : n < 6) : 2 ^ n < 64 := show 2 ^ n < 2 ^ 6 from Nat.pow_lt_pow_right (by decide) h
/-- seen and ahead behind some sightings -/
def mSe (Y : qYt) (S : Int → Bool) (k : Nat) : Nat := qBm (fun f => qEx (fun i => S i && decide (Y.2 i 1 = (f : Int))) k) 6
def mI (Y : qYt) (S : Int → Bool) (i : Int) (f g m : Nat) : Bool := qEx (fun j => (S i && S j) && (decide (Y.2 i 1 = (f : Int) ∧ Y.2 j 1 = (g : Int)) && vLw Y i j)) m
def mA2 (Y : qYt) (S : Int → Bool) (k m f : Nat) : Nat := qBm (fun g => qEx (fun i => mI Y S i f g Y.1.toNat) k || mI Y S (k : Int) f g m) 6
def mIs (Y : qYt) (S : Int → Bool) (k m : Int) : Bool := (S k && S m) && vLw Y k m
theorem mSe_su {Y : qYt} {S : Int → Bool} {k : Nat} (h0 : 0 ≤ Y.2 (k : Int) 1) (h6 : Y.2 (k : Int) 1 < 6) : mSe Y S (k + 1) = mSe Y S k ||| (if S (k : Int) = true then 2 ^ (Y.2 (k : Int) 1).toNat else 0) := by
  unfold mSe
  by_cases e : S (k : Int) = true
  · rw [if_pos e]
    refine (qBm_or (k := (Y.2 (k : Int) 1).toNat) (by omega) (fun f hf => ?_)).symm
    rw [qEx_s, e, Bool.true_and]
    congr 1
    rw [Bool.eq_iff_iff, decide_eq_true_iff, decide_eq_true_iff]
    omega
  · rw [if_neg e, Nat.or_zero]
    refine qBm_congr (fun f hf => ?_)
    rw [qEx_s, Bool.eq_false_iff.2 e, Bool.false_and, Bool.or_false]
theorem mA2_su {Y : qYt} {S : Int → Bool} {k m f : Nat} (h0 : 0 ≤ Y.2 (k : Int) 1) (h1 : 0 ≤ Y.2 (m : Int) 1) (h6 : Y.2 (m : Int) 1 < 6) : mA2 Y S k (m + 1) f = if f = (Y.2 (k : Int) 1).toNat then mA2 Y S k m f ||| (if mIs Y S k m = true then 2 ^ (Y.2 (m : Int) 1).toNat else 0) else mA2 Y S k m f := by
  unfold mA2 mIs
  have hI : ∀ g, mI Y S (k : Int) f g (m + 1) = (mI Y S (k : Int) f g m || ((S (k : Int) && S (m : Int)) && (decide (Y.2 (k : Int) 1 = (f : Int) ∧ Y.2 (m : Int) 1 = (g : Int)) && vLw Y k m))) := fun g => rfl
  by_cases e : f = (Y.2 (k : Int) 1).toNat
  · rw [if_pos e]
    by_cases e2 : ((S (k : Int) && S (m : Int)) && vLw Y k m) = true
    · rw [if_pos e2]
      refine (qBm_or (k := (Y.2 (m : Int) 1).toNat) (by omega) (fun g hg => ?_)).symm
      rw [Bool.and_eq_true] at e2
      rw [hI, e2.1, e2.2, Bool.and_true, Bool.true_and, ← Bool.or_assoc]
      congr 1
      rw [Bool.eq_iff_iff, decide_eq_true_iff, decide_eq_true_iff]
      omega
    · rw [if_neg e2, Nat.or_zero]
      refine qBm_congr (fun g hg => ?_)
      rw [hI]
      have : ((S (k : Int) && S (m : Int)) && (decide (Y.2 (k : Int) 1 = (f : Int) ∧ Y.2 (m : Int) 1 = (g : Int)) && vLw Y k m)) = false := by
        rw [Bool.eq_false_iff]
        intro z
        rw [Bool.and_eq_true, Bool.and_eq_true, Bool.and_eq_true] at z
        exact e2 (by rw [z.1.1, z.1.2, z.2.2]; rfl)
      rw [this, Bool.or_false]
  · rw [if_neg e]
    refine qBm_congr (fun g hg => ?_)
    rw [hI, decide_eq_false (show ¬ (Y.2 (k : Int) 1 = (f : Int) ∧ Y.2 (m : Int) 1 = (g : Int)) by omega), Bool.false_and, Bool.and_false, Bool.or_false]
theorem mA2_0 (Y : qYt) (S : Int → Bool) (k f : Nat) : mA2 Y S k 0 f = qBm (fun g => qEx (fun i => mI Y S i f g Y.1.toNat) k) 6 := qBm_congr (fun g _ => Bool.or_false _)
theorem mA2_lt (Y : qYt) (S : Int → Bool) (k m f : Nat) : mA2 Y S k m f < 64 := qBm_lt _ 6
theorem mSe_lt (Y : qYt) (S : Int → Bool) (k : Nat) : mSe Y S k < 64 := qBm_lt _ 6
/-- seen and ahead are laid -/
def mAh (M : zM) (Y : qYt) (S : Int → Bool) : Prop := M 174 25 = ((vS Y S : Nat) : Int) ∧ ∀ f, f < 6 → M 190 f = ((vA Y S f : Nat) : Int)
theorem mAh.keep {P : Nat → Nat → Prop} {M M' : zM} {Y : qYt} {S : Int → Bool} (h : mAh M Y S) (hf : mF P M M') (h1 : ¬ P 174 25) (h2 : ∀ k, ¬ P 190 k) : mAh M' Y S := ⟨(hf _ _ h1).trans h.1, fun f f6 => (hf _ _ (h2 f)).trans (h.2 f f6)⟩
section ZM12
variable {L : Nat} {M : zM} {D : qDt} {Y : qYt} {S : Int → Bool} {A : Nat → Nat} {x y z w c p s i j : Int}
theorem c_M_has {a k : Nat} (ha : a < 2147483648) (hk : k < 31) : Cf L 0 zm_M_has [iV (a : Int), iV (k : Int)] M (iV (qB (a.testBit k))) M := by
  show wp L _ zm_M_has 0 [iV (a : Int), iV (k : Int)] [] M _
  refine wp_iload_n (pc := 0) d_M_has_0 rfl ?_
  refine wp_iload_n (pc := 1) d_M_has_1 rfl ?_
  refine wp_ishr (v := _) (pc := 2) d_M_has_2 rfl ?_
  refine wp_iconst (pc := 3) d_M_has_3 rfl ?_
  refine wp_iand (v := (if a.testBit k = true then 1 else 0)) (pc := 4) d_M_has_4 (zn_bit ha hk) ?_
  refine wp_iconst (pc := 5) d_M_has_5 rfl ?_
  refine wp_icmp_ne (tgt := 13) (pc := 6) d_M_has_6 rfl (fun c6 => ?_) (fun c6 => ?_)
  · refine wp_iconst (pc := 13) d_M_has_13 rfl ?_
    refine wp_zreturn (pc := 14) d_M_has_14 rfl (by omega) ?_
    first
    | exact ⟨congrArg (fun b => some (iV (qB b))) (zh1 c6).symm, rfl⟩
    | exact ⟨congrArg (fun b => some (iV (qB b))) (zh2 (Decidable.of_not_not c6)).symm, rfl⟩
  · refine wp_iconst (pc := 9) d_M_has_9 rfl ?_
    refine wp_goto (tgt := 14) (pc := 10) d_M_has_10 rfl ?_
    refine wp_zreturn (pc := 14) d_M_has_14 rfl (by omega) ?_
    first
    | exact ⟨congrArg (fun b => some (iV (qB b))) (zh1 c6).symm, rfl⟩
    | exact ⟨congrArg (fun b => some (iV (qB b))) (zh2 (Decidable.of_not_not c6)).symm, rfl⟩
theorem lp_M_many {u : Nat} (hu : u < 2147483648) : ∀ (n9 : Nat) (k : Nat) (v : Int), 12 - (k : Int) < n9 → (k ≤ 12) → (v = qN (fun j => u.testBit j.toNat) k) → wp L 0 zm_M_many 4 [iV (u : Int), iV v, iV k] [] M (fun r M' => r = some (iV (qPc u 12)) ∧ M' = M) := by
  intro n9
  induction n9 with
  | zero =>
    intro k  v  h9 g0 g1
    exact absurd h9 (by omega)
  | succ n9 ih =>
    intro k  v  h9 g0 g1
    have hv := qN_b (fun j => u.testBit j.toNat) k
    rw [← g1] at hv
    refine wp_iload_n (pc := 4) d_M_many_4 rfl ?_
    refine wp_bipush (pc := 5) d_M_many_5 rfl ?_
    refine wp_icmp_ge (tgt := 24) (pc := 7) d_M_many_7 rfl (fun c7 => ?_) (fun c7 => ?_)
    · refine wp_iload_n (pc := 24) d_M_many_24 rfl ?_
      refine wp_ireturn (pc := 25) d_M_many_25 rfl ?_
      refine ⟨?_, rfl⟩
      rw [g1, show k = 12 by omega]
      rfl
    · refine wp_iload_n (pc := 10) d_M_many_10 rfl ?_
      refine wp_iload_n (pc := 11) d_M_many_11 rfl ?_
      refine wp_iload_n (pc := 12) d_M_many_12 rfl ?_
      refine wp_ishr (v := _) (pc := 13) d_M_many_13 rfl ?_
      refine wp_iconst (pc := 14) d_M_many_14 rfl ?_
      refine wp_iand (v := (if u.testBit k = true then 1 else 0)) (pc := 15) d_M_many_15 (zn_bit hu (by omega)) ?_
      refine wp_iadd (pc := 16) d_M_many_16 (by split <;> omega) (by split <;> omega) ?_
      refine wp_ist1 (pc := 17) d_M_many_17 rfl ?_
      refine wp_iinc2 (pc := 18) d_M_many_18 rfl (by omega) (by omega) ?_
      refine wp_goto (tgt := 4) (pc := 21) d_M_many_21 rfl ?_
      refine ih (k + 1) _ (by omega) (by omega) ?_
      rw [g1]
      rfl
theorem c_M_many {u : Nat} (hu : u < 2147483648) : Cf L 0 zm_M_many [iV (u : Int)] M (iV (qPc u 12)) M := by
  show wp L _ zm_M_many 0 [iV (u : Int), uV, uV] [] M _
  refine wp_iconst (pc := 0) d_M_many_0 rfl ?_
  refine wp_ist1 (pc := 1) d_M_many_1 rfl ?_
  refine wp_iconst (pc := 2) d_M_many_2 rfl ?_
  refine wp_ist2 (pc := 3) d_M_many_3 rfl ?_
  exact lp_M_many hu 100 0 0 (by omega) (by omega) rfl
theorem c_M_allSightings (hy : mY M Y) (hi : qYi Y) : Cf L 0 zm_M_allSightings [rV 174] M (iV ((2 ^ Y.1.toNat - 1 : Nat) : Int)) M := by
  show wp L _ zm_M_allSightings 0 [rV 174] [] M _
  have e7 := hy.1
  have h12 := hi.1
  have hp : 2 ^ Y.1.toNat ≤ 2 ^ 12 := Nat.pow_le_pow_right (by decide) (by omega)
  have hp0 : 0 < 2 ^ Y.1.toNat := Nat.pow_pos (by decide)
  have e8 : zI2 zShl 1 Y.1 = ((2 ^ Y.1.toNat : Nat) : Int) := zn_shlI h12.1 (by omega)
  generalize 2 ^ Y.1.toNat = N at hp hp0 e8 ⊢
  refine wp_iconst (pc := 0) d_M_allSightings_0 rfl ?_
  refine wp_aload_n (pc := 1) d_M_allSightings_1 rfl ?_
  refine wp_getI (pc := 2) d_M_allSightings_2 rfl (by decide) (zk_174 L) ?_
  rw [e7]
  refine wp_ishl (v := (N : Int)) (pc := 5) d_M_allSightings_5 e8 ?_
  refine wp_iconst (pc := 6) d_M_allSightings_6 rfl ?_
  refine wp_isub (pc := 7) d_M_allSightings_7 (by omega) (by omega) ?_
  refine wp_ireturn (pc := 8) d_M_allSightings_8 rfl ?_
  exact ⟨congrArg (fun z => some (iV z)) (by omega), rfl⟩
theorem lp_M_cbf (hA : ∀ f, f < 6 → M 190 f = ((A f : Nat) : Int)) (hl : ∀ f, A f < 64) {t s : Nat} (ht : t < 6) (hs : s < 64) : ∀ (n9 : Nat) (k : Nat) (v : Int), 6 - (k : Int) < n9 → (k ≤ 6) → (v = qB (s.testBit t && !qEx (fun g => decide (¬ g = (t : Int)) && (s.testBit g.toNat && (A g.toNat).testBit t)) k)) → wp L 1 zm_M_canBeFirst 9 [rV 174, iV (t : Int), iV (s : Int), iV v, iV k] [] M (fun r M' => r = some (iV (qB (mCb A s t))) ∧ M' = M) := by
  intro n9
  induction n9 with
  | zero =>
    intro k  v  h9 g0 g1
    exact absurd h9 (by omega)
  | succ n9 ih =>
    intro k  v  h9 g0 g1
    refine wp_iload (pc := 9) d_M_canBeFirst_9 rfl ?_
    refine wp_bipush (pc := 11) d_M_canBeFirst_11 rfl ?_
    refine wp_icmp_ge (tgt := 61) (pc := 13) d_M_canBeFirst_13 rfl (fun c13 => ?_) (fun c13 => ?_)
    · refine wp_iload_n (pc := 61) d_M_canBeFirst_61 rfl ?_
      refine wp_zreturn (pc := 62) d_M_canBeFirst_62 rfl (by rw [g1]; exact qB_in _) ?_
      refine ⟨?_, rfl⟩
      rw [g1, show k = 6 by omega]
      rfl
    · have ek : ((k : Int)).toNat = k := by omega
      have hak := hl k
      have hT : ¬ v = 0 → (s.testBit t && !qEx (fun g => decide (¬ g = (t : Int)) && (s.testBit g.toNat && (A g.toNat).testBit t)) k) = true := fun z => qB_1 (by rw [← g1]; exact z)
      have hF : v = 0 → (s.testBit t && !qEx (fun g => decide (¬ g = (t : Int)) && (s.testBit g.toNat && (A g.toNat).testBit t)) k) = false := fun z => qB_0 (by rw [← g1]; exact z)
      refine zcut (pc' := 54) (fun (v54 : Int) => v54 = qB (s.testBit t && !qEx (fun g => decide (¬ g = (t : Int)) && (s.testBit g.toNat && (A g.toNat).testBit t)) (k + 1))) (fun (v54 : Int) => [rV 174, iV (t : Int), iV (s : Int), iV v, iV (k : Int)]) (fun (v54 : Int) => [iV v54]) (fun (v54 : Int) => M) ?_ (fun K54 => ?_)
      · intro v54 h54
        show wp L _ zm_M_canBeFirst 54 [rV 174, iV (t : Int), iV (s : Int), iV v, iV (k : Int)] [iV v54] (M) _
        refine wp_ist3 (pc := 54) d_M_canBeFirst_54 rfl ?_
        refine wp_iinc4 (pc := 55) d_M_canBeFirst_55 rfl (by omega) (by omega) ?_
        refine wp_goto (tgt := 9) (pc := 58) d_M_canBeFirst_58 rfl ?_
        exact ih (k + 1) _ (by omega) (by omega) h54
      · refine wp_iload_n (pc := 16) d_M_canBeFirst_16 rfl ?_
        refine wp_if_eq (tgt := 53) (pc := 17) d_M_canBeFirst_17 rfl (fun c17 => ?_) (fun c17 => ?_)
        · refine wp_iconst (pc := 53) d_M_canBeFirst_53 rfl ?_
          refine K54 _ ?_
          rw [qEx_s, Bool.not_or, ← Bool.and_assoc, ek]
          first
          | (rw [hF c17]; rfl)
          | (rw [hT c17, decide_eq_false (not_not_intro c23)]; rfl)
          | (rw [hT c17, qB_0 c32, Bool.false_and, Bool.and_false]; rfl)
          | (rw [hT c17, decide_eq_true c23, qB_1 c32, qB_1 c46]; rfl)
          | (rw [hT c17, decide_eq_true c23, qB_1 c32, qB_0 (Decidable.of_not_not c46)]; rfl)
        · refine wp_iload (pc := 20) d_M_canBeFirst_20 rfl ?_
          refine wp_iload_n (pc := 22) d_M_canBeFirst_22 rfl ?_
          refine wp_icmp_eq (tgt := 49) (pc := 23) d_M_canBeFirst_23 rfl (fun c23 => ?_) (fun c23 => ?_)
          · refine wp_iconst (pc := 49) d_M_canBeFirst_49 rfl ?_
            refine wp_goto (tgt := 54) (pc := 50) d_M_canBeFirst_50 rfl ?_
            refine K54 _ ?_
            rw [qEx_s, Bool.not_or, ← Bool.and_assoc, ek]
            first
            | (rw [hF c17]; rfl)
            | (rw [hT c17, decide_eq_false (not_not_intro c23)]; rfl)
            | (rw [hT c17, qB_0 c32, Bool.false_and, Bool.and_false]; rfl)
            | (rw [hT c17, decide_eq_true c23, qB_1 c32, qB_1 c46]; rfl)
            | (rw [hT c17, decide_eq_true c23, qB_1 c32, qB_0 (Decidable.of_not_not c46)]; rfl)
          · refine wp_iload_n (pc := 26) d_M_canBeFirst_26 rfl ?_
            refine wp_iload (pc := 27) d_M_canBeFirst_27 rfl ?_
            refine wp_callS2f (pc := 29) d_M_canBeFirst_29 rfl rfl rfl rfl rfl (c_M_has (by omega) (by omega)) ?_
            refine wp_if_eq (tgt := 49) (pc := 32) d_M_canBeFirst_32 rfl (fun c32 => ?_) (fun c32 => ?_)
            · refine wp_iconst (pc := 49) d_M_canBeFirst_49 rfl ?_
              refine wp_goto (tgt := 54) (pc := 50) d_M_canBeFirst_50 rfl ?_
              refine K54 _ ?_
              rw [qEx_s, Bool.not_or, ← Bool.and_assoc, ek]
              first
              | (rw [hF c17]; rfl)
              | (rw [hT c17, decide_eq_false (not_not_intro c23)]; rfl)
              | (rw [hT c17, qB_0 c32, Bool.false_and, Bool.and_false]; rfl)
              | (rw [hT c17, decide_eq_true c23, qB_1 c32, qB_1 c46]; rfl)
              | (rw [hT c17, decide_eq_true c23, qB_1 c32, qB_0 (Decidable.of_not_not c46)]; rfl)
            · refine wp_aload_n (pc := 35) d_M_canBeFirst_35 rfl ?_
              refine wp_getR (pc := 36) d_M_canBeFirst_36 rfl (zk_174 L) zx_174_26 ?_
              refine wp_iload (pc := 39) d_M_canBeFirst_39 rfl ?_
              refine wp_iald (pc := 41) d_M_canBeFirst_41 (zk_190 L) (by omega) (by omega) ?_
              rw [ek, hA k (by omega)]
              refine wp_iload_n (pc := 42) d_M_canBeFirst_42 rfl ?_
              refine wp_callS2f (pc := 43) d_M_canBeFirst_43 rfl rfl rfl rfl rfl (c_M_has (by omega) (by omega)) ?_
              refine wp_if_ne (tgt := 53) (pc := 46) d_M_canBeFirst_46 rfl (fun c46 => ?_) (fun c46 => ?_)
              · refine wp_iconst (pc := 53) d_M_canBeFirst_53 rfl ?_
                refine K54 _ ?_
                rw [qEx_s, Bool.not_or, ← Bool.and_assoc, ek]
                first
                | (rw [hF c17]; rfl)
                | (rw [hT c17, decide_eq_false (not_not_intro c23)]; rfl)
                | (rw [hT c17, qB_0 c32, Bool.false_and, Bool.and_false]; rfl)
                | (rw [hT c17, decide_eq_true c23, qB_1 c32, qB_1 c46]; rfl)
                | (rw [hT c17, decide_eq_true c23, qB_1 c32, qB_0 (Decidable.of_not_not c46)]; rfl)
              · refine wp_iconst (pc := 49) d_M_canBeFirst_49 rfl ?_
                refine wp_goto (tgt := 54) (pc := 50) d_M_canBeFirst_50 rfl ?_
                refine K54 _ ?_
                rw [qEx_s, Bool.not_or, ← Bool.and_assoc, ek]
                first
                | (rw [hF c17]; rfl)
                | (rw [hT c17, decide_eq_false (not_not_intro c23)]; rfl)
                | (rw [hT c17, qB_0 c32, Bool.false_and, Bool.and_false]; rfl)
                | (rw [hT c17, decide_eq_true c23, qB_1 c32, qB_1 c46]; rfl)
                | (rw [hT c17, decide_eq_true c23, qB_1 c32, qB_0 (Decidable.of_not_not c46)]; rfl)
theorem c_M_cbf (hA : ∀ f, f < 6 → M 190 f = ((A f : Nat) : Int)) (hl : ∀ f, A f < 64) {t s : Nat} (ht : t < 6) (hs : s < 64) : Cf L 1 zm_M_canBeFirst [rV 174, iV (t : Int), iV (s : Int)] M (iV (qB (mCb A s t))) M := by
  show wp L _ zm_M_canBeFirst 0 [rV 174, iV (t : Int), iV (s : Int), uV, uV] [] M _
  refine wp_iload_n (pc := 0) d_M_canBeFirst_0 rfl ?_
  refine wp_iload_n (pc := 1) d_M_canBeFirst_1 rfl ?_
  refine wp_callS2f (pc := 2) d_M_canBeFirst_2 rfl rfl rfl rfl rfl (c_M_has (by omega) (by omega)) ?_
  refine wp_ist3 (pc := 5) d_M_canBeFirst_5 rfl ?_
  refine wp_iconst (pc := 6) d_M_canBeFirst_6 rfl ?_
  refine wp_ist4 (pc := 7) d_M_canBeFirst_7 rfl ?_
  exact lp_M_cbf hA hl ht hs 100 0 _ (by omega) (by omega) (congrArg qB (Bool.and_true _).symm)
theorem lp_M_lw1 {M0 : zM} (hA : ∀ f, f < 6 → M0 190 f = ((A f : Nat) : Int)) (hl : ∀ f, A f < 64) (hirr : ∀ f, f < 6 → (A f).testBit f = false) {s : Nat} (s1 : 1 ≤ s) (hs : s < 64) {Qx : Option zV → zM → Prop} (hq : ∀ (M' : zM) (u2 : zV), mF (fun a k => a = 191) M0 M' → (∀ z, z < s + 1 → M' 191 z = vW A 6 z) → wp L 2 zm_M_layWays 9 [rV 174, iV ((s : Int) + 1), u2] [] M' Qx) : ∀ (n9 : Nat) (k : Nat) (M : zM), 6 - (k : Int) < n9 → (k ≤ 6) → (mF (fun a k => a = 191) M0 M) → (∀ z, z < s → M 191 z = vW A 6 z) → (M 191 s = qS (fun f => if mCb A s f.toNat = true then vW A 6 (s ^^^ 2 ^ f.toNat) else 0) k) → wp L 2 zm_M_layWays 24 [rV 174, iV (s : Int), iV k] [] M (Qx) := by
  intro n9
  induction n9 with
  | zero =>
    intro k  M  h9 g0 g3 g4 g5
    exact absurd h9 (by omega)
  | succ n9 ih =>
    intro k  M  h9 g0 g3 g4 g5
    have eks : ((s : Int)).toNat = s := by omega
    have ek : ((k : Int)).toNat = k := by omega
    have hAM : ∀ f, f < 6 → M 190 f = ((A f : Nat) : Int) := fun f f6 => (g3 190 f (by omega)).trans (hA f f6)
    have hb : 0 ≤ qS (fun f => if mCb A s f.toNat = true then vW A 6 (s ^^^ 2 ^ f.toNat) else 0) k ∧ qS (fun f => if mCb A s f.toNat = true then vW A 6 (s ^^^ 2 ^ f.toNat) else 0) k ≤ 46656 * k := qS_b (fun f _ _ => by
      have := vW_b A 6 (s ^^^ 2 ^ f.toNat)
      split <;> omega)
    refine wp_iload_n (pc := 24) d_M_layWays_24 rfl ?_
    refine wp_bipush (pc := 25) d_M_layWays_25 rfl ?_
    refine wp_icmp_ge (tgt := 70) (pc := 27) d_M_layWays_27 rfl (fun c27 => ?_) (fun c27 => ?_)
    · refine wp_iinc1 (pc := 70) d_M_layWays_70 rfl (by omega) (by omega) ?_
      refine wp_goto (tgt := 9) (pc := 73) d_M_layWays_73 rfl ?_
      refine hq M _ g3 (fun z hz => ?_)
      by_cases e : z = s
      · rw [e, g5, show k = 6 by omega, vW_first hirr s hs (by omega)]
      · exact g4 z (by omega)
    · refine wp_aload_n (pc := 30) d_M_layWays_30 rfl ?_
      refine wp_getR (pc := 31) d_M_layWays_31 rfl (zk_174 L) zx_174_27 ?_
      refine wp_iload_n (pc := 34) d_M_layWays_34 rfl ?_
      refine wp_dup2 (pc := 35) d_M_layWays_35 rfl rfl ?_
      refine wp_iald (pc := 36) d_M_layWays_36 (zk_191 L) (by omega) (by omega) ?_
      rw [eks, g5]
      refine zcut (pc' := 62) (fun (v62 : Int) => v62 = (if mCb A s k = true then vW A 6 (s ^^^ 2 ^ k) else 0)) (fun (v62 : Int) => [rV 174, iV (s : Int), iV (k : Int)]) (fun (v62 : Int) => [iV v62, iV (qS (fun f => if mCb A s f.toNat = true then vW A 6 (s ^^^ 2 ^ f.toNat) else 0) k), iV (s : Int), rV 191]) (fun (v62 : Int) => M) ?_ (fun K62 => ?_)
      · intro v62 h62
        show wp L _ zm_M_layWays 62 [rV 174, iV (s : Int), iV (k : Int)] [iV v62, iV (qS (fun f => if mCb A s f.toNat = true then vW A 6 (s ^^^ 2 ^ f.toNat) else 0) k), iV (s : Int), rV 191] (M) _
        have hb2 : 0 ≤ v62 ∧ v62 ≤ 46656 := by
          have := vW_b A 6 (s ^^^ 2 ^ k)
          rw [h62]; split <;> omega
        refine wp_iadd (pc := 62) d_M_layWays_62 (by omega) (by omega) ?_
        refine wp_iast (pc := 63) d_M_layWays_63 (zk_191 L) (by decide) (by omega) (by omega) ?_
        refine wp_iinc2 (pc := 64) d_M_layWays_64 rfl (by omega) (by omega) ?_
        refine wp_goto (tgt := 24) (pc := 67) d_M_layWays_67 rfl ?_
        refine ih (k + 1) _ (by omega) (by omega) (g3.u rfl) (fun z hz => ?_) ?_
        · rw [eks, zU_nk (by omega)]; exact g4 z hz
        · rw [eks, zU_eq, h62]
          simp only [qS]
          rw [ek]
      · refine wp_aload_n (pc := 37) d_M_layWays_37 rfl ?_
        refine wp_iload_n (pc := 38) d_M_layWays_38 rfl ?_
        refine wp_iload_n (pc := 39) d_M_layWays_39 rfl ?_
        refine wp_callV2f (pc := 40) d_M_layWays_40 rfl rfl (zk_174 L) rfl rfl (c_M_cbf hAM hl (by omega) hs) ?_
        refine wp_if_eq (tgt := 61) (pc := 43) d_M_layWays_43 rfl (fun c43 => ?_) (fun c43 => ?_)
        · refine wp_iconst (pc := 61) d_M_layWays_61 rfl ?_
          first
          | exact K62 _ ((g4 (s ^^^ 2 ^ k) hd.2.1).trans (if_pos hcb).symm)
          | exact K62 _ (if_neg (qB_n c43)).symm
        · have hcb := qB_1 c43
          have hd := vPc_dn s hs k (by omega) (mCb_iff.1 hcb).1
          have hpk := z2p (show k < 6 by omega)
          refine wp_aload_n (pc := 46) d_M_layWays_46 rfl ?_
          refine wp_getR (pc := 47) d_M_layWays_47 rfl (zk_174 L) zx_174_27 ?_
          refine wp_iload_n (pc := 50) d_M_layWays_50 rfl ?_
          refine wp_iconst (pc := 51) d_M_layWays_51 rfl ?_
          refine wp_iload_n (pc := 52) d_M_layWays_52 rfl ?_
          refine wp_ishl (v := ((2 ^ k : Nat) : Int)) (pc := 53) d_M_layWays_53 (zn_shl1 k (by omega)) ?_
          refine wp_iconst (pc := 54) d_M_layWays_54 rfl ?_
          refine wp_ixor (v := _) (pc := 55) d_M_layWays_55 rfl ?_
          refine wp_iand (v := ((s ^^^ 2 ^ k : Nat) : Int)) (pc := 56) d_M_layWays_56 (by rw [hd.2.2]; exact zn_not (by omega) (by omega)) ?_
          refine wp_iald (pc := 57) d_M_layWays_57 (zk_191 L) (by omega) (by omega) ?_
          refine wp_goto (tgt := 62) (pc := 58) d_M_layWays_58 rfl ?_
          first
          | exact K62 _ ((g4 (s ^^^ 2 ^ k) hd.2.1).trans (if_pos hcb).symm)
          | exact K62 _ (if_neg (qB_n c43)).symm
theorem lp_M_lw {M0 : zM} (hA : ∀ f, f < 6 → M0 190 f = ((A f : Nat) : Int)) (hl : ∀ f, A f < 64) (hirr : ∀ f, f < 6 → (A f).testBit f = false) : ∀ (n9 : Nat) (s : Nat) (x : Int) (M : zM) (u2 : zV), 64 - x < n9 → (x = s) → (1 ≤ s ∧ s ≤ 64) → (mF (fun a k => a = 191) M0 M) → (∀ z, z < s → M 191 z = vW A 6 z) → wp L 2 zm_M_layWays 9 [rV 174, iV x, u2] [] M (fun r M' => r = none ∧ (mF (fun a k => a = 191) M0 M' ∧ ∀ z, z < 64 → M' 191 z = vW A 6 z)) := by
  intro n9
  induction n9 with
  | zero =>
    intro s  x  M  u2  h9 g1 g0 g3 g4
    exact absurd h9 (by omega)
  | succ n9 ih =>
    intro s  x  M  u2  h9 g1 g0 g3 g4
    refine wp_iload_n (pc := 9) d_M_layWays_9 rfl ?_
    refine wp_bipush (pc := 10) d_M_layWays_10 rfl ?_
    refine wp_icmp_ge (tgt := 76) (pc := 12) d_M_layWays_12 rfl (fun c12 => ?_) (fun c12 => ?_)
    · refine wp_return_ (pc := 76) d_M_layWays_76 rfl ?_
      exact ⟨rfl, g3, fun z hz => g4 z (by omega)⟩
    · refine wp_aload_n (pc := 15) d_M_layWays_15 rfl ?_
      refine wp_getR (pc := 16) d_M_layWays_16 rfl (zk_174 L) zx_174_27 ?_
      refine wp_iload_n (pc := 19) d_M_layWays_19 rfl ?_
      refine wp_iconst (pc := 20) d_M_layWays_20 rfl ?_
      refine wp_iast (pc := 21) d_M_layWays_21 (zk_191 L) (by decide) (by omega) (by omega) ?_
      refine wp_iconst (pc := 22) d_M_layWays_22 rfl ?_
      refine wp_ist2 (pc := 23) d_M_layWays_23 rfl ?_
      subst g1
      refine lp_M_lw1 (M0 := M0) hA hl hirr g0.1 (by omega) (fun M' u2' h1 h2 => ih (s + 1) _ M' u2' (by omega) rfl (by omega) h1 h2) 100 0 _ (by omega) (by omega) (g3.u rfl) (fun z hz => ?_) ?_
      · rw [zU_nk (by omega)]; exact g4 z hz
      · rw [show ((s : Int)).toNat = s by omega]; exact zU_eq
theorem c_M_layWays (hA : ∀ f, f < 6 → M 190 f = ((A f : Nat) : Int)) (hl : ∀ f, A f < 64) (hirr : ∀ f, f < 6 → (A f).testBit f = false) : wpc L 2 zm_M_layWays [rV 174] M (fun r M' => r = none ∧ (mF (fun a k => a = 191) M M' ∧ ∀ z, z < 64 → M' 191 z = vW A 6 z)) := by
  show wp L _ zm_M_layWays 0 [rV 174, uV, uV] [] M _
  refine wp_aload_n (pc := 0) d_M_layWays_0 rfl ?_
  refine wp_getR (pc := 1) d_M_layWays_1 rfl (zk_174 L) zx_174_27 ?_
  refine wp_iconst (pc := 4) d_M_layWays_4 rfl ?_
  refine wp_iconst (pc := 5) d_M_layWays_5 rfl ?_
  refine wp_iastc 0 (pc := 6) d_M_layWays_6 (zk_191 L) (by decide) rfl rfl ?_
  refine wp_iconst (pc := 7) d_M_layWays_7 rfl ?_
  refine wp_ist1 (pc := 8) d_M_layWays_8 rfl ?_
  exact lp_M_lw (M0 := M) hA hl hirr 100 1 1 _ _ (by omega) rfl (by omega) (mF.rf.u rfl) (fun z hz => by rw [show z = 0 by omega, zU_eq, vW_6 A 0 (by decide), if_pos rfl])
theorem lp_M_la1 {M0 : zM} (hy : mY M0 Y) (hi : qYi Y) {u : Nat} (hu : u < 2147483648) (hS : ∀ i : Int, 0 ≤ i → i < Y.1 → S i = u.testBit i.toNat) {k : Nat} (hk : (k : Int) < Y.1) {Qx : Option zV → zM → Prop} (hq : ∀ (M' : zM) (u3 u4 : zV), mF (fun a k => a = 190 ∨ a = 174 ∧ k = 25) M0 M' → M' 174 25 = ((mSe Y S (k + 1) : Nat) : Int) → (∀ f, f < 6 → M' 190 f = ((mA2 Y S k Y.1.toNat f : Nat) : Int)) → wp L 1 zm_M_layAhead 165 [rV 174, iV (u : Int), iV (k : Int), u3, u4] [] M' Qx) : ∀ (n9 : Nat) (m : Nat) (M : zM) (u4 : zV), Y.1 - m < n9 → ((m : Int) ≤ Y.1) → (mF (fun a k => a = 190 ∨ a = 174 ∧ k = 25) M0 M) → (M 174 25 = ((mSe Y S (k + 1) : Nat) : Int)) → (∀ f, f < 6 → M 190 f = ((mA2 Y S k m f : Nat) : Int)) → wp L 1 zm_M_layAhead 67 [rV 174, iV (u : Int), iV (k : Int), iV m, u4] [] M (Qx) := by
  intro n9
  induction n9 with
  | zero =>
    intro m  M  u4  h9 g0 g3 g4 g5
    have h12 := hi.1
    exact absurd h9 (by omega)
  | succ n9 ih =>
    intro m  M  u4  h9 g0 g3 g4 g5
    have h12 := hi.1
    have hyM : mY M Y := hy.keep g3 (by omega) (by omega)
    have e7 := hyM.1
    refine wp_iload_n (pc := 67) d_M_layAhead_67 rfl ?_
    refine wp_aload_n (pc := 68) d_M_layAhead_68 rfl ?_
    refine wp_getI (pc := 69) d_M_layAhead_69 rfl (by decide) (zk_174 L) ?_
    refine wp_icmp_ge (tgt := 165) (pc := 72) d_M_layAhead_72 rfl (fun c72 => ?_) (fun c72 => ?_)
    · exact hq M _ _ g3 g4 (by rw [show Y.1.toNat = m by omega]; exact g5)
    · obtain ⟨r1, r2, r3, r4⟩ := hyM.2 (k : Int) (by omega) (by omega)
      obtain ⟨q1, q2, q3, q4⟩ := hyM.2 (m : Int) (by omega) (by omega)
      have ky := hi.2.1 (k : Int) (by omega) (by omega)
      have my := hi.2.1 (m : Int) (by omega) (by omega)
      have hsk := hS (k : Int) (by omega) (by omega)
      have hsm := hS (m : Int) (by omega) (by omega)
      rw [show ((k : Int)).toNat = k by omega] at hsk
      rw [show ((m : Int)).toNat = m by omega] at hsm
      have g6 := g5 (Y.2 (k : Int) 1).toNat (by omega)
      refine zcut (pc' := 126) (fun (v126 : Int) => v126 = qB (mIs Y S k m)) (fun (v126 : Int) => [rV 174, iV (u : Int), iV (k : Int), iV (m : Int), u4]) (fun (v126 : Int) => [iV v126]) (fun (v126 : Int) => M) ?_ (fun K126 => ?_)
      · intro v126 h126
        show wp L _ zm_M_layAhead 126 [rV 174, iV (u : Int), iV (k : Int), iV (m : Int), u4] [iV v126] (M) _
        refine wp_ist4 (pc := 126) d_M_layAhead_126 rfl ?_
        refine wp_aload_n (pc := 128) d_M_layAhead_128 rfl ?_
        refine wp_getR (pc := 129) d_M_layAhead_129 rfl (zk_174 L) zx_174_26 ?_
        refine wp_aload_n (pc := 132) d_M_layAhead_132 rfl ?_
        refine wp_getR (pc := 133) d_M_layAhead_133 rfl (zk_174 L) zx_174_9 ?_
        refine wp_iload_n (pc := 136) d_M_layAhead_136 rfl ?_
        refine wp_iald (pc := 137) d_M_layAhead_137 (zk_179 L) (by omega) (by omega) ?_
        rw [r2]
        refine wp_dup2 (pc := 138) d_M_layAhead_138 rfl rfl ?_
        refine wp_iald (pc := 139) d_M_layAhead_139 (zk_190 L) (by omega) (by omega) ?_
        rw [g6]
        refine zcut (pc' := 157) (fun (v157 : Int) => v157 = ((if mIs Y S k m = true then 2 ^ (Y.2 (m : Int) 1).toNat else 0 : Nat) : Int)) (fun (v157 : Int) => [rV 174, iV (u : Int), iV (k : Int), iV (m : Int), iV v126]) (fun (v157 : Int) => [iV v157, iV ((mA2 Y S k m (Y.2 (k : Int) 1).toNat : Nat) : Int), iV (Y.2 (k : Int) 1), rV 190]) (fun (v157 : Int) => M) ?_ (fun K157 => ?_)
        · intro v157 h157
          show wp L _ zm_M_layAhead 157 [rV 174, iV (u : Int), iV (k : Int), iV (m : Int), iV v126] [iV v157, iV ((mA2 Y S k m (Y.2 (k : Int) 1).toNat : Nat) : Int), iV (Y.2 (k : Int) 1), rV 190] (M) _
          refine wp_ior (v := ((mA2 Y S k m (Y.2 (k : Int) 1).toNat ||| (if mIs Y S k m = true then 2 ^ (Y.2 (m : Int) 1).toNat else 0) : Nat) : Int)) (pc := 157) d_M_layAhead_157 (by rw [h157]; exact zn_or (by have := mA2_lt Y S k m (Y.2 (k : Int) 1).toNat; omega) (by have := z2p (show (Y.2 (m : Int) 1).toNat < 6 by omega); split <;> omega)) ?_
          refine wp_iast (pc := 158) d_M_layAhead_158 (zk_190 L) (by decide) (by omega) (by omega) ?_
          refine wp_iinc3 (pc := 159) d_M_layAhead_159 rfl (by omega) (by omega) ?_
          refine wp_goto (tgt := 67) (pc := 162) d_M_layAhead_162 rfl ?_
          refine ih (m + 1) _ _ (by omega) (by omega) (g3.u (by omega)) (by rw [zU_na (by decide)]; exact g4) (fun f f6 => ?_)
          rw [mA2_su ky.2.1.1 my.2.1.1 my.2.1.2]
          by_cases e : f = (Y.2 (k : Int) 1).toNat
          · rw [if_pos e, e, zU_eq]
          · rw [if_neg e, zU_nk e]; exact g5 f f6
        · refine wp_iload (pc := 140) d_M_layAhead_140 rfl ?_
          refine wp_if_eq (tgt := 156) (pc := 142) d_M_layAhead_142 rfl (fun c142 => ?_) (fun c142 => ?_)
          · refine wp_iconst (pc := 156) d_M_layAhead_156 rfl ?_
            refine K157 _ ?_
            first
            | rw [if_neg (qB_n (by rw [← h126]; exact c142))]; rfl
            | rw [if_pos (qB_1 (by rw [← h126]; exact c142))]
          · refine wp_iconst (pc := 145) d_M_layAhead_145 rfl ?_
            refine wp_aload_n (pc := 146) d_M_layAhead_146 rfl ?_
            refine wp_getR (pc := 147) d_M_layAhead_147 rfl (zk_174 L) zx_174_9 ?_
            refine wp_iload_n (pc := 150) d_M_layAhead_150 rfl ?_
            refine wp_iald (pc := 151) d_M_layAhead_151 (zk_179 L) (by omega) (by omega) ?_
            rw [q2]
            refine wp_ishl (v := ((2 ^ (Y.2 (m : Int) 1).toNat : Nat) : Int)) (pc := 152) d_M_layAhead_152 (zn_shlI (by omega) (by omega)) ?_
            refine wp_goto (tgt := 157) (pc := 153) d_M_layAhead_153 rfl ?_
            refine K157 _ ?_
            first
            | rw [if_neg (qB_n (by rw [← h126]; exact c142))]; rfl
            | rw [if_pos (qB_1 (by rw [← h126]; exact c142))]
      · refine wp_iload_n (pc := 75) d_M_layAhead_75 rfl ?_
        refine wp_iload_n (pc := 76) d_M_layAhead_76 rfl ?_
        refine wp_callS2f (pc := 77) d_M_layAhead_77 rfl rfl rfl rfl rfl (c_M_has hu (by omega)) ?_
        refine wp_if_eq (tgt := 125) (pc := 80) d_M_layAhead_80 rfl (fun c80 => ?_) (fun c80 => ?_)
        · refine wp_iconst (pc := 125) d_M_layAhead_125 rfl ?_
          refine K126 _ ?_
          unfold mIs vLw
          rw [hsk, hsm]
          first
          | (rw [qB_0 c80]; rfl)
          | (rw [qB_0 c88, Bool.and_false]; rfl)
          | (rw [qB_1 c80, qB_1 c88, decide_eq_true (by omega)]; rfl)
          | (rw [qB_1 c80, qB_1 c88, decide_eq_false (by omega)]; rfl)
        · refine wp_iload_n (pc := 83) d_M_layAhead_83 rfl ?_
          refine wp_iload_n (pc := 84) d_M_layAhead_84 rfl ?_
          refine wp_callS2f (pc := 85) d_M_layAhead_85 rfl rfl rfl rfl rfl (c_M_has hu (by omega)) ?_
          refine wp_if_eq (tgt := 125) (pc := 88) d_M_layAhead_88 rfl (fun c88 => ?_) (fun c88 => ?_)
          · refine wp_iconst (pc := 125) d_M_layAhead_125 rfl ?_
            refine K126 _ ?_
            unfold mIs vLw
            rw [hsk, hsm]
            first
            | (rw [qB_0 c80]; rfl)
            | (rw [qB_0 c88, Bool.and_false]; rfl)
            | (rw [qB_1 c80, qB_1 c88, decide_eq_true (by omega)]; rfl)
            | (rw [qB_1 c80, qB_1 c88, decide_eq_false (by omega)]; rfl)
          · refine wp_aload_n (pc := 91) d_M_layAhead_91 rfl ?_
            refine wp_getR (pc := 92) d_M_layAhead_92 rfl (zk_174 L) zx_174_8 ?_
            refine wp_iload_n (pc := 95) d_M_layAhead_95 rfl ?_
            refine wp_iald (pc := 96) d_M_layAhead_96 (zk_178 L) (by omega) (by omega) ?_
            rw [r1]
            refine wp_aload_n (pc := 97) d_M_layAhead_97 rfl ?_
            refine wp_getR (pc := 98) d_M_layAhead_98 rfl (zk_174 L) zx_174_8 ?_
            refine wp_iload_n (pc := 101) d_M_layAhead_101 rfl ?_
            refine wp_iald (pc := 102) d_M_layAhead_102 (zk_178 L) (by omega) (by omega) ?_
            rw [q1]
            refine wp_icmp_ne (tgt := 125) (pc := 103) d_M_layAhead_103 rfl (fun c103 => ?_) (fun c103 => ?_)
            · refine wp_iconst (pc := 125) d_M_layAhead_125 rfl ?_
              refine K126 _ ?_
              unfold mIs vLw
              rw [hsk, hsm]
              first
              | (rw [qB_0 c80]; rfl)
              | (rw [qB_0 c88, Bool.and_false]; rfl)
              | (rw [qB_1 c80, qB_1 c88, decide_eq_true (by omega)]; rfl)
              | (rw [qB_1 c80, qB_1 c88, decide_eq_false (by omega)]; rfl)
            · refine wp_aload_n (pc := 106) d_M_layAhead_106 rfl ?_
              refine wp_getR (pc := 107) d_M_layAhead_107 rfl (zk_174 L) zx_174_11 ?_
              refine wp_iload_n (pc := 110) d_M_layAhead_110 rfl ?_
              refine wp_iald (pc := 111) d_M_layAhead_111 (zk_181 L) (by omega) (by omega) ?_
              rw [r4]
              refine wp_aload_n (pc := 112) d_M_layAhead_112 rfl ?_
              refine wp_getR (pc := 113) d_M_layAhead_113 rfl (zk_174 L) zx_174_11 ?_
              refine wp_iload_n (pc := 116) d_M_layAhead_116 rfl ?_
              refine wp_iald (pc := 117) d_M_layAhead_117 (zk_181 L) (by omega) (by omega) ?_
              rw [q4]
              refine wp_icmp_ge (tgt := 125) (pc := 118) d_M_layAhead_118 rfl (fun c118 => ?_) (fun c118 => ?_)
              · refine wp_iconst (pc := 125) d_M_layAhead_125 rfl ?_
                refine K126 _ ?_
                unfold mIs vLw
                rw [hsk, hsm]
                first
                | (rw [qB_0 c80]; rfl)
                | (rw [qB_0 c88, Bool.and_false]; rfl)
                | (rw [qB_1 c80, qB_1 c88, decide_eq_true (by omega)]; rfl)
                | (rw [qB_1 c80, qB_1 c88, decide_eq_false (by omega)]; rfl)
              · refine wp_iconst (pc := 121) d_M_layAhead_121 rfl ?_
                refine wp_goto (tgt := 126) (pc := 122) d_M_layAhead_122 rfl ?_
                refine K126 _ ?_
                unfold mIs vLw
                rw [hsk, hsm]
                first
                | (rw [qB_0 c80]; rfl)
                | (rw [qB_0 c88, Bool.and_false]; rfl)
                | (rw [qB_1 c80, qB_1 c88, decide_eq_true (by omega)]; rfl)
                | (rw [qB_1 c80, qB_1 c88, decide_eq_false (by omega)]; rfl)
theorem lp_M_la2 {M0 : zM} (hy : mY M0 Y) (hi : qYi Y) {u : Nat} (hu : u < 2147483648) (hS : ∀ i : Int, 0 ≤ i → i < Y.1 → S i = u.testBit i.toNat) : ∀ (n9 : Nat) (k : Nat) (x : Int) (M : zM) (u3 : zV) (u4 : zV), Y.1 - x < n9 → (x = k) → ((k : Int) ≤ Y.1) → (mF (fun a k => a = 190 ∨ a = 174 ∧ k = 25) M0 M) → (M 174 25 = ((mSe Y S k : Nat) : Int)) → (∀ f, f < 6 → M 190 f = ((mA2 Y S k 0 f : Nat) : Int)) → wp L 1 zm_M_layAhead 28 [rV 174, iV (u : Int), iV x, u3, u4] [] M (fun r M' => r = none ∧ (mF (fun a k => a = 190 ∨ a = 174 ∧ k = 25) M0 M' ∧ mAh M' Y S)) := by
  intro n9
  induction n9 with
  | zero =>
    intro k  x  M  u3  u4  h9 g1 g0 g3 g4 g5
    have h12 := hi.1
    exact absurd h9 (by omega)
  | succ n9 ih =>
    intro k  x  M  u3  u4  h9 g1 g0 g3 g4 g5
    subst g1
    have h12 := hi.1
    have hyM : mY M Y := hy.keep g3 (by omega) (by omega)
    have e7 := hyM.1
    refine wp_iload_n (pc := 28) d_M_layAhead_28 rfl ?_
    refine wp_aload_n (pc := 29) d_M_layAhead_29 rfl ?_
    refine wp_getI (pc := 30) d_M_layAhead_30 rfl (by decide) (zk_174 L) ?_
    refine wp_icmp_ge (tgt := 171) (pc := 33) d_M_layAhead_33 rfl (fun c33 => ?_) (fun c33 => ?_)
    · refine wp_return_ (pc := 171) d_M_layAhead_171 rfl ?_
      have ek : Y.1.toNat = k := by omega
      refine ⟨rfl, g3, ?_, fun f f6 => ?_⟩
      · rw [g4, ← ek]; rfl
      · rw [g5 f f6, mA2_0, ← ek]; rfl
    · obtain ⟨r1, r2, r3, r4⟩ := hyM.2 (k : Int) (by omega) (by omega)
      have ky := hi.2.1 (k : Int) (by omega) (by omega)
      have hsk := hS (k : Int) (by omega) (by omega)
      rw [show ((k : Int)).toNat = k by omega] at hsk
      refine wp_aload_n (pc := 36) d_M_layAhead_36 rfl ?_
      refine wp_dup (pc := 37) d_M_layAhead_37 rfl ?_
      refine wp_getI (pc := 38) d_M_layAhead_38 rfl (by decide) (zk_174 L) ?_
      rw [g4]
      refine zcut (pc' := 61) (fun (v61 : Int) => v61 = ((if S (k : Int) = true then 2 ^ (Y.2 (k : Int) 1).toNat else 0 : Nat) : Int)) (fun (v61 : Int) => [rV 174, iV (u : Int), iV (k : Int), u3, u4]) (fun (v61 : Int) => [iV v61, iV ((mSe Y S k : Nat) : Int), rV 174]) (fun (v61 : Int) => M) ?_ (fun K61 => ?_)
      · intro v61 h61
        show wp L _ zm_M_layAhead 61 [rV 174, iV (u : Int), iV (k : Int), u3, u4] [iV v61, iV ((mSe Y S k : Nat) : Int), rV 174] (M) _
        refine wp_ior (v := ((mSe Y S k ||| (if S (k : Int) = true then 2 ^ (Y.2 (k : Int) 1).toNat else 0) : Nat) : Int)) (pc := 61) d_M_layAhead_61 (by rw [h61]; exact zn_or (by have := mSe_lt Y S k; omega) (by have := z2p (show (Y.2 (k : Int) 1).toNat < 6 by omega); split <;> omega)) ?_
        refine wp_putI (pc := 62) d_M_layAhead_62 rfl (zk_174 L) (by decide) ?_
        refine wp_iconst (pc := 65) d_M_layAhead_65 rfl ?_
        refine wp_ist3 (pc := 66) d_M_layAhead_66 rfl ?_
        refine lp_M_la1 hy hi hu hS (k := k) (by omega) (fun M' u3' u4' h1 h2 h3 => ?_) 100 0 _ _ (by omega) (by omega) (g3.u (by omega)) (by rw [zU_eq, mSe_su ky.2.1.1 ky.2.1.2]) (fun f f6 => by rw [zU_na (by decide)]; exact g5 f f6)
        refine wp_iinc2 (pc := 165) d_M_layAhead_165 rfl (by omega) (by omega) ?_
        refine wp_goto (tgt := 28) (pc := 168) d_M_layAhead_168 rfl ?_
        exact ih (k + 1) _ M' _ _ (by omega) rfl (by omega) h1 h2 (fun f f6 => (h3 f f6).trans (by rw [mA2_0]; rfl))
      · refine wp_iload_n (pc := 41) d_M_layAhead_41 rfl ?_
        refine wp_iload_n (pc := 42) d_M_layAhead_42 rfl ?_
        refine wp_callS2f (pc := 43) d_M_layAhead_43 rfl rfl rfl rfl rfl (c_M_has hu (by omega)) ?_
        refine wp_if_eq (tgt := 60) (pc := 46) d_M_layAhead_46 rfl (fun c46 => ?_) (fun c46 => ?_)
        · refine wp_iconst (pc := 60) d_M_layAhead_60 rfl ?_
          refine K61 _ ?_
          rw [hsk]
          first
          | rw [if_neg (qB_n c46)]; rfl
          | rw [if_pos (qB_1 c46)]
        · refine wp_iconst (pc := 49) d_M_layAhead_49 rfl ?_
          refine wp_aload_n (pc := 50) d_M_layAhead_50 rfl ?_
          refine wp_getR (pc := 51) d_M_layAhead_51 rfl (zk_174 L) zx_174_9 ?_
          refine wp_iload_n (pc := 54) d_M_layAhead_54 rfl ?_
          refine wp_iald (pc := 55) d_M_layAhead_55 (zk_179 L) (by omega) (by omega) ?_
          rw [r2]
          refine wp_ishl (v := ((2 ^ (Y.2 (k : Int) 1).toNat : Nat) : Int)) (pc := 56) d_M_layAhead_56 (zn_shlI (by omega) (by omega)) ?_
          refine wp_goto (tgt := 61) (pc := 57) d_M_layAhead_57 rfl ?_
          refine K61 _ ?_
          rw [hsk]
          first
          | rw [if_neg (qB_n c46)]; rfl
          | rw [if_pos (qB_1 c46)]
theorem lp_M_la0 {M0 : zM} (hy : mY M0 Y) (hi : qYi Y) {u : Nat} (hu : u < 2147483648) (hS : ∀ i : Int, 0 ≤ i → i < Y.1 → S i = u.testBit i.toNat) : ∀ (n9 : Nat) (k : Nat) (M : zM), 6 - (k : Int) < n9 → (k ≤ 6) → (mF (fun a k => a = 190 ∨ a = 174 ∧ k = 25) M0 M) → (M 174 25 = 0) → (∀ f, f < k → M 190 f = 0) → wp L 1 zm_M_layAhead 7 [rV 174, iV (u : Int), iV k, uV, uV] [] M (fun r M' => r = none ∧ (mF (fun a k => a = 190 ∨ a = 174 ∧ k = 25) M0 M' ∧ mAh M' Y S)) := by
  intro n9
  induction n9 with
  | zero =>
    intro k  M  h9 g0 g3 g4 g5
    exact absurd h9 (by omega)
  | succ n9 ih =>
    intro k  M  h9 g0 g3 g4 g5
    refine wp_iload_n (pc := 7) d_M_layAhead_7 rfl ?_
    refine wp_bipush (pc := 8) d_M_layAhead_8 rfl ?_
    refine wp_icmp_ge (tgt := 26) (pc := 10) d_M_layAhead_10 rfl (fun c10 => ?_) (fun c10 => ?_)
    · refine wp_iconst (pc := 26) d_M_layAhead_26 rfl ?_
      refine wp_ist2 (pc := 27) d_M_layAhead_27 rfl ?_
      refine lp_M_la2 hy hi hu hS 100 0 0 M _ _ (by have := hi.1; omega) rfl (by have := hi.1; omega) g3 (g4.trans ?_) (fun f f6 => (g5 f (by omega)).trans ?_)
      · show (0 : Int) = ((qBm (fun _ => false) 6 : Nat) : Int)
        rfl
      · rw [mA2_0]
        show (0 : Int) = ((qBm (fun _ => false) 6 : Nat) : Int)
        rfl
    · refine wp_aload_n (pc := 13) d_M_layAhead_13 rfl ?_
      refine wp_getR (pc := 14) d_M_layAhead_14 rfl (zk_174 L) zx_174_26 ?_
      refine wp_iload_n (pc := 17) d_M_layAhead_17 rfl ?_
      refine wp_iconst (pc := 18) d_M_layAhead_18 rfl ?_
      refine wp_iast (pc := 19) d_M_layAhead_19 (zk_190 L) (by decide) (by omega) (by omega) ?_
      refine wp_iinc2 (pc := 20) d_M_layAhead_20 rfl (by omega) (by omega) ?_
      refine wp_goto (tgt := 7) (pc := 23) d_M_layAhead_23 rfl ?_
      refine ih (k + 1) _ (by omega) (by omega) (g3.u (by omega)) (by rw [zU_na (by decide)]; exact g4) (fun f hf => ?_)
      by_cases e : f = ((k : Int)).toNat
      · rw [e, zU_eq]
      · rw [zU_nk e]; exact g5 f (by omega)
theorem c_M_layAhead (hy : mY M Y) (hi : qYi Y) {u : Nat} (hu : u < 2147483648) (hS : ∀ i : Int, 0 ≤ i → i < Y.1 → S i = u.testBit i.toNat) : wpc L 1 zm_M_layAhead [rV 174, iV (u : Int)] M (fun r M' => r = none ∧ (mF (fun a k => a = 190 ∨ a = 174 ∧ k = 25) M M' ∧ mAh M' Y S)) := by
  show wp L _ zm_M_layAhead 0 [rV 174, iV (u : Int), uV, uV, uV] [] M _
  refine wp_aload_n (pc := 0) d_M_layAhead_0 rfl ?_
  refine wp_iconst (pc := 1) d_M_layAhead_1 rfl ?_
  refine wp_putI (pc := 2) d_M_layAhead_2 rfl (zk_174 L) (by decide) ?_
  refine wp_iconst (pc := 5) d_M_layAhead_5 rfl ?_
  refine wp_ist2 (pc := 6) d_M_layAhead_6 rfl ?_
  have k1 : mF (fun a k => a = 190 ∨ a = 174 ∧ k = 25) M (zU M 174 25 0) := mF.rf.u (by omega)
  refine wp_mono (lp_M_la0 (M0 := zU M 174 25 0) (hy.keep k1 (by omega) (by omega)) hi hu hS 100 0 _ (by omega) (by omega) mF.rf zU_eq (fun f hf => absurd hf (by omega))) (fun r M' hr => ⟨hr.1, k1.tr hr.2.1, hr.2.2⟩)
abbrev mPo (a k : Nat) : Prop := a = 190 ∨ a = 191 ∨ a = 174 ∧ k = 25
/-- the orders of the sightings in S are counted -/
def mOr (M : zM) (Y : qYt) (S : Int → Bool) : Prop := mAh M Y S ∧ ∀ z, z < 64 → M 191 z = vW (vA Y S) 6 z
theorem mOr.keep {P : Nat → Nat → Prop} {M M' : zM} {Y : qYt} {S : Int → Bool} (h : mOr M Y S) (hf : mF P M M') (h1 : ¬ P 174 25) (h2 : ∀ k, ¬ P 190 k) (h3 : ∀ k, ¬ P 191 k) : mOr M' Y S := ⟨h.1.keep hf h1 h2, fun z hz => (hf _ _ (h3 z)).trans (h.2 z hz)⟩
theorem c_M_orders (hy : mY M Y) (hi : qYi Y) {u : Nat} (hu : u < 2147483648) (hS : ∀ i : Int, 0 ≤ i → i < Y.1 → S i = u.testBit i.toNat) : Ci L 3 zm_M_orders [rV 174, iV (u : Int)] M (fun v M' => v = vW (vA Y S) 6 (vS Y S) ∧ mF mPo M M' ∧ mOr M' Y S) := by
  show wp L _ zm_M_orders 0 [rV 174, iV (u : Int)] [] M _
  refine wp_aload_n (pc := 0) d_M_orders_0 rfl ?_
  refine wp_iload_n (pc := 1) d_M_orders_1 rfl ?_
  refine wp_callV1v (pc := 2) d_M_orders_2 rfl rfl (zk_174 L) rfl rfl (Cv_of (c_M_layAhead hy hi hu hS)) (fun M2 h2 => ?_)
  obtain ⟨a1, a2⟩ := h2
  refine wp_aload_n (pc := 5) d_M_orders_5 rfl ?_
  refine wp_callV0v (pc := 6) d_M_orders_6 rfl rfl (zk_174 L) rfl rfl (Cv_of (c_M_layWays (A := vA Y S) a2.2 (vA_lt Y S) (vA_irr hi S))) (fun M6 h6 => ?_)
  obtain ⟨b1, b2⟩ := h6
  have e25 : M6 174 25 = ((vS Y S : Nat) : Int) := (b1 174 25 (by decide)).trans a2.1
  have hlt := vS_lt Y S
  refine wp_aload_n (pc := 9) d_M_orders_9 rfl ?_
  refine wp_getR (pc := 10) d_M_orders_10 rfl (zk_174 L) zx_174_27 ?_
  refine wp_aload_n (pc := 13) d_M_orders_13 rfl ?_
  refine wp_getI (pc := 14) d_M_orders_14 rfl (by decide) (zk_174 L) ?_
  rw [e25]
  refine wp_iald (pc := 17) d_M_orders_17 (zk_191 L) (by omega) (by omega) ?_
  rw [show (((vS Y S : Nat) : Int)).toNat = vS Y S by omega, b2 _ hlt]
  refine wp_ireturn (pc := 18) d_M_orders_18 rfl ?_
  exact ⟨_, rfl, rfl, (a1.up (fun a k z => by omega)).tr (b1.up (fun a k z => by omega)), a2.keep b1 (by omega) (by omega), b2⟩
end ZM12
