/-! Stemma, on: goesBack, group, joinNearest, connect, read -/
section ZSt3
variable {L : Nat} {M : zM} {i j x y : Int}
/-- the reading of a state, as the memory has it -/
def qRS (M : zM) (x p : Int) : Int := if 0 ≤ x ∧ x < M 132 8 then qR M (M 141 x.toNat) p else -1
def qGl (M : zM) (p rd : Int) : Nat → Int → Int
  | 0, _ => 0
  | n + 1, a => if a = -1 then 0 else if qRS M a p = rd then 1 else qGl M p rd n (qPm M a)
def qGb (M : zM) (x p : Int) : Int := if qPm M x = -1 ∨ qRS M (qPm M x) p = qRS M x p then 0 else qGl M p (qRS M x p) (M 132 8).toNat (qPm M (qPm M x))
theorem c_Sm_rdS (hp : M 132 9 ≤ 24) (hs6 : M 132 8 ≤ 6) : Cf L 1 zm_Stemma_readingOfState [rV 132, iV x, iV y] M (iV (qRS M x y)) M := c_Sm_rdSt hp hs6
theorem c_Sm_par (hs6 : M 132 8 ≤ 6) : Cf L 1 zm_Stemma_parentOf [rV 132, iV x] M (iV (qPm M x)) M := c_Sm_parentOf hs6
theorem qGl_01 (M : zM) (p rd : Int) : ∀ n a, qGl M p rd n a = 0 ∨ qGl M p rd n a = 1 := by
  intro n
  induction n with
  | zero => intro a; exact Or.inl rfl
  | succ n ih =>
    intro a
    simp only [qGl]
    split
    · exact Or.inl rfl
    · split
      · exact Or.inr rfl
      · exact ih _
theorem lp_Sm_goes (h8 : 0 ≤ M 132 8) (hs6 : M 132 8 ≤ 6) (hp : M 132 9 ≤ 24) : ∀ (n9 : Nat) (a : Int) (i : Int) (u : zV) (w : Int), M 132 8 - i < n9 → 0 ≤ i → i ≤ M 132 8 → wp L 2 zm_Stemma_goesBack 44 [rV 132, u, iV y, iV x, iV w, iV a, iV i] [] M (fun r M' => r = some (iV (qGl M y x (M 132 8 - i).toNat a)) ∧ M' = M) := by
  intro n9
  induction n9 with
  | zero =>
    intro a  i  u  w  h9 g1 g2
    exact absurd h9 (by omega)
  | succ n9 ih =>
    intro a  i  u  w  h9 g1 g2
    refine wp_iload (pc := 44) d_Stemma_goesBack_44 rfl ?_
    refine wp_aload_n (pc := 46) d_Stemma_goesBack_46 rfl ?_
    refine wp_getI (pc := 47) d_Stemma_goesBack_47 rfl (by decide) (zk_132 L) ?_
    refine wp_icmp_ge (tgt := 86) (pc := 50) d_Stemma_goesBack_50 rfl (fun c50 => ?_) (fun c50 => ?_)
    · refine wp_iconst (pc := 86) d_Stemma_goesBack_86 rfl ?_
      refine wp_zreturn (pc := 87) d_Stemma_goesBack_87 rfl (by omega) ?_
      refine ⟨?_, rfl⟩
      first
      | (rw [show (M 132 8 - i).toNat = 0 by omega]; simp only [qGl])
      | (rw [show (M 132 8 - i).toNat = (M 132 8 - (i + 1)).toNat + 1 by omega]; simp only [qGl]; rw [if_pos c56])
    · refine wp_iload (pc := 53) d_Stemma_goesBack_53 rfl ?_
      refine wp_iconst (pc := 55) d_Stemma_goesBack_55 rfl ?_
      refine wp_icmp_eq (tgt := 86) (pc := 56) d_Stemma_goesBack_56 rfl (fun c56 => ?_) (fun c56 => ?_)
      · refine wp_iconst (pc := 86) d_Stemma_goesBack_86 rfl ?_
        refine wp_zreturn (pc := 87) d_Stemma_goesBack_87 rfl (by omega) ?_
        refine ⟨?_, rfl⟩
        first
        | (rw [show (M 132 8 - i).toNat = 0 by omega]; simp only [qGl])
        | (rw [show (M 132 8 - i).toNat = (M 132 8 - (i + 1)).toNat + 1 by omega]; simp only [qGl]; rw [if_pos c56])
      · refine wp_aload_n (pc := 59) d_Stemma_goesBack_59 rfl ?_
        refine wp_iload (pc := 60) d_Stemma_goesBack_60 rfl ?_
        refine wp_iload_n (pc := 62) d_Stemma_goesBack_62 rfl ?_
        refine wp_callV2f (pc := 63) d_Stemma_goesBack_63 rfl rfl (zk_132 L) rfl rfl (c_Sm_rdS hp hs6) ?_
        refine wp_iload_n (pc := 66) d_Stemma_goesBack_66 rfl ?_
        refine wp_icmp_ne (tgt := 72) (pc := 67) d_Stemma_goesBack_67 rfl (fun c67 => ?_) (fun c67 => ?_)
        · refine wp_aload_n (pc := 72) d_Stemma_goesBack_72 rfl ?_
          refine wp_iload (pc := 73) d_Stemma_goesBack_73 rfl ?_
          refine wp_callV1f (pc := 75) d_Stemma_goesBack_75 rfl rfl (zk_132 L) rfl rfl (c_Sm_par hs6) ?_
          refine wp_ist5 (pc := 78) d_Stemma_goesBack_78 rfl ?_
          refine wp_iinc6 (pc := 80) d_Stemma_goesBack_80 rfl (by omega) (by omega) ?_
          refine wp_goto (tgt := 44) (pc := 83) d_Stemma_goesBack_83 rfl ?_
          have := ih (qPm M a) (i + 1) u w (by omega) (by omega) (by omega)
          refine wp_mono this (fun r M' hr => ⟨hr.1.trans ?_, hr.2⟩)
          rw [show (M 132 8 - i).toNat = (M 132 8 - (i + 1)).toNat + 1 by omega]
          simp only [qGl]
          rw [if_neg c56, if_neg c67]
        · refine wp_iconst (pc := 70) d_Stemma_goesBack_70 rfl ?_
          refine wp_zreturn (pc := 71) d_Stemma_goesBack_71 rfl (by omega) ?_
          refine ⟨?_, rfl⟩
          rw [show (M 132 8 - i).toNat = (M 132 8 - (i + 1)).toNat + 1 by omega]
          simp only [qGl]
          rw [if_neg c56, if_pos (Decidable.of_not_not c67)]
theorem c_Sm_goes (h8 : 0 ≤ M 132 8) (hs6 : M 132 8 ≤ 6) (hp : M 132 9 ≤ 24) : Cf L 2 zm_Stemma_goesBack [rV 132, iV x, iV y] M (iV (qGb M x y)) M := by
  show wp L _ zm_Stemma_goesBack 0 [rV 132, iV x, iV y, uV, uV, uV, uV] [] M _
  refine wp_aload_n (pc := 0) d_Stemma_goesBack_0 rfl ?_
  refine wp_iload_n (pc := 1) d_Stemma_goesBack_1 rfl ?_
  refine wp_iload_n (pc := 2) d_Stemma_goesBack_2 rfl ?_
  refine wp_callV2f (pc := 3) d_Stemma_goesBack_3 rfl rfl (zk_132 L) rfl rfl (c_Sm_rdS hp hs6) ?_
  refine wp_ist3 (pc := 6) d_Stemma_goesBack_6 rfl ?_
  refine wp_aload_n (pc := 7) d_Stemma_goesBack_7 rfl ?_
  refine wp_iload_n (pc := 8) d_Stemma_goesBack_8 rfl ?_
  refine wp_callV1f (pc := 9) d_Stemma_goesBack_9 rfl rfl (zk_132 L) rfl rfl (c_Sm_par hs6) ?_
  refine wp_ist4 (pc := 12) d_Stemma_goesBack_12 rfl ?_
  refine wp_iload (pc := 14) d_Stemma_goesBack_14 rfl ?_
  refine wp_iconst (pc := 16) d_Stemma_goesBack_16 rfl ?_
  refine wp_icmp_eq (tgt := 31) (pc := 17) d_Stemma_goesBack_17 rfl (fun c17 => ?_) (fun c17 => ?_)
  · refine wp_iconst (pc := 31) d_Stemma_goesBack_31 rfl ?_
    refine wp_zreturn (pc := 32) d_Stemma_goesBack_32 rfl (by omega) ?_
    refine ⟨?_, rfl⟩
    unfold qGb
    first | rw [if_pos (Or.inl c17)] | rw [if_pos (Or.inr (Decidable.of_not_not c28))]
  · refine wp_aload_n (pc := 20) d_Stemma_goesBack_20 rfl ?_
    refine wp_iload (pc := 21) d_Stemma_goesBack_21 rfl ?_
    refine wp_iload_n (pc := 23) d_Stemma_goesBack_23 rfl ?_
    refine wp_callV2f (pc := 24) d_Stemma_goesBack_24 rfl rfl (zk_132 L) rfl rfl (c_Sm_rdS hp hs6) ?_
    refine wp_iload_n (pc := 27) d_Stemma_goesBack_27 rfl ?_
    refine wp_icmp_ne (tgt := 33) (pc := 28) d_Stemma_goesBack_28 rfl (fun c28 => ?_) (fun c28 => ?_)
    · refine wp_aload_n (pc := 33) d_Stemma_goesBack_33 rfl ?_
      refine wp_iload (pc := 34) d_Stemma_goesBack_34 rfl ?_
      refine wp_callV1f (pc := 36) d_Stemma_goesBack_36 rfl rfl (zk_132 L) rfl rfl (c_Sm_par hs6) ?_
      refine wp_ist5 (pc := 39) d_Stemma_goesBack_39 rfl ?_
      refine wp_iconst (pc := 41) d_Stemma_goesBack_41 rfl ?_
      refine wp_ist6 (pc := 42) d_Stemma_goesBack_42 rfl ?_
      refine wp_mono (lp_Sm_goes h8 hs6 hp 100 (qPm M (qPm M x)) 0 _ _ (by omega) (by omega) (by omega)) (fun r M' hr => ⟨hr.1.trans ?_, hr.2⟩)
      unfold qGb
      rw [if_neg (fun z => z.elim c17 c28), Int.sub_zero]
    · refine wp_iconst (pc := 31) d_Stemma_goesBack_31 rfl ?_
      refine wp_zreturn (pc := 32) d_Stemma_goesBack_32 rfl (by omega) ?_
      refine ⟨?_, rfl⟩
      unfold qGb
      first | rw [if_pos (Or.inl c17)] | rw [if_pos (Or.inr (Decidable.of_not_not c28))]
theorem lp_Sm_group (h8 : 0 ≤ M 132 8) (hs6 : M 132 8 < 6) (h0 : 0 ≤ M 132 9) (hp : M 132 9 ≤ 24) (x0 : 0 ≤ x) (x1 : x < 6) (hm : ∀ k : Nat, (k : Int) < M 132 8 → 0 ≤ M 142 k ∧ M 142 k ≤ 1000) : ∀ (n9 : Nat) (i : Int), M 132 8 - i < n9 → 0 ≤ i → i ≤ M 132 8 → qFd (fun s => qDf M (M 141 s.toNat) x) (M 132 8 - i).toNat i = qFd (fun s => qDf M (M 141 s.toNat) x) (M 132 8).toNat 0 → wp L 2 zm_Stemma_group 2 [rV 132, iV x, iV i] [] M (fun r M' => r = none ∧ (if qFd (fun s => qDf M (M 141 s.toNat) x) (M 132 8).toNat 0 < M 132 8 then M' = zU (zU M 140 x.toNat (qFd (fun s => qDf M (M 141 s.toNat) x) (M 132 8).toNat 0)) 142 (qFd (fun s => qDf M (M 141 s.toNat) x) (M 132 8).toNat 0).toNat (M 142 (qFd (fun s => qDf M (M 141 s.toNat) x) (M 132 8).toNat 0).toNat + 1) else M' = zU (zU (zU (zU M 140 x.toNat (M 132 8)) 141 (M 132 8).toNat x) 142 (M 132 8).toNat 1) 132 8 (M 132 8 + 1))) := by
  intro n9
  induction n9 with
  | zero =>
    intro i  h9 g1 g2 g3
    exact absurd h9 (by omega)
  | succ n9 ih =>
    intro i  h9 g1 g2 g3
    refine wp_iload_n (pc := 2) d_Stemma_group_2 rfl ?_
    refine wp_aload_n (pc := 3) d_Stemma_group_3 rfl ?_
    refine wp_getI (pc := 4) d_Stemma_group_4 rfl (by decide) (zk_132 L) ?_
    refine wp_icmp_ge (tgt := 48) (pc := 7) d_Stemma_group_7 rfl (fun c7 => ?_) (fun c7 => ?_)
    · refine wp_aload_n (pc := 48) d_Stemma_group_48 rfl ?_
      refine wp_getI (pc := 49) d_Stemma_group_49 rfl (by decide) (zk_132 L) ?_
      refine wp_bipush (pc := 52) d_Stemma_group_52 rfl ?_
      refine wp_icmp_ge (tgt := 97) (pc := 54) d_Stemma_group_54 rfl (fun c54 => ?_) (fun c54 => ?_)
      · exact absurd c54 (by omega)
      · refine wp_aload_n (pc := 57) d_Stemma_group_57 rfl ?_
        refine wp_getR (pc := 58) d_Stemma_group_58 rfl (zk_132 L) zx_132_1 ?_
        refine wp_iload_n (pc := 61) d_Stemma_group_61 rfl ?_
        refine wp_aload_n (pc := 62) d_Stemma_group_62 rfl ?_
        refine wp_getI (pc := 63) d_Stemma_group_63 rfl (by decide) (zk_132 L) ?_
        refine wp_iast (pc := 66) d_Stemma_group_66 (zk_140 L) (by decide) (by omega) (by omega) ?_
        refine wp_aload_n (pc := 67) d_Stemma_group_67 rfl ?_
        refine wp_getR (pc := 68) d_Stemma_group_68 rfl (zk_132 L) zx_132_2 ?_
        refine wp_aload_n (pc := 71) d_Stemma_group_71 rfl ?_
        refine wp_getI (pc := 72) d_Stemma_group_72 rfl (by decide) (zk_132 L) ?_
        repeat rw [zU_na (by omega)]
        refine wp_iload_n (pc := 75) d_Stemma_group_75 rfl ?_
        refine wp_iast (pc := 76) d_Stemma_group_76 (zk_141 L) (by decide) (by omega) (by omega) ?_
        refine wp_aload_n (pc := 77) d_Stemma_group_77 rfl ?_
        refine wp_getR (pc := 78) d_Stemma_group_78 rfl (zk_132 L) zx_132_3 ?_
        refine wp_aload_n (pc := 81) d_Stemma_group_81 rfl ?_
        refine wp_getI (pc := 82) d_Stemma_group_82 rfl (by decide) (zk_132 L) ?_
        repeat rw [zU_na (by omega)]
        refine wp_iconst (pc := 85) d_Stemma_group_85 rfl ?_
        refine wp_iast (pc := 86) d_Stemma_group_86 (zk_142 L) (by decide) (by omega) (by omega) ?_
        refine wp_aload_n (pc := 87) d_Stemma_group_87 rfl ?_
        refine wp_dup (pc := 88) d_Stemma_group_88 rfl ?_
        refine wp_getI (pc := 89) d_Stemma_group_89 rfl (by decide) (zk_132 L) ?_
        repeat rw [zU_na (by omega)]
        refine wp_iconst (pc := 92) d_Stemma_group_92 rfl ?_
        refine wp_iadd (pc := 93) d_Stemma_group_93 (by omega) (by omega) ?_
        refine wp_putI (pc := 94) d_Stemma_group_94 rfl (zk_132 L) (by decide) ?_
        refine wp_return_ (pc := 97) d_Stemma_group_97 rfl ?_
        have hi : qFd (fun s => qDf M (M 141 s.toNat) x) (M 132 8).toNat 0 = M 132 8 := by
          rw [← g3, show (M 132 8 - i).toNat = 0 by omega]
          simp only [qFd]
          omega
        refine ⟨rfl, ?_⟩
        rw [hi, if_neg (by omega)]
    · refine wp_aload_n (pc := 10) d_Stemma_group_10 rfl ?_
      refine wp_aload_n (pc := 11) d_Stemma_group_11 rfl ?_
      refine wp_getR (pc := 12) d_Stemma_group_12 rfl (zk_132 L) zx_132_2 ?_
      refine wp_iload_n (pc := 15) d_Stemma_group_15 rfl ?_
      refine wp_iald (pc := 16) d_Stemma_group_16 (zk_141 L) (by omega) (by omega) ?_
      refine wp_iload_n (pc := 17) d_Stemma_group_17 rfl ?_
      refine wp_callV2f (pc := 18) d_Stemma_group_18 rfl rfl (zk_132 L) rfl rfl (c_Sm_diff h0 hp) ?_
      refine wp_if_ne (tgt := 42) (pc := 21) d_Stemma_group_21 rfl (fun c21 => ?_) (fun c21 => ?_)
      · refine wp_iinc2 (pc := 42) d_Stemma_group_42 rfl (by omega) (by omega) ?_
        refine wp_goto (tgt := 2) (pc := 45) d_Stemma_group_45 rfl ?_
        refine ih (i + 1) (by omega) (by omega) (by omega) ?_
        rw [← g3, show (M 132 8 - i).toNat = (M 132 8 - (i + 1)).toNat + 1 by omega]
        simp only [qFd]
        rw [if_neg c21]
      · have hmi := hm i.toNat (by omega)
        refine wp_aload_n (pc := 24) d_Stemma_group_24 rfl ?_
        refine wp_getR (pc := 25) d_Stemma_group_25 rfl (zk_132 L) zx_132_1 ?_
        refine wp_iload_n (pc := 28) d_Stemma_group_28 rfl ?_
        refine wp_iload_n (pc := 29) d_Stemma_group_29 rfl ?_
        refine wp_iast (pc := 30) d_Stemma_group_30 (zk_140 L) (by decide) (by omega) (by omega) ?_
        refine wp_aload_n (pc := 31) d_Stemma_group_31 rfl ?_
        refine wp_getR (pc := 32) d_Stemma_group_32 rfl (zk_132 L) zx_132_3 ?_
        refine wp_iload_n (pc := 35) d_Stemma_group_35 rfl ?_
        refine wp_dup2 (pc := 36) d_Stemma_group_36 rfl rfl ?_
        refine wp_iald (pc := 37) d_Stemma_group_37 (zk_142 L) (by omega) (by omega) ?_
        repeat rw [zU_na (by omega)]
        refine wp_iconst (pc := 38) d_Stemma_group_38 rfl ?_
        refine wp_iadd (pc := 39) d_Stemma_group_39 (by omega) (by omega) ?_
        refine wp_iast (pc := 40) d_Stemma_group_40 (zk_142 L) (by decide) (by omega) (by omega) ?_
        refine wp_return_ (pc := 41) d_Stemma_group_41 rfl ?_
        have hi : qFd (fun s => qDf M (M 141 s.toNat) x) (M 132 8).toNat 0 = i := by
          rw [← g3, show (M 132 8 - i).toNat = (M 132 8 - (i + 1)).toNat + 1 by omega]
          simp only [qFd]
          rw [if_pos (Decidable.of_not_not c21)]
        refine ⟨rfl, ?_⟩
        rw [hi, if_pos (by omega)]
theorem c_Sm_group (h8 : 0 ≤ M 132 8) (hs6 : M 132 8 < 6) (h0 : 0 ≤ M 132 9) (hp : M 132 9 ≤ 24) (x0 : 0 ≤ x) (x1 : x < 6) (hm : ∀ k : Nat, (k : Int) < M 132 8 → 0 ≤ M 142 k ∧ M 142 k ≤ 1000) : wpc L 2 zm_Stemma_group [rV 132, iV x] M (fun r M' => r = none ∧ (if qFd (fun s => qDf M (M 141 s.toNat) x) (M 132 8).toNat 0 < M 132 8 then M' = zU (zU M 140 x.toNat (qFd (fun s => qDf M (M 141 s.toNat) x) (M 132 8).toNat 0)) 142 (qFd (fun s => qDf M (M 141 s.toNat) x) (M 132 8).toNat 0).toNat (M 142 (qFd (fun s => qDf M (M 141 s.toNat) x) (M 132 8).toNat 0).toNat + 1) else M' = zU (zU (zU (zU M 140 x.toNat (M 132 8)) 141 (M 132 8).toNat x) 142 (M 132 8).toNat 1) 132 8 (M 132 8 + 1))) := by
  show wp L _ zm_Stemma_group 0 [rV 132, iV x, uV] [] M _
  refine wp_iconst (pc := 0) d_Stemma_group_0 rfl ?_
  refine wp_ist2 (pc := 1) d_Stemma_group_1 rfl ?_
  exact lp_Sm_group h8 hs6 h0 hp x0 x1 hm 100 0 (by omega) (by omega) (by omega) (by rw [Int.sub_zero])
end ZSt3
