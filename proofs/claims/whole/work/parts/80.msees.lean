/-! the model's sightings -/
section ZM10
variable {L : Nat} {M : zM} {D : qDt} {Y : qYt} {g : qPt} {x y z w c p s i j : Int}
theorem lp_M_isTaken (hy : mY M Y) (hi : qYi Y) : ∀ (n9 : Nat) (k : Nat) (f : Int), Y.1 - k < n9 → ((k : Int) ≤ Y.1) → (f = qB (qEx (fun k => decide (Y.2 k 1 = y ∧ (Y.2 k 0 = x ∨ Y.2 k 2 = z))) k)) → wp L 0 zm_M_isTaken 6 [rV 174, iV x, iV y, iV z, iV f, iV k] [] M (fun r M' => r = some (iV (qB (uCl Y x y z))) ∧ M' = M) := by
  intro n9
  induction n9 with
  | zero =>
    intro k  f  h9 g1 g3
    have e7 := hy.1
    have h12 := hi.1
    exact absurd h9 (by omega)
  | succ n9 ih =>
    intro k  f  h9 g1 g3
    have e7 := hy.1
    have h12 := hi.1
    refine wp_iload (pc := 6) d_M_isTaken_6 rfl ?_
    refine wp_aload_n (pc := 8) d_M_isTaken_8 rfl ?_
    refine wp_getI (pc := 9) d_M_isTaken_9 rfl (by decide) (zk_174 L) ?_
    refine wp_icmp_ge (tgt := 66) (pc := 12) d_M_isTaken_12 rfl (fun c12 => ?_) (fun c12 => ?_)
    · refine wp_iload (pc := 66) d_M_isTaken_66 rfl ?_
      refine wp_zreturn (pc := 68) d_M_isTaken_68 rfl (by rw [g3]; exact qB_in _) ?_
      refine ⟨?_, rfl⟩
      rw [g3, show k = Y.1.toNat by omega]
      rfl
    · obtain ⟨r1, r2, r3, r4⟩ := hy.2 (k : Int) (by omega) (by omega)
      have hT : ¬ f = 0 → qEx (fun k => decide (Y.2 k 1 = y ∧ (Y.2 k 0 = x ∨ Y.2 k 2 = z))) k = true := fun z => qB_1 (by rw [← g3]; exact z)
      have hF : f = 0 → qEx (fun k => decide (Y.2 k 1 = y ∧ (Y.2 k 0 = x ∨ Y.2 k 2 = z))) k = false := fun z => qB_0 (by rw [← g3]; exact z)
      refine zcut (pc' := 58) (fun (v58 : Int) => v58 = qB (qEx (fun k => decide (Y.2 k 1 = y ∧ (Y.2 k 0 = x ∨ Y.2 k 2 = z))) (k + 1))) (fun (v58 : Int) => [rV 174, iV x, iV y, iV z, iV f, iV (k : Int)]) (fun (v58 : Int) => [iV v58]) (fun (v58 : Int) => M) ?_ (fun K58 => ?_)
      · intro v58 h58
        show wp L _ zm_M_isTaken 58 [rV 174, iV x, iV y, iV z, iV f, iV (k : Int)] [iV v58] (M) _
        refine wp_ist4 (pc := 58) d_M_isTaken_58 rfl ?_
        refine wp_iinc5 (pc := 60) d_M_isTaken_60 rfl (by omega) (by omega) ?_
        refine wp_goto (tgt := 6) (pc := 63) d_M_isTaken_63 rfl ?_
        exact ih (k + 1) _ (by omega) (by omega) h58
      · refine wp_iload (pc := 15) d_M_isTaken_15 rfl ?_
        refine wp_if_ne (tgt := 53) (pc := 17) d_M_isTaken_17 rfl (fun c17 => ?_) (fun c17 => ?_)
        · refine wp_iconst (pc := 53) d_M_isTaken_53 rfl ?_
          refine wp_goto (tgt := 58) (pc := 54) d_M_isTaken_54 rfl ?_
          refine K58 _ ?_
          rw [qEx_s]
          first
          | (rw [hT c17]; rfl)
          | (rw [hF (Decidable.of_not_not c17), decide_eq_true (by omega)]; rfl)
          | (rw [hF (Decidable.of_not_not c17), decide_eq_false (by omega)]; rfl)
        · refine wp_aload_n (pc := 20) d_M_isTaken_20 rfl ?_
          refine wp_getR (pc := 21) d_M_isTaken_21 rfl (zk_174 L) zx_174_9 ?_
          refine wp_iload (pc := 24) d_M_isTaken_24 rfl ?_
          refine wp_iald (pc := 26) d_M_isTaken_26 (zk_179 L) (by omega) (by omega) ?_
          rw [r2]
          refine wp_iload_n (pc := 27) d_M_isTaken_27 rfl ?_
          refine wp_icmp_ne (tgt := 57) (pc := 28) d_M_isTaken_28 rfl (fun c28 => ?_) (fun c28 => ?_)
          · refine wp_iconst (pc := 57) d_M_isTaken_57 rfl ?_
            refine K58 _ ?_
            rw [qEx_s]
            first
            | (rw [hT c17]; rfl)
            | (rw [hF (Decidable.of_not_not c17), decide_eq_true (by omega)]; rfl)
            | (rw [hF (Decidable.of_not_not c17), decide_eq_false (by omega)]; rfl)
          · refine wp_aload_n (pc := 31) d_M_isTaken_31 rfl ?_
            refine wp_getR (pc := 32) d_M_isTaken_32 rfl (zk_174 L) zx_174_8 ?_
            refine wp_iload (pc := 35) d_M_isTaken_35 rfl ?_
            refine wp_iald (pc := 37) d_M_isTaken_37 (zk_178 L) (by omega) (by omega) ?_
            rw [r1]
            refine wp_iload_n (pc := 38) d_M_isTaken_38 rfl ?_
            refine wp_icmp_eq (tgt := 53) (pc := 39) d_M_isTaken_39 rfl (fun c39 => ?_) (fun c39 => ?_)
            · refine wp_iconst (pc := 53) d_M_isTaken_53 rfl ?_
              refine wp_goto (tgt := 58) (pc := 54) d_M_isTaken_54 rfl ?_
              refine K58 _ ?_
              rw [qEx_s]
              first
              | (rw [hT c17]; rfl)
              | (rw [hF (Decidable.of_not_not c17), decide_eq_true (by omega)]; rfl)
              | (rw [hF (Decidable.of_not_not c17), decide_eq_false (by omega)]; rfl)
            · refine wp_aload_n (pc := 42) d_M_isTaken_42 rfl ?_
              refine wp_getR (pc := 43) d_M_isTaken_43 rfl (zk_174 L) zx_174_10 ?_
              refine wp_iload (pc := 46) d_M_isTaken_46 rfl ?_
              refine wp_iald (pc := 48) d_M_isTaken_48 (zk_180 L) (by omega) (by omega) ?_
              rw [r3]
              refine wp_iload_n (pc := 49) d_M_isTaken_49 rfl ?_
              refine wp_icmp_ne (tgt := 57) (pc := 50) d_M_isTaken_50 rfl (fun c50 => ?_) (fun c50 => ?_)
              · refine wp_iconst (pc := 57) d_M_isTaken_57 rfl ?_
                refine K58 _ ?_
                rw [qEx_s]
                first
                | (rw [hT c17]; rfl)
                | (rw [hF (Decidable.of_not_not c17), decide_eq_true (by omega)]; rfl)
                | (rw [hF (Decidable.of_not_not c17), decide_eq_false (by omega)]; rfl)
              · refine wp_iconst (pc := 53) d_M_isTaken_53 rfl ?_
                refine wp_goto (tgt := 58) (pc := 54) d_M_isTaken_54 rfl ?_
                refine K58 _ ?_
                rw [qEx_s]
                first
                | (rw [hT c17]; rfl)
                | (rw [hF (Decidable.of_not_not c17), decide_eq_true (by omega)]; rfl)
                | (rw [hF (Decidable.of_not_not c17), decide_eq_false (by omega)]; rfl)
theorem c_M_isTaken (hy : mY M Y) (hi : qYi Y) : Cf L 0 zm_M_isTaken [rV 174, iV x, iV y, iV z] M (iV (qB (uCl Y x y z))) M := by
  show wp L _ zm_M_isTaken 0 [rV 174, iV x, iV y, iV z, uV, uV] [] M _
  have e7 := hy.1
  have h12 := hi.1
  refine wp_iconst (pc := 0) d_M_isTaken_0 rfl ?_
  refine wp_ist4 (pc := 1) d_M_isTaken_1 rfl ?_
  refine wp_iconst (pc := 3) d_M_isTaken_3 rfl ?_
  refine wp_ist5 (pc := 4) d_M_isTaken_4 rfl ?_
  exact lp_M_isTaken hy hi 100 0 0 (by omega) (by omega) rfl
theorem c_M_see (hy : mY M Y) (hi : qYi Y) : Ci L 1 zm_M_see [rV 174, iV x, iV y, iV z, iV w] M (fun v M' => (M' = M ∧ (¬ ((0 ≤ x ∧ x < 6) ∧ (0 ≤ y ∧ y < 6) ∧ (0 ≤ z ∧ z ≤ 9) ∧ 1 ≤ w ∧ w ≤ 9) ∧ v = -102 ∨ ((0 ≤ x ∧ x < 6) ∧ (0 ≤ y ∧ y < 6) ∧ (0 ≤ z ∧ z ≤ 9) ∧ 1 ≤ w ∧ w ≤ 9) ∧ (uCl Y x y z = true ∧ v = -103 ∨ uCl Y x y z = false ∧ ¬ Y.1 < 12 ∧ v = -104))) ∨ (mF (fun a k => (178 ≤ a ∧ a < 182) ∨ a = 174 ∧ k = 7) M M' ∧ ((0 ≤ x ∧ x < 6) ∧ (0 ≤ y ∧ y < 6) ∧ (0 ≤ z ∧ z ≤ 9) ∧ 1 ≤ w ∧ w ≤ 9) ∧ uCl Y x y z = false ∧ Y.1 < 12 ∧ v = Y.1 ∧ mY M' (uAdd Y x y z w))) := by
  show wp L _ zm_M_see 0 [rV 174, iV x, iV y, iV z, iV w] [] M _
  have e7 := hy.1
  have h12 := hi.1
  refine wp_iload_n (pc := 0) d_M_see_0 rfl ?_
  refine wp_iconst (pc := 1) d_M_see_1 rfl ?_
  refine wp_iconst (pc := 2) d_M_see_2 rfl ?_
  refine wp_callS3f (pc := 3) d_M_see_3 rfl rfl rfl rfl rfl c_M_within ?_
  refine wp_if_eq (tgt := 39) (pc := 6) d_M_see_6 rfl (fun c6 => ?_) (fun c6 => ?_)
  · have c6 := zb_eq0 c6
    refine wp_bipush (pc := 39) d_M_see_39 rfl ?_
    refine wp_ireturn (pc := 41) d_M_see_41 rfl ?_
    exact ⟨_, rfl, Or.inl ⟨rfl, Or.inl ⟨by omega, rfl⟩⟩⟩
  · have c6 := zb_ne0 c6
    refine wp_iload_n (pc := 9) d_M_see_9 rfl ?_
    refine wp_iconst (pc := 10) d_M_see_10 rfl ?_
    refine wp_iconst (pc := 11) d_M_see_11 rfl ?_
    refine wp_callS3f (pc := 12) d_M_see_12 rfl rfl rfl rfl rfl c_M_within ?_
    refine wp_if_eq (tgt := 39) (pc := 15) d_M_see_15 rfl (fun c15 => ?_) (fun c15 => ?_)
    · have c15 := zb_eq0 c15
      refine wp_bipush (pc := 39) d_M_see_39 rfl ?_
      refine wp_ireturn (pc := 41) d_M_see_41 rfl ?_
      exact ⟨_, rfl, Or.inl ⟨rfl, Or.inl ⟨by omega, rfl⟩⟩⟩
    · have c15 := zb_ne0 c15
      refine wp_iload_n (pc := 18) d_M_see_18 rfl ?_
      refine wp_iconst (pc := 19) d_M_see_19 rfl ?_
      refine wp_bipush (pc := 20) d_M_see_20 rfl ?_
      refine wp_callS3f (pc := 22) d_M_see_22 rfl rfl rfl rfl rfl c_M_within ?_
      refine wp_if_eq (tgt := 39) (pc := 25) d_M_see_25 rfl (fun c25 => ?_) (fun c25 => ?_)
      · have c25 := zb_eq0 c25
        refine wp_bipush (pc := 39) d_M_see_39 rfl ?_
        refine wp_ireturn (pc := 41) d_M_see_41 rfl ?_
        exact ⟨_, rfl, Or.inl ⟨rfl, Or.inl ⟨by omega, rfl⟩⟩⟩
      · have c25 := zb_ne0 c25
        refine wp_iload (pc := 28) d_M_see_28 rfl ?_
        refine wp_iconst (pc := 30) d_M_see_30 rfl ?_
        refine wp_bipush (pc := 31) d_M_see_31 rfl ?_
        refine wp_callS3f (pc := 33) d_M_see_33 rfl rfl rfl rfl rfl c_M_within ?_
        refine wp_if_ne (tgt := 42) (pc := 36) d_M_see_36 rfl (fun c36 => ?_) (fun c36 => ?_)
        · have c36 := zb_ne0 c36
          refine wp_aload_n (pc := 42) d_M_see_42 rfl ?_
          refine wp_iload_n (pc := 43) d_M_see_43 rfl ?_
          refine wp_iload_n (pc := 44) d_M_see_44 rfl ?_
          refine wp_iload_n (pc := 45) d_M_see_45 rfl ?_
          refine wp_callV3f (pc := 46) d_M_see_46 rfl rfl (zk_174 L) rfl rfl (c_M_isTaken hy hi) ?_
          refine wp_if_eq (tgt := 55) (pc := 49) d_M_see_49 rfl (fun c49 => ?_) (fun c49 => ?_)
          · refine wp_aload_n (pc := 55) d_M_see_55 rfl ?_
            refine wp_getI (pc := 56) d_M_see_56 rfl (by decide) (zk_174 L) ?_
            rw [e7]
            refine wp_bipush (pc := 59) d_M_see_59 rfl ?_
            refine wp_icmp_ne (tgt := 67) (pc := 61) d_M_see_61 rfl (fun c61 => ?_) (fun c61 => ?_)
            · refine wp_aload_n (pc := 67) d_M_see_67 rfl ?_
              refine wp_getR (pc := 68) d_M_see_68 rfl (zk_174 L) zx_174_8 ?_
              refine wp_aload_n (pc := 71) d_M_see_71 rfl ?_
              refine wp_getI (pc := 72) d_M_see_72 rfl (by decide) (zk_174 L) ?_
              rw [e7]
              refine wp_iload_n (pc := 75) d_M_see_75 rfl ?_
              refine wp_iast (pc := 76) d_M_see_76 (zk_178 L) (by decide) (by omega) (by omega) ?_
              refine wp_aload_n (pc := 77) d_M_see_77 rfl ?_
              refine wp_getR (pc := 78) d_M_see_78 rfl (zk_174 L) zx_174_9 ?_
              refine wp_aload_n (pc := 81) d_M_see_81 rfl ?_
              refine wp_getI (pc := 82) d_M_see_82 rfl (by decide) (zk_174 L) ?_
              rw [zU_na (by decide), e7]
              refine wp_iload_n (pc := 85) d_M_see_85 rfl ?_
              refine wp_iast (pc := 86) d_M_see_86 (zk_179 L) (by decide) (by omega) (by omega) ?_
              refine wp_aload_n (pc := 87) d_M_see_87 rfl ?_
              refine wp_getR (pc := 88) d_M_see_88 rfl (zk_174 L) zx_174_10 ?_
              refine wp_aload_n (pc := 91) d_M_see_91 rfl ?_
              refine wp_getI (pc := 92) d_M_see_92 rfl (by decide) (zk_174 L) ?_
              rw [zU_na (by decide), zU_na (by decide), e7]
              refine wp_iload_n (pc := 95) d_M_see_95 rfl ?_
              refine wp_iast (pc := 96) d_M_see_96 (zk_180 L) (by decide) (by omega) (by omega) ?_
              refine wp_aload_n (pc := 97) d_M_see_97 rfl ?_
              refine wp_getR (pc := 98) d_M_see_98 rfl (zk_174 L) zx_174_11 ?_
              refine wp_aload_n (pc := 101) d_M_see_101 rfl ?_
              refine wp_getI (pc := 102) d_M_see_102 rfl (by decide) (zk_174 L) ?_
              rw [zU_na (by decide), zU_na (by decide), zU_na (by decide), e7]
              refine wp_iload (pc := 105) d_M_see_105 rfl ?_
              refine wp_iast (pc := 107) d_M_see_107 (zk_181 L) (by decide) (by omega) (by omega) ?_
              refine wp_aload_n (pc := 108) d_M_see_108 rfl ?_
              refine wp_dup (pc := 109) d_M_see_109 rfl ?_
              refine wp_getI (pc := 110) d_M_see_110 rfl (by decide) (zk_174 L) ?_
              rw [zU_na (by decide), zU_na (by decide), zU_na (by decide), zU_na (by decide), e7]
              refine wp_iconst (pc := 113) d_M_see_113 rfl ?_
              refine wp_iadd (pc := 114) d_M_see_114 (by omega) (by omega) ?_
              refine wp_putI (pc := 115) d_M_see_115 rfl (zk_174 L) (by decide) ?_
              refine wp_aload_n (pc := 118) d_M_see_118 rfl ?_
              refine wp_getI (pc := 119) d_M_see_119 rfl (by decide) (zk_174 L) ?_
              rw [zU_eq]
              refine wp_iconst (pc := 122) d_M_see_122 rfl ?_
              refine wp_isub (pc := 123) d_M_see_123 (by omega) (by omega) ?_
              refine wp_ireturn (pc := 124) d_M_see_124 rfl ?_
              have k1 : mF (fun a k => (178 ≤ a ∧ a < 182) ∨ a = 174 ∧ k = 7) M (zU (zU (zU (zU (zU M 178 Y.1.toNat x) 179 Y.1.toNat y) 180 Y.1.toNat z) 181 Y.1.toNat w) 174 7 (Y.1 + 1)) := ((((mF.rf.u (by omega)).u (by omega)).u (by omega)).u (by omega)).u (by omega)
              refine ⟨_, rfl, Or.inr ⟨k1, by omega, qB_0 c49, by omega, by omega, zU_eq, fun i i0 i1 => ?_⟩⟩
              have i1 : i < Y.1 + 1 := i1
              have eu : ∀ k, (uAdd Y x y z w).2 i k = if i = Y.1 then (if k = 0 then x else if k = 1 then y else if k = 2 then z else if k = 3 then w else -1) else Y.2 i k := fun k => rfl
              rw [eu, eu, eu, eu]
              by_cases e : i = Y.1
              · rw [if_pos e, if_pos e, if_pos e, if_pos e, e]
                refine ⟨?_, ?_, ?_, ?_⟩
                · rw [zU_na (by decide), zU_na (by decide), zU_na (by decide), zU_na (by decide), zU_eq]; rfl
                · rw [zU_na (by decide), zU_na (by decide), zU_na (by decide), zU_eq]; rfl
                · rw [zU_na (by decide), zU_na (by decide), zU_eq]; rfl
                · rw [zU_na (by decide), zU_eq]; rfl
              · obtain ⟨r1, r2, r3, r4⟩ := hy.2 i i0 (by omega)
                rw [if_neg e, if_neg e, if_neg e, if_neg e]
                refine ⟨?_, ?_, ?_, ?_⟩
                · rw [zU_na (by decide), zU_na (by decide), zU_na (by decide), zU_na (by decide), zU_nk (by omega)]; exact r1
                · rw [zU_na (by decide), zU_na (by decide), zU_na (by decide), zU_nk (by omega), zU_na (by decide)]; exact r2
                · rw [zU_na (by decide), zU_na (by decide), zU_nk (by omega), zU_na (by decide), zU_na (by decide)]; exact r3
                · rw [zU_na (by decide), zU_nk (by omega), zU_na (by decide), zU_na (by decide), zU_na (by decide)]; exact r4
            · refine wp_bipush (pc := 64) d_M_see_64 rfl ?_
              refine wp_ireturn (pc := 66) d_M_see_66 rfl ?_
              exact ⟨_, rfl, Or.inl ⟨rfl, Or.inr ⟨by omega, Or.inr ⟨qB_0 c49, by omega, rfl⟩⟩⟩⟩
          · refine wp_bipush (pc := 52) d_M_see_52 rfl ?_
            refine wp_ireturn (pc := 54) d_M_see_54 rfl ?_
            exact ⟨_, rfl, Or.inl ⟨rfl, Or.inr ⟨by omega, Or.inl ⟨qB_1 c49, rfl⟩⟩⟩⟩
        · have c36 := zb_eq0 (Decidable.of_not_not c36)
          refine wp_bipush (pc := 39) d_M_see_39 rfl ?_
          refine wp_ireturn (pc := 41) d_M_see_41 rfl ?_
          exact ⟨_, rfl, Or.inl ⟨rfl, Or.inl ⟨by omega, rfl⟩⟩⟩
theorem c_M_isSighting (hy : mY M Y) (hi : qYi Y) : Cf L 1 zm_M_isSighting [rV 174, iV x] M (iV (if 0 ≤ x ∧ x < Y.1 then 1 else 0)) M := by
  show wp L _ zm_M_isSighting 0 [rV 174, iV x] [] M _
  have e7 := hy.1
  have h12 := hi.1
  refine wp_iload_n (pc := 0) d_M_isSighting_0 rfl ?_
  refine wp_iconst (pc := 1) d_M_isSighting_1 rfl ?_
  refine wp_aload_n (pc := 2) d_M_isSighting_2 rfl ?_
  refine wp_getI (pc := 3) d_M_isSighting_3 rfl (by decide) (zk_174 L) ?_
  refine wp_iconst (pc := 6) d_M_isSighting_6 rfl ?_
  refine wp_isub (pc := 7) d_M_isSighting_7 (by omega) (by omega) ?_
  refine wp_callS3f (pc := 8) d_M_isSighting_8 rfl rfl rfl rfl rfl c_M_within ?_
  refine wp_zreturn (pc := 11) d_M_isSighting_11 rfl (by split <;> omega) ?_
  refine ⟨?_, rfl⟩
  rw [e7]
  by_cases e : 0 ≤ x ∧ x < Y.1
  · rw [if_pos e, if_pos (by omega)]
  · rw [if_neg e, if_neg (by omega)]
theorem lp_M_unsee {M0 : zM} (h12 : 0 ≤ Y.1 ∧ Y.1 ≤ 12) (e7 : M0 174 7 = Y.1 - 1) (x0 : 0 ≤ x) (x1 : x < Y.1) : ∀ (n9 : Nat) (i : Int) (M : zM), Y.1 - i < n9 → (x ≤ i) → (i < Y.1) → (mF (fun a k => 178 ≤ a ∧ a < 182) M0 M) → ((∀ q : Int, 0 ≤ q → q < Y.1 → M 178 q.toNat = Y.2 (if x ≤ q ∧ q < i then q + 1 else q) 0 ∧ M 179 q.toNat = Y.2 (if x ≤ q ∧ q < i then q + 1 else q) 1 ∧ M 180 q.toNat = Y.2 (if x ≤ q ∧ q < i then q + 1 else q) 2 ∧ M 181 q.toNat = Y.2 (if x ≤ q ∧ q < i then q + 1 else q) 3)) → wp L 2 zm_M_unsee 33 [rV 174, iV x, iV i] [] M (fun r M' => r = some (iV (Y.1 - 1)) ∧ (mF (fun a k => 178 ≤ a ∧ a < 182) M0 M' ∧ (∀ q : Int, 0 ≤ q → q < Y.1 → M' 178 q.toNat = Y.2 (if x ≤ q ∧ q < (Y.1 - 1) then q + 1 else q) 0 ∧ M' 179 q.toNat = Y.2 (if x ≤ q ∧ q < (Y.1 - 1) then q + 1 else q) 1 ∧ M' 180 q.toNat = Y.2 (if x ≤ q ∧ q < (Y.1 - 1) then q + 1 else q) 2 ∧ M' 181 q.toNat = Y.2 (if x ≤ q ∧ q < (Y.1 - 1) then q + 1 else q) 3))) := by
  intro n9
  induction n9 with
  | zero =>
    intro i  M  h9 g1 g2 g3 g4
    exact absurd h9 (by omega)
  | succ n9 ih =>
    intro i  M  h9 g1 g2 g3 g4
    have m7 : M 174 7 = Y.1 - 1 := (g3 174 7 (by omega)).trans e7
    refine wp_iload_n (pc := 33) d_M_unsee_33 rfl ?_
    refine wp_aload_n (pc := 34) d_M_unsee_34 rfl ?_
    refine wp_getI (pc := 35) d_M_unsee_35 rfl (by decide) (zk_174 L) ?_
    rw [m7]
    refine wp_icmp_ge (tgt := 103) (pc := 38) d_M_unsee_38 rfl (fun c38 => ?_) (fun c38 => ?_)
    · refine wp_aload_n (pc := 103) d_M_unsee_103 rfl ?_
      refine wp_getI (pc := 104) d_M_unsee_104 rfl (by decide) (zk_174 L) ?_
      rw [m7]
      refine wp_ireturn (pc := 107) d_M_unsee_107 rfl ?_
      rw [show i = Y.1 - 1 by omega] at g4
      exact ⟨rfl, g3, g4⟩
    · refine wp_aload_n (pc := 41) d_M_unsee_41 rfl ?_
      refine wp_getR (pc := 42) d_M_unsee_42 rfl (zk_174 L) zx_174_8 ?_
      refine wp_iload_n (pc := 45) d_M_unsee_45 rfl ?_
      refine wp_aload_n (pc := 46) d_M_unsee_46 rfl ?_
      refine wp_getR (pc := 47) d_M_unsee_47 rfl (zk_174 L) zx_174_8 ?_
      refine wp_iload_n (pc := 50) d_M_unsee_50 rfl ?_
      refine wp_iconst (pc := 51) d_M_unsee_51 rfl ?_
      refine wp_iadd (pc := 52) d_M_unsee_52 (by omega) (by omega) ?_
      refine wp_iald (pc := 53) d_M_unsee_53 (zk_178 L) (by omega) (by omega) ?_
      refine wp_iast (pc := 54) d_M_unsee_54 (zk_178 L) (by decide) (by omega) (by omega) ?_
      refine wp_aload_n (pc := 55) d_M_unsee_55 rfl ?_
      refine wp_getR (pc := 56) d_M_unsee_56 rfl (zk_174 L) zx_174_9 ?_
      refine wp_iload_n (pc := 59) d_M_unsee_59 rfl ?_
      refine wp_aload_n (pc := 60) d_M_unsee_60 rfl ?_
      refine wp_getR (pc := 61) d_M_unsee_61 rfl (zk_174 L) zx_174_9 ?_
      refine wp_iload_n (pc := 64) d_M_unsee_64 rfl ?_
      refine wp_iconst (pc := 65) d_M_unsee_65 rfl ?_
      refine wp_iadd (pc := 66) d_M_unsee_66 (by omega) (by omega) ?_
      refine wp_iald (pc := 67) d_M_unsee_67 (zk_179 L) (by omega) (by omega) ?_
      rw [zU_na (by decide)]
      refine wp_iast (pc := 68) d_M_unsee_68 (zk_179 L) (by decide) (by omega) (by omega) ?_
      refine wp_aload_n (pc := 69) d_M_unsee_69 rfl ?_
      refine wp_getR (pc := 70) d_M_unsee_70 rfl (zk_174 L) zx_174_10 ?_
      refine wp_iload_n (pc := 73) d_M_unsee_73 rfl ?_
      refine wp_aload_n (pc := 74) d_M_unsee_74 rfl ?_
      refine wp_getR (pc := 75) d_M_unsee_75 rfl (zk_174 L) zx_174_10 ?_
      refine wp_iload_n (pc := 78) d_M_unsee_78 rfl ?_
      refine wp_iconst (pc := 79) d_M_unsee_79 rfl ?_
      refine wp_iadd (pc := 80) d_M_unsee_80 (by omega) (by omega) ?_
      refine wp_iald (pc := 81) d_M_unsee_81 (zk_180 L) (by omega) (by omega) ?_
      rw [zU_na (by decide), zU_na (by decide)]
      refine wp_iast (pc := 82) d_M_unsee_82 (zk_180 L) (by decide) (by omega) (by omega) ?_
      refine wp_aload_n (pc := 83) d_M_unsee_83 rfl ?_
      refine wp_getR (pc := 84) d_M_unsee_84 rfl (zk_174 L) zx_174_11 ?_
      refine wp_iload_n (pc := 87) d_M_unsee_87 rfl ?_
      refine wp_aload_n (pc := 88) d_M_unsee_88 rfl ?_
      refine wp_getR (pc := 89) d_M_unsee_89 rfl (zk_174 L) zx_174_11 ?_
      refine wp_iload_n (pc := 92) d_M_unsee_92 rfl ?_
      refine wp_iconst (pc := 93) d_M_unsee_93 rfl ?_
      refine wp_iadd (pc := 94) d_M_unsee_94 (by omega) (by omega) ?_
      refine wp_iald (pc := 95) d_M_unsee_95 (zk_181 L) (by omega) (by omega) ?_
      rw [zU_na (by decide), zU_na (by decide), zU_na (by decide)]
      refine wp_iast (pc := 96) d_M_unsee_96 (zk_181 L) (by decide) (by omega) (by omega) ?_
      refine wp_iinc2 (pc := 97) d_M_unsee_97 rfl (by omega) (by omega) ?_
      refine wp_goto (tgt := 33) (pc := 100) d_M_unsee_100 rfl ?_
      refine ih (i + 1) _ (by omega) (by omega) (by omega) ((((g3.u (by omega)).u (by omega)).u (by omega)).u (by omega)) (fun q q0 q1 => ?_)
      by_cases e : q = i
      · obtain ⟨r1, r2, r3, r4⟩ := g4 (i + 1) (by omega) (by omega)
        rw [if_neg (by omega)] at r1 r2 r3 r4
        rw [if_pos (by omega), e]
        refine ⟨?_, ?_, ?_, ?_⟩
        · rw [zU_na (by decide), zU_na (by decide), zU_na (by decide), zU_eq]; exact r1
        · rw [zU_na (by decide), zU_na (by decide), zU_eq]; exact r2
        · rw [zU_na (by decide), zU_eq]; exact r3
        · rw [zU_eq]; exact r4
      · obtain ⟨r1, r2, r3, r4⟩ := g4 q q0 q1
        have ei : (if x ≤ q ∧ q < i + 1 then q + 1 else q) = if x ≤ q ∧ q < i then q + 1 else q := by
          by_cases z : x ≤ q ∧ q < i
          · rw [if_pos z, if_pos (by omega)]
          · rw [if_neg z, if_neg (by omega)]
        rw [ei]
        refine ⟨?_, ?_, ?_, ?_⟩
        · rw [zU_na (by decide), zU_na (by decide), zU_na (by decide), zU_nk (by omega)]; exact r1
        · rw [zU_na (by decide), zU_na (by decide), zU_nk (by omega), zU_na (by decide)]; exact r2
        · rw [zU_na (by decide), zU_nk (by omega), zU_na (by decide), zU_na (by decide)]; exact r3
        · rw [zU_nk (by omega), zU_na (by decide), zU_na (by decide), zU_na (by decide)]; exact r4
theorem c_M_unsee (hy : mY M Y) (hi : qYi Y) (h8 : 0 ≤ M 174 12 ∧ M 174 12 ≤ 100000) : Ci L 2 zm_M_unsee [rV 174, iV x] M (fun v M' => (M' = M ∧ ¬ (0 ≤ x ∧ x < Y.1) ∧ v = -101) ∨ (mF (fun a k => (178 ≤ a ∧ a < 182) ∨ a = 174 ∧ (k = 7 ∨ k = 12)) M M' ∧ M' 174 12 = M 174 12 + 1 ∧ (0 ≤ x ∧ x < Y.1) ∧ v = Y.1 - 1 ∧ mY M' (uRm Y x))) := by
  show wp L _ zm_M_unsee 0 [rV 174, iV x, uV] [] M _
  have e7 := hy.1
  have h12 := hi.1
  refine wp_aload_n (pc := 0) d_M_unsee_0 rfl ?_
  refine wp_iload_n (pc := 1) d_M_unsee_1 rfl ?_
  refine wp_callV1f (pc := 2) d_M_unsee_2 rfl rfl (zk_174 L) rfl rfl (c_M_isSighting hy hi) ?_
  refine wp_if_ne (tgt := 11) (pc := 5) d_M_unsee_5 rfl (fun c5 => ?_) (fun c5 => ?_)
  · have c5 := zb_ne0 c5
    refine wp_aload_n (pc := 11) d_M_unsee_11 rfl ?_
    refine wp_dup (pc := 12) d_M_unsee_12 rfl ?_
    refine wp_getI (pc := 13) d_M_unsee_13 rfl (by decide) (zk_174 L) ?_
    rw [e7]
    refine wp_iconst (pc := 16) d_M_unsee_16 rfl ?_
    refine wp_isub (pc := 17) d_M_unsee_17 (by omega) (by omega) ?_
    refine wp_putI (pc := 18) d_M_unsee_18 rfl (zk_174 L) (by decide) ?_
    refine wp_aload_n (pc := 21) d_M_unsee_21 rfl ?_
    refine wp_dup (pc := 22) d_M_unsee_22 rfl ?_
    refine wp_getI (pc := 23) d_M_unsee_23 rfl (by decide) (zk_174 L) ?_
    rw [zU_nk (by decide)]
    refine wp_iconst (pc := 26) d_M_unsee_26 rfl ?_
    refine wp_iadd (pc := 27) d_M_unsee_27 (by omega) (by omega) ?_
    refine wp_putI (pc := 28) d_M_unsee_28 rfl (zk_174 L) (by decide) ?_
    refine wp_iload_n (pc := 31) d_M_unsee_31 rfl ?_
    refine wp_ist2 (pc := 32) d_M_unsee_32 rfl ?_
    have k1 : mF (fun a k => (178 ≤ a ∧ a < 182) ∨ a = 174 ∧ (k = 7 ∨ k = 12)) M (zU (zU M 174 7 (Y.1 - 1)) 174 12 (M 174 12 + 1)) := (mF.rf.u (by omega)).u (by omega)
    refine wp_mono (lp_M_unsee (M0 := zU (zU M 174 7 (Y.1 - 1)) 174 12 (M 174 12 + 1)) (Y := Y) h12 (by rw [zU_nk (by decide), zU_eq]) c5.1 c5.2 100 x _ (by omega) (Int.le_refl _) c5.2 mF.rf (fun q q0 q1 => ?_)) (fun r M' hr => ?_)
    · rw [if_neg (by omega), zU_na (by decide), zU_na (by decide), zU_na (by decide), zU_na (by decide), zU_na (by decide), zU_na (by decide), zU_na (by decide), zU_na (by decide)]
      exact hy.2 q q0 q1
    · obtain ⟨h1, h2, h3⟩ := hr
      refine ⟨_, h1, Or.inr ⟨k1.tr (h2.up (fun a k z => Or.inl z)), ?_, c5, rfl, ?_, fun i i0 i1 => ?_⟩⟩
      · rw [h2 174 12 (by omega), zU_eq]
      · rw [h2 174 7 (by omega), zU_nk (by decide), zU_eq]; rfl
      · have i1 : i < Y.1 - 1 := i1
        have eu : ∀ k, (uRm Y x).2 i k = if i < x then Y.2 i k else Y.2 (i + 1) k := fun k => if_pos ⟨i0, i1⟩
        rw [eu, eu, eu, eu]
        have hq := h3 i i0 (by omega)
        by_cases e : i < x
        · rw [if_neg (by omega)] at hq
          rw [if_pos e, if_pos e, if_pos e, if_pos e]; exact hq
        · rw [if_pos (by omega)] at hq
          rw [if_neg e, if_neg e, if_neg e, if_neg e]; exact hq
  · have c5 := zb_eq0 (Decidable.of_not_not c5)
    refine wp_bipush (pc := 8) d_M_unsee_8 rfl ?_
    refine wp_ireturn (pc := 10) d_M_unsee_10 rfl ?_
    exact ⟨_, rfl, Or.inl ⟨rfl, c5, rfl⟩⟩
theorem c_M_sightingNow (hy : mY M Y) (hi : qYi Y) (x0 : 0 ≤ x) (x1 : x < Y.1) (w0 : 0 ≤ w) (w3 : w ≤ 3) : Cf L 0 zm_M_sightingNow [rV 174, iV x, iV w] M (iV (Y.2 x w)) M := by
  show wp L _ zm_M_sightingNow 0 [rV 174, iV x, iV w] [] M _
  have e7 := hy.1
  have h12 := hi.1
  obtain ⟨r1, r2, r3, r4⟩ := hy.2 x x0 x1
  refine wp_iload_n (pc := 0) d_M_sightingNow_0 rfl ?_
  refine wp_if_ne (tgt := 13) (pc := 1) d_M_sightingNow_1 rfl (fun c1 => ?_) (fun c1 => ?_)
  · refine wp_iload_n (pc := 13) d_M_sightingNow_13 rfl ?_
    refine wp_iconst (pc := 14) d_M_sightingNow_14 rfl ?_
    refine wp_icmp_ne (tgt := 27) (pc := 15) d_M_sightingNow_15 rfl (fun c15 => ?_) (fun c15 => ?_)
    · refine wp_iload_n (pc := 27) d_M_sightingNow_27 rfl ?_
      refine wp_iconst (pc := 28) d_M_sightingNow_28 rfl ?_
      refine wp_icmp_ne (tgt := 41) (pc := 29) d_M_sightingNow_29 rfl (fun c29 => ?_) (fun c29 => ?_)
      · refine wp_aload_n (pc := 41) d_M_sightingNow_41 rfl ?_
        refine wp_getR (pc := 42) d_M_sightingNow_42 rfl (zk_174 L) zx_174_11 ?_
        refine wp_iload_n (pc := 45) d_M_sightingNow_45 rfl ?_
        refine wp_iald (pc := 46) d_M_sightingNow_46 (zk_181 L) (by omega) (by omega) ?_
        rw [r4]
        refine wp_ireturn (pc := 47) d_M_sightingNow_47 rfl ?_
        first
        | exact ⟨by rw [show w = 0 by omega], rfl⟩
        | exact ⟨by rw [show w = 1 by omega], rfl⟩
        | exact ⟨by rw [show w = 2 by omega], rfl⟩
        | exact ⟨by rw [show w = 3 by omega], rfl⟩
      · refine wp_aload_n (pc := 32) d_M_sightingNow_32 rfl ?_
        refine wp_getR (pc := 33) d_M_sightingNow_33 rfl (zk_174 L) zx_174_10 ?_
        refine wp_iload_n (pc := 36) d_M_sightingNow_36 rfl ?_
        refine wp_iald (pc := 37) d_M_sightingNow_37 (zk_180 L) (by omega) (by omega) ?_
        rw [r3]
        refine wp_goto (tgt := 47) (pc := 38) d_M_sightingNow_38 rfl ?_
        refine wp_ireturn (pc := 47) d_M_sightingNow_47 rfl ?_
        first
        | exact ⟨by rw [show w = 0 by omega], rfl⟩
        | exact ⟨by rw [show w = 1 by omega], rfl⟩
        | exact ⟨by rw [show w = 2 by omega], rfl⟩
        | exact ⟨by rw [show w = 3 by omega], rfl⟩
    · refine wp_aload_n (pc := 18) d_M_sightingNow_18 rfl ?_
      refine wp_getR (pc := 19) d_M_sightingNow_19 rfl (zk_174 L) zx_174_9 ?_
      refine wp_iload_n (pc := 22) d_M_sightingNow_22 rfl ?_
      refine wp_iald (pc := 23) d_M_sightingNow_23 (zk_179 L) (by omega) (by omega) ?_
      rw [r2]
      refine wp_goto (tgt := 47) (pc := 24) d_M_sightingNow_24 rfl ?_
      refine wp_ireturn (pc := 47) d_M_sightingNow_47 rfl ?_
      first
      | exact ⟨by rw [show w = 0 by omega], rfl⟩
      | exact ⟨by rw [show w = 1 by omega], rfl⟩
      | exact ⟨by rw [show w = 2 by omega], rfl⟩
      | exact ⟨by rw [show w = 3 by omega], rfl⟩
  · refine wp_aload_n (pc := 4) d_M_sightingNow_4 rfl ?_
    refine wp_getR (pc := 5) d_M_sightingNow_5 rfl (zk_174 L) zx_174_8 ?_
    refine wp_iload_n (pc := 8) d_M_sightingNow_8 rfl ?_
    refine wp_iald (pc := 9) d_M_sightingNow_9 (zk_178 L) (by omega) (by omega) ?_
    rw [r1]
    refine wp_goto (tgt := 47) (pc := 10) d_M_sightingNow_10 rfl ?_
    refine wp_ireturn (pc := 47) d_M_sightingNow_47 rfl ?_
    first
    | exact ⟨by rw [show w = 0 by omega], rfl⟩
    | exact ⟨by rw [show w = 1 by omega], rfl⟩
    | exact ⟨by rw [show w = 2 by omega], rfl⟩
    | exact ⟨by rw [show w = 3 by omega], rfl⟩
theorem c_M_seen (hy : mY M Y) (hi : qYi Y) : Cf L 2 zm_M_seen [rV 174, iV x, iV w] M (iV (xSn Y x w)) M := by
  show wp L _ zm_M_seen 0 [rV 174, iV x, iV w] [] M _
  refine wp_aload_n (pc := 0) d_M_seen_0 rfl ?_
  refine wp_iload_n (pc := 1) d_M_seen_1 rfl ?_
  refine wp_callV1f (pc := 2) d_M_seen_2 rfl rfl (zk_174 L) rfl rfl (c_M_isSighting hy hi) ?_
  refine wp_if_ne (tgt := 11) (pc := 5) d_M_seen_5 rfl (fun c5 => ?_) (fun c5 => ?_)
  · have c5 := zb_ne0 c5
    refine wp_iload_n (pc := 11) d_M_seen_11 rfl ?_
    refine wp_iconst (pc := 12) d_M_seen_12 rfl ?_
    refine wp_iconst (pc := 13) d_M_seen_13 rfl ?_
    refine wp_callS3f (pc := 14) d_M_seen_14 rfl rfl rfl rfl rfl c_M_within ?_
    refine wp_if_eq (tgt := 29) (pc := 17) d_M_seen_17 rfl (fun c17 => ?_) (fun c17 => ?_)
    · have c17 := zb_eq0 c17
      refine wp_bipush (pc := 29) d_M_seen_29 rfl ?_
      refine wp_ireturn (pc := 31) d_M_seen_31 rfl ?_
      first
      | exact ⟨by unfold xSn; rw [if_pos (by omega), if_pos (by omega)], rfl⟩
      | exact ⟨by unfold xSn; rw [if_pos (by omega), if_neg (by omega)], rfl⟩
    · have c17 := zb_ne0 c17
      refine wp_aload_n (pc := 20) d_M_seen_20 rfl ?_
      refine wp_iload_n (pc := 21) d_M_seen_21 rfl ?_
      refine wp_iload_n (pc := 22) d_M_seen_22 rfl ?_
      refine wp_callV2f (pc := 23) d_M_seen_23 rfl rfl (zk_174 L) rfl rfl (c_M_sightingNow hy hi c5.1 c5.2 c17.1 c17.2) ?_
      refine wp_goto (tgt := 31) (pc := 26) d_M_seen_26 rfl ?_
      refine wp_ireturn (pc := 31) d_M_seen_31 rfl ?_
      first
      | exact ⟨by unfold xSn; rw [if_pos (by omega), if_pos (by omega)], rfl⟩
      | exact ⟨by unfold xSn; rw [if_pos (by omega), if_neg (by omega)], rfl⟩
  · have c5 := zb_eq0 (Decidable.of_not_not c5)
    refine wp_bipush (pc := 8) d_M_seen_8 rfl ?_
    refine wp_ireturn (pc := 10) d_M_seen_10 rfl ?_
    exact ⟨by unfold xSn; rw [if_neg c5], rfl⟩
end ZM10
