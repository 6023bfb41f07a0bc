/-! Sightings: cell 147; its rows are the cells 149 to 160 -/
theorem zk_sg (L : Nat) {j : Nat} (h : j < 12) : zkd L (149 + j) = some (20, 4) := by
  have h1 : ∀ j, j < 12 → (zsh (20, 0))[149 + j]? = some (20, 4) := by decide +kernel
  rw [← h1 j h]; exact (zsh_ne (by omega)).trans (zsh_ne (c := (20, 0)) (by omega)).symm
theorem zx_sg {j : Nat} (h : j < 12) : zK0 148 j = ((149 + j : Nat) : Int) := by
  have h1 : ∀ j, j < 12 → zK0 148 j = ((149 + j : Nat) : Int) := by decide +kernel
  exact h1 j h
section ZSg
variable {L : Nat} {M : zM} {i j x y z w : Int}
theorem c_Sg_size  : Cf L 0 zm_Sight_size [rV 147] M (iV (M 147 1)) M := by
  show wp L _ zm_Sight_size 0 [rV 147] [] M _
  refine wp_aload_n (pc := 0) d_Sight_size_0 rfl ?_
  refine wp_getI (pc := 1) d_Sight_size_1 rfl (by decide) (zk_147 L) ?_
  refine wp_ireturn (pc := 4) d_Sight_size_4 rfl ?_
  exact ⟨rfl, rfl⟩
theorem c_Sg_changes  : Cf L 0 zm_Sight_changes [rV 147] M (iV (M 147 2)) M := by
  show wp L _ zm_Sight_changes 0 [rV 147] [] M _
  refine wp_aload_n (pc := 0) d_Sight_changes_0 rfl ?_
  refine wp_getI (pc := 1) d_Sight_changes_1 rfl (by decide) (zk_147 L) ?_
  refine wp_ireturn (pc := 4) d_Sight_changes_4 rfl ?_
  exact ⟨rfl, rfl⟩
theorem c_Sg_has  : Cf L 0 zm_Sight_has [rV 147, iV i] M (iV (if 0 ≤ i ∧ i < M 147 1 then 1 else 0)) M := by
  show wp L _ zm_Sight_has 0 [rV 147, iV i] [] M _
  refine wp_iload_n (pc := 0) d_Sight_has_0 rfl ?_
  refine wp_if_lt (tgt := 16) (pc := 1) d_Sight_has_1 rfl (fun c1 => ?_) (fun c1 => ?_)
  · refine wp_iconst (pc := 16) d_Sight_has_16 rfl ?_
    refine wp_zreturn (pc := 17) d_Sight_has_17 rfl (by omega) ?_
    first | exact ⟨by rw [if_pos (by omega)], rfl⟩ | exact ⟨by rw [if_neg (by omega)], rfl⟩
  · refine wp_iload_n (pc := 4) d_Sight_has_4 rfl ?_
    refine wp_aload_n (pc := 5) d_Sight_has_5 rfl ?_
    refine wp_getI (pc := 6) d_Sight_has_6 rfl (by decide) (zk_147 L) ?_
    refine wp_icmp_ge (tgt := 16) (pc := 9) d_Sight_has_9 rfl (fun c9 => ?_) (fun c9 => ?_)
    · refine wp_iconst (pc := 16) d_Sight_has_16 rfl ?_
      refine wp_zreturn (pc := 17) d_Sight_has_17 rfl (by omega) ?_
      first | exact ⟨by rw [if_pos (by omega)], rfl⟩ | exact ⟨by rw [if_neg (by omega)], rfl⟩
    · refine wp_iconst (pc := 12) d_Sight_has_12 rfl ?_
      refine wp_goto (tgt := 17) (pc := 13) d_Sight_has_13 rfl ?_
      refine wp_zreturn (pc := 17) d_Sight_has_17 rfl (by omega) ?_
      first | exact ⟨by rw [if_pos (by omega)], rfl⟩ | exact ⟨by rw [if_neg (by omega)], rfl⟩
theorem c_Sg_get (hl : M 147 1 ≤ 12) : Cf L 1 zm_Sight_get [rV 147, iV i, iV j] M (iV (if (0 ≤ i ∧ i < M 147 1) ∧ 0 ≤ j ∧ j < 4 then M (149 + i.toNat) j.toNat else -1)) M := by
  show wp L _ zm_Sight_get 0 [rV 147, iV i, iV j] [] M _
  refine wp_aload_n (pc := 0) d_Sight_get_0 rfl ?_
  refine wp_iload_n (pc := 1) d_Sight_get_1 rfl ?_
  refine wp_callV1f (pc := 2) d_Sight_get_2 rfl rfl (zk_147 L) rfl rfl c_Sg_has ?_
  refine wp_if_eq (tgt := 28) (pc := 5) d_Sight_get_5 rfl (fun c5 => ?_) (fun c5 => ?_)
  · have c5 := zb_eq0 c5
    refine wp_iconst (pc := 28) d_Sight_get_28 rfl ?_
    refine wp_ireturn (pc := 29) d_Sight_get_29 rfl ?_
    first | exact ⟨by rw [if_pos (by omega)], rfl⟩ | exact ⟨by rw [if_neg (by omega)], rfl⟩
  · have c5 := zb_ne0 c5
    refine wp_iload_n (pc := 8) d_Sight_get_8 rfl ?_
    refine wp_if_lt (tgt := 28) (pc := 9) d_Sight_get_9 rfl (fun c9 => ?_) (fun c9 => ?_)
    · refine wp_iconst (pc := 28) d_Sight_get_28 rfl ?_
      refine wp_ireturn (pc := 29) d_Sight_get_29 rfl ?_
      first | exact ⟨by rw [if_pos (by omega)], rfl⟩ | exact ⟨by rw [if_neg (by omega)], rfl⟩
    · refine wp_iload_n (pc := 12) d_Sight_get_12 rfl ?_
      refine wp_iconst (pc := 13) d_Sight_get_13 rfl ?_
      refine wp_icmp_ge (tgt := 28) (pc := 14) d_Sight_get_14 rfl (fun c14 => ?_) (fun c14 => ?_)
      · refine wp_iconst (pc := 28) d_Sight_get_28 rfl ?_
        refine wp_ireturn (pc := 29) d_Sight_get_29 rfl ?_
        first | exact ⟨by rw [if_pos (by omega)], rfl⟩ | exact ⟨by rw [if_neg (by omega)], rfl⟩
      · refine wp_aload_n (pc := 17) d_Sight_get_17 rfl ?_
        refine wp_getR (pc := 18) d_Sight_get_18 rfl (zk_147 L) zx_147_0 ?_
        refine wp_iload_n (pc := 21) d_Sight_get_21 rfl ?_
        refine wp_aald (b := 149 + i.toNat) (pc := 22) d_Sight_get_22 (zk_148 L) (by decide) (by omega) (by omega) (zx_sg (show i.toNat < 12 by omega)) ?_
        refine wp_iload_n (pc := 23) d_Sight_get_23 rfl ?_
        refine wp_iald (pc := 24) d_Sight_get_24 (zk_sg L (show i.toNat < 12 by omega)) (by omega) (by omega) ?_
        refine wp_goto (tgt := 29) (pc := 25) d_Sight_get_25 rfl ?_
        refine wp_ireturn (pc := 29) d_Sight_get_29 rfl ?_
        first | exact ⟨by rw [if_pos (by omega)], rfl⟩ | exact ⟨by rw [if_neg (by omega)], rfl⟩
theorem lp_Sg_clash (h0 : 0 ≤ M 147 1) (hl : M 147 1 ≤ 12) : ∀ (n9 : Nat) (i : Int), M 147 1 - i < n9 → 0 ≤ i → i ≤ M 147 1 → (∀ k : Int, 0 ≤ k → k < i → ¬ (M (149 + k.toNat) 1 = y ∧ (M (149 + k.toNat) 0 = x ∨ M (149 + k.toNat) 2 = z))) → wp L 0 zm_Sight_clash 3 [rV 147, iV x, iV y, iV z, iV i] [] M (fun r M' => ∃ v, r = some (iV v) ∧ (M' = M ∧ (v = 0 ∨ v = 1) ∧ (v = 1 ↔ ∃ k : Int, 0 ≤ k ∧ k < M 147 1 ∧ M (149 + k.toNat) 1 = y ∧ (M (149 + k.toNat) 0 = x ∨ M (149 + k.toNat) 2 = z)))) := by
  intro n9
  induction n9 with
  | zero =>
    intro i  h9 h1 h2 h3
    exact absurd h9 (by omega)
  | succ n9 ih =>
    intro i  h9 h1 h2 h3
    refine wp_iload (pc := 3) d_Sight_clash_3 rfl ?_
    refine wp_aload_n (pc := 5) d_Sight_clash_5 rfl ?_
    refine wp_getI (pc := 6) d_Sight_clash_6 rfl (by decide) (zk_147 L) ?_
    refine wp_icmp_ge (tgt := 59) (pc := 9) d_Sight_clash_9 rfl (fun c9 => ?_) (fun c9 => ?_)
    · refine wp_iconst (pc := 59) d_Sight_clash_59 rfl ?_
      refine wp_zreturn (pc := 60) d_Sight_clash_60 rfl (by omega) ?_
      exact ⟨_, rfl, rfl, Or.inl rfl, fun e => absurd e (by decide), fun ⟨k, k0, k1, k2⟩ => absurd k2 (h3 k k0 (by omega))⟩
    · refine wp_aload_n (pc := 12) d_Sight_clash_12 rfl ?_
      refine wp_getR (pc := 13) d_Sight_clash_13 rfl (zk_147 L) zx_147_0 ?_
      refine wp_iload (pc := 16) d_Sight_clash_16 rfl ?_
      refine wp_aald (b := 149 + i.toNat) (pc := 18) d_Sight_clash_18 (zk_148 L) (by decide) (by omega) (by omega) (zx_sg (show i.toNat < 12 by omega)) ?_
      refine wp_iconst (pc := 19) d_Sight_clash_19 rfl ?_
      refine wp_ialdc 1 (pc := 20) d_Sight_clash_20 (zk_sg L (show i.toNat < 12 by omega)) rfl rfl ?_
      refine wp_iload_n (pc := 21) d_Sight_clash_21 rfl ?_
      refine wp_icmp_ne (tgt := 53) (pc := 22) d_Sight_clash_22 rfl (fun c22 => ?_) (fun c22 => ?_)
      · refine wp_iinc4 (pc := 53) d_Sight_clash_53 rfl (by omega) (by omega) ?_
        refine wp_goto (tgt := 3) (pc := 56) d_Sight_clash_56 rfl ?_
        exact ih (i + 1) (by omega) (by omega) (by omega) (fun k k0 k1 => by by_cases e : k = i; (rw [e]; omega); exact h3 k k0 (by omega))
      · refine wp_aload_n (pc := 25) d_Sight_clash_25 rfl ?_
        refine wp_getR (pc := 26) d_Sight_clash_26 rfl (zk_147 L) zx_147_0 ?_
        refine wp_iload (pc := 29) d_Sight_clash_29 rfl ?_
        refine wp_aald (b := 149 + i.toNat) (pc := 31) d_Sight_clash_31 (zk_148 L) (by decide) (by omega) (by omega) (zx_sg (show i.toNat < 12 by omega)) ?_
        refine wp_iconst (pc := 32) d_Sight_clash_32 rfl ?_
        refine wp_ialdc 0 (pc := 33) d_Sight_clash_33 (zk_sg L (show i.toNat < 12 by omega)) rfl rfl ?_
        refine wp_iload_n (pc := 34) d_Sight_clash_34 rfl ?_
        refine wp_icmp_eq (tgt := 51) (pc := 35) d_Sight_clash_35 rfl (fun c35 => ?_) (fun c35 => ?_)
        · refine wp_iconst (pc := 51) d_Sight_clash_51 rfl ?_
          refine wp_zreturn (pc := 52) d_Sight_clash_52 rfl (by omega) ?_
          exact ⟨_, rfl, rfl, Or.inr rfl, fun _ => ⟨i, h1, by omega, by omega, by omega⟩, fun _ => rfl⟩
        · refine wp_aload_n (pc := 38) d_Sight_clash_38 rfl ?_
          refine wp_getR (pc := 39) d_Sight_clash_39 rfl (zk_147 L) zx_147_0 ?_
          refine wp_iload (pc := 42) d_Sight_clash_42 rfl ?_
          refine wp_aald (b := 149 + i.toNat) (pc := 44) d_Sight_clash_44 (zk_148 L) (by decide) (by omega) (by omega) (zx_sg (show i.toNat < 12 by omega)) ?_
          refine wp_iconst (pc := 45) d_Sight_clash_45 rfl ?_
          refine wp_ialdc 2 (pc := 46) d_Sight_clash_46 (zk_sg L (show i.toNat < 12 by omega)) rfl rfl ?_
          refine wp_iload_n (pc := 47) d_Sight_clash_47 rfl ?_
          refine wp_icmp_ne (tgt := 53) (pc := 48) d_Sight_clash_48 rfl (fun c48 => ?_) (fun c48 => ?_)
          · refine wp_iinc4 (pc := 53) d_Sight_clash_53 rfl (by omega) (by omega) ?_
            refine wp_goto (tgt := 3) (pc := 56) d_Sight_clash_56 rfl ?_
            exact ih (i + 1) (by omega) (by omega) (by omega) (fun k k0 k1 => by by_cases e : k = i; (rw [e]; omega); exact h3 k k0 (by omega))
          · refine wp_iconst (pc := 51) d_Sight_clash_51 rfl ?_
            refine wp_zreturn (pc := 52) d_Sight_clash_52 rfl (by omega) ?_
            exact ⟨_, rfl, rfl, Or.inr rfl, fun _ => ⟨i, h1, by omega, by omega, by omega⟩, fun _ => rfl⟩
theorem c_Sg_clash (h0 : 0 ≤ M 147 1) (hl : M 147 1 ≤ 12) : Ci L 0 zm_Sight_clash [rV 147, iV x, iV y, iV z] M (fun v M' => M' = M ∧ (v = 0 ∨ v = 1) ∧ (v = 1 ↔ ∃ k : Int, 0 ≤ k ∧ k < M 147 1 ∧ M (149 + k.toNat) 1 = y ∧ (M (149 + k.toNat) 0 = x ∨ M (149 + k.toNat) 2 = z))) := by
  show wp L _ zm_Sight_clash 0 [rV 147, iV x, iV y, iV z, uV] [] M _
  refine wp_iconst (pc := 0) d_Sight_clash_0 rfl ?_
  refine wp_ist4 (pc := 1) d_Sight_clash_1 rfl ?_
  exact lp_Sg_clash h0 hl 100 0 (by omega) (by omega) (by omega) (fun k k0 k1 => absurd k1 (by omega))
theorem c_Sg_add (h0 : 0 ≤ M 147 1) (hl : M 147 1 < 12) (hc : 0 ≤ M 147 2 ∧ M 147 2 ≤ 100000) : Cv L 0 zm_Sight_add [rV 147, iV x, iV y, iV z, iV w] M (fun M' => zSm (fun a => a = 147 ∨ a = 149 + (M 147 1).toNat) M M' ∧ M' 147 0 = M 147 0 ∧ M' 147 1 = M 147 1 + 1 ∧ M' 147 2 = M 147 2 + 1 ∧ M' (149 + (M 147 1).toNat) 0 = x ∧ M' (149 + (M 147 1).toNat) 1 = y ∧ M' (149 + (M 147 1).toNat) 2 = z ∧ M' (149 + (M 147 1).toNat) 3 = w) := by
  show wp L _ zm_Sight_add 0 [rV 147, iV x, iV y, iV z, iV w] [] M _
  refine wp_aload_n (pc := 0) d_Sight_add_0 rfl ?_
  refine wp_getI (pc := 1) d_Sight_add_1 rfl (by decide) (zk_147 L) ?_
  refine wp_bipush (pc := 4) d_Sight_add_4 rfl ?_
  refine wp_icmp_lt (tgt := 10) (pc := 6) d_Sight_add_6 rfl (fun c6 => ?_) (fun c6 => ?_)
  · refine wp_aload_n (pc := 10) d_Sight_add_10 rfl ?_
    refine wp_getR (pc := 11) d_Sight_add_11 rfl (zk_147 L) zx_147_0 ?_
    refine wp_aload_n (pc := 14) d_Sight_add_14 rfl ?_
    refine wp_getI (pc := 15) d_Sight_add_15 rfl (by decide) (zk_147 L) ?_
    refine wp_aald (b := 149 + (M 147 1).toNat) (pc := 18) d_Sight_add_18 (zk_148 L) (by decide) (by omega) (by omega) (zx_sg (show (M 147 1).toNat < 12 by omega)) ?_
    refine wp_iconst (pc := 19) d_Sight_add_19 rfl ?_
    refine wp_iload_n (pc := 20) d_Sight_add_20 rfl ?_
    refine wp_iastc 0 (pc := 21) d_Sight_add_21 (zk_sg L (show (M 147 1).toNat < 12 by omega)) (by omega) rfl rfl ?_
    refine wp_aload_n (pc := 22) d_Sight_add_22 rfl ?_
    refine wp_getR (pc := 23) d_Sight_add_23 rfl (zk_147 L) zx_147_0 ?_
    refine wp_aload_n (pc := 26) d_Sight_add_26 rfl ?_
    refine wp_getI (pc := 27) d_Sight_add_27 rfl (by decide) (zk_147 L) ?_
    repeat rw [zU_na (by omega)]
    refine wp_aald (b := 149 + (M 147 1).toNat) (pc := 30) d_Sight_add_30 (zk_148 L) (by decide) (by omega) (by omega) (zx_sg (show (M 147 1).toNat < 12 by omega)) ?_
    refine wp_iconst (pc := 31) d_Sight_add_31 rfl ?_
    refine wp_iload_n (pc := 32) d_Sight_add_32 rfl ?_
    refine wp_iastc 1 (pc := 33) d_Sight_add_33 (zk_sg L (show (M 147 1).toNat < 12 by omega)) (by omega) rfl rfl ?_
    refine wp_aload_n (pc := 34) d_Sight_add_34 rfl ?_
    refine wp_getR (pc := 35) d_Sight_add_35 rfl (zk_147 L) zx_147_0 ?_
    refine wp_aload_n (pc := 38) d_Sight_add_38 rfl ?_
    refine wp_getI (pc := 39) d_Sight_add_39 rfl (by decide) (zk_147 L) ?_
    repeat rw [zU_na (by omega)]
    refine wp_aald (b := 149 + (M 147 1).toNat) (pc := 42) d_Sight_add_42 (zk_148 L) (by decide) (by omega) (by omega) (zx_sg (show (M 147 1).toNat < 12 by omega)) ?_
    refine wp_iconst (pc := 43) d_Sight_add_43 rfl ?_
    refine wp_iload_n (pc := 44) d_Sight_add_44 rfl ?_
    refine wp_iastc 2 (pc := 45) d_Sight_add_45 (zk_sg L (show (M 147 1).toNat < 12 by omega)) (by omega) rfl rfl ?_
    refine wp_aload_n (pc := 46) d_Sight_add_46 rfl ?_
    refine wp_getR (pc := 47) d_Sight_add_47 rfl (zk_147 L) zx_147_0 ?_
    refine wp_aload_n (pc := 50) d_Sight_add_50 rfl ?_
    refine wp_getI (pc := 51) d_Sight_add_51 rfl (by decide) (zk_147 L) ?_
    repeat rw [zU_na (by omega)]
    refine wp_aald (b := 149 + (M 147 1).toNat) (pc := 54) d_Sight_add_54 (zk_148 L) (by decide) (by omega) (by omega) (zx_sg (show (M 147 1).toNat < 12 by omega)) ?_
    refine wp_iconst (pc := 55) d_Sight_add_55 rfl ?_
    refine wp_iload (pc := 56) d_Sight_add_56 rfl ?_
    refine wp_iastc 3 (pc := 58) d_Sight_add_58 (zk_sg L (show (M 147 1).toNat < 12 by omega)) (by omega) rfl rfl ?_
    refine wp_aload_n (pc := 59) d_Sight_add_59 rfl ?_
    refine wp_dup (pc := 60) d_Sight_add_60 rfl ?_
    refine wp_getI (pc := 61) d_Sight_add_61 rfl (by decide) (zk_147 L) ?_
    repeat rw [zU_na (by omega)]
    refine wp_iconst (pc := 64) d_Sight_add_64 rfl ?_
    refine wp_iadd (pc := 65) d_Sight_add_65 (by omega) (by omega) ?_
    refine wp_putI (pc := 66) d_Sight_add_66 rfl (zk_147 L) (by decide) ?_
    refine wp_aload_n (pc := 69) d_Sight_add_69 rfl ?_
    refine wp_dup (pc := 70) d_Sight_add_70 rfl ?_
    refine wp_getI (pc := 71) d_Sight_add_71 rfl (by decide) (zk_147 L) ?_
    rw [zU_nk (by decide)]
    repeat rw [zU_na (by omega)]
    refine wp_iconst (pc := 74) d_Sight_add_74 rfl ?_
    refine wp_iadd (pc := 75) d_Sight_add_75 (by omega) (by omega) ?_
    refine wp_putI (pc := 76) d_Sight_add_76 rfl (zk_147 L) (by decide) ?_
    refine wp_return_ (pc := 79) d_Sight_add_79 rfl ?_
    refine ⟨rfl, (((((zSm.rf.u (Or.inr rfl)).u (Or.inr rfl)).u (Or.inr rfl)).u (Or.inr rfl)).u (Or.inl rfl)).u (Or.inl rfl), ?_, ?_, ?_, ?_, ?_, ?_, ?_⟩
    · rw [zU_nk (by decide), zU_nk (by decide)]; repeat rw [zU_na (by omega)]
    · rw [zU_nk (by decide), zU_eq]
    · rw [zU_eq]
    · rw [zU_na (by omega), zU_na (by omega), zU_nk (by decide), zU_nk (by decide), zU_nk (by decide), zU_eq]
    · rw [zU_na (by omega), zU_na (by omega), zU_nk (by decide), zU_nk (by decide), zU_eq]
    · rw [zU_na (by omega), zU_na (by omega), zU_nk (by decide), zU_eq]
    · rw [zU_na (by omega), zU_na (by omega), zU_eq]
  · exact absurd c6 (by omega)
/-- the rows from i on are moved up by one, up to place n -/
def zMv (M0 M : zM) (i n : Int) : Prop := zSm (fun a => 149 ≤ a ∧ a < 161) M0 M ∧ (∀ k : Int, 0 ≤ k → k < i → ∀ c, c < 4 → M (149 + k.toNat) c = M0 (149 + k.toNat) c) ∧ (∀ k : Int, i ≤ k → k < n → ∀ c, c < 4 → M (149 + k.toNat) c = M0 (149 + k.toNat + 1) c) ∧ ∀ k : Int, n ≤ k → k < 12 → ∀ c, c < 4 → M (149 + k.toNat) c = M0 (149 + k.toNat) c
theorem lp_Sg_rem1 {M0 : zM} {Qx : Option zV → zM → Prop} (h0 : 0 ≤ j) (h1 : j ≤ i) (h2 : i + 1 < M0 147 1) (h3 : M0 147 1 ≤ 12) (hq : ∀ M', zMv M0 M' j (i + 1) → wp L 0 zm_Sight_remove 11 [rV 147, iV j, iV (i + 1), iV 4] [] M' Qx) : ∀ (n9 : Nat) (y : Int) (M : zM), 4 - y < n9 → 0 ≤ y → y ≤ 4 → zSm (fun a => 149 ≤ a ∧ a < 161) M0 M → (∀ k : Int, 0 ≤ k → k < j → ∀ c, c < 4 → M (149 + k.toNat) c = M0 (149 + k.toNat) c) → (∀ k : Int, j ≤ k → k < i → ∀ c, c < 4 → M (149 + k.toNat) c = M0 (149 + k.toNat + 1) c) → (∀ c : Nat, (c : Int) < y → M (149 + i.toNat) c = M0 (149 + i.toNat + 1) c) → (∀ k : Int, i < k → k < 12 → ∀ c, c < 4 → M (149 + k.toNat) c = M0 (149 + k.toNat) c) → wp L 0 zm_Sight_remove 23 [rV 147, iV j, iV i, iV y] [] M (Qx) := by
  intro n9
  induction n9 with
  | zero =>
    intro y  M  h9 g1 g2 g3 g4 g5 g6 g7
    exact absurd h9 (by omega)
  | succ n9 ih =>
    intro y  M  h9 g1 g2 g3 g4 g5 g6 g7
    refine wp_iload_n (pc := 23) d_Sight_remove_23 rfl ?_
    refine wp_iconst (pc := 24) d_Sight_remove_24 rfl ?_
    refine wp_icmp_ge (tgt := 52) (pc := 25) d_Sight_remove_25 rfl (fun c25 => ?_) (fun c25 => ?_)
    · refine wp_iinc2 (pc := 52) d_Sight_remove_52 rfl (by omega) (by omega) ?_
      refine wp_goto (tgt := 11) (pc := 55) d_Sight_remove_55 rfl ?_
      have ey : y = 4 := by omega
      subst ey
      exact hq M ⟨g3, g4, fun k k0 k1 c hc => by
        by_cases e : k = i
        · rw [e]; exact g6 c (by omega)
        · exact g5 k k0 (by omega) c hc, fun k k0 k1 c hc => g7 k (by omega) k1 c hc⟩
    · refine wp_aload_n (pc := 28) d_Sight_remove_28 rfl ?_
      refine wp_getR (pc := 29) d_Sight_remove_29 rfl (zk_147 L) zx_147_0 ?_
      refine wp_iload_n (pc := 32) d_Sight_remove_32 rfl ?_
      refine wp_aald (b := 149 + i.toNat) (pc := 33) d_Sight_remove_33 (zk_148 L) (by decide) (by omega) (by omega) (zx_sg (show i.toNat < 12 by omega)) ?_
      refine wp_iload_n (pc := 34) d_Sight_remove_34 rfl ?_
      refine wp_aload_n (pc := 35) d_Sight_remove_35 rfl ?_
      refine wp_getR (pc := 36) d_Sight_remove_36 rfl (zk_147 L) zx_147_0 ?_
      refine wp_iload_n (pc := 39) d_Sight_remove_39 rfl ?_
      refine wp_iconst (pc := 40) d_Sight_remove_40 rfl ?_
      refine wp_iadd (pc := 41) d_Sight_remove_41 (by omega) (by omega) ?_
      refine wp_aald (b := 149 + (i + 1).toNat) (pc := 42) d_Sight_remove_42 (zk_148 L) (by decide) (by omega) (by omega) (zx_sg (show (i + 1).toNat < 12 by omega)) ?_
      refine wp_iload_n (pc := 43) d_Sight_remove_43 rfl ?_
      refine wp_iald (pc := 44) d_Sight_remove_44 (zk_sg L (show (i + 1).toNat < 12 by omega)) (by omega) (by omega) ?_
      refine wp_iast (pc := 45) d_Sight_remove_45 (zk_sg L (show i.toNat < 12 by omega)) (by omega) (by omega) (by omega) ?_
      refine wp_iinc3 (pc := 46) d_Sight_remove_46 rfl (by omega) (by omega) ?_
      refine wp_goto (tgt := 23) (pc := 49) d_Sight_remove_49 rfl ?_
      refine ih (y + 1) _ (by omega) (by omega) (by omega) (g3.u (by omega)) (fun k k0 k1 c hc => ?_) (fun k k0 k1 c hc => ?_) (fun c hc => ?_) (fun k k0 k1 c hc => ?_)
      · rw [zU_na (by omega)]; exact g4 k k0 k1 c hc
      · rw [zU_na (by omega)]; exact g5 k k0 k1 c hc
      · by_cases e : c = y.toNat
        · rw [e, zU_eq, g7 (i + 1) (by omega) (by omega) y.toNat (by omega), show 149 + (i + 1).toNat = 149 + i.toNat + 1 by omega]
        · rw [zU_nk e]; exact g6 c (by omega)
      · rw [zU_na (by omega)]; exact g7 k k0 k1 c hc
theorem lp_Sg_rem {M0 : zM} (h0 : 0 ≤ j) (h2 : j < M0 147 1) (h3 : M0 147 1 ≤ 12) (hc : 0 ≤ M0 147 2 ∧ M0 147 2 ≤ 100000) : ∀ (n9 : Nat) (i : Int) (M : zM) (u : zV), M0 147 1 - i < n9 → j ≤ i → i < M0 147 1 → zMv M0 M j i → wp L 0 zm_Sight_remove 11 [rV 147, iV j, iV i, u] [] M (fun r M' => r = none ∧ (zSm (fun a => 147 ≤ a ∧ a < 161) M0 M' ∧ (∀ k : Int, 0 ≤ k → k < j → ∀ c, c < 4 → M' (149 + k.toNat) c = M0 (149 + k.toNat) c) ∧ (∀ k : Int, j ≤ k → k < M0 147 1 - 1 → ∀ c, c < 4 → M' (149 + k.toNat) c = M0 (149 + k.toNat + 1) c) ∧ M' 147 0 = M0 147 0 ∧ M' 147 1 = M0 147 1 - 1 ∧ M' 147 2 = M0 147 2 + 1 ∧ M' 148 = M0 148)) := by
  intro n9
  induction n9 with
  | zero =>
    intro i  M  u  h9 h1 g1 g2
    exact absurd h9 (by omega)
  | succ n9 ih =>
    intro i  M  u  h9 h1 g1 g2
    have e1 : M 147 1 = M0 147 1 := g2.1 147 (by omega) 1
    have e2 : M 147 2 = M0 147 2 := g2.1 147 (by omega) 2
    refine wp_iload_n (pc := 11) d_Sight_remove_11 rfl ?_
    refine wp_iconst (pc := 12) d_Sight_remove_12 rfl ?_
    refine wp_iadd (pc := 13) d_Sight_remove_13 (by omega) (by omega) ?_
    refine wp_aload_n (pc := 14) d_Sight_remove_14 rfl ?_
    refine wp_getI (pc := 15) d_Sight_remove_15 rfl (by decide) (zk_147 L) ?_
    refine wp_icmp_ge (tgt := 58) (pc := 18) d_Sight_remove_18 rfl (fun c18 => ?_) (fun c18 => ?_)
    · refine wp_aload_n (pc := 58) d_Sight_remove_58 rfl ?_
      refine wp_dup (pc := 59) d_Sight_remove_59 rfl ?_
      refine wp_getI (pc := 60) d_Sight_remove_60 rfl (by decide) (zk_147 L) ?_
      refine wp_iconst (pc := 63) d_Sight_remove_63 rfl ?_
      refine wp_isub (pc := 64) d_Sight_remove_64 (by omega) (by omega) ?_
      refine wp_putI (pc := 65) d_Sight_remove_65 rfl (zk_147 L) (by decide) ?_
      refine wp_aload_n (pc := 68) d_Sight_remove_68 rfl ?_
      refine wp_dup (pc := 69) d_Sight_remove_69 rfl ?_
      refine wp_getI (pc := 70) d_Sight_remove_70 rfl (by decide) (zk_147 L) ?_
      rw [zU_nk (by decide)]
      refine wp_iconst (pc := 73) d_Sight_remove_73 rfl ?_
      refine wp_iadd (pc := 74) d_Sight_remove_74 (by omega) (by omega) ?_
      refine wp_putI (pc := 75) d_Sight_remove_75 rfl (zk_147 L) (by decide) ?_
      refine wp_return_ (pc := 78) d_Sight_remove_78 rfl ?_
      refine ⟨rfl, ((g2.1.up (fun a ha => by omega)).u (by omega)).u (by omega), fun k k0 k1 c hc => ?_, fun k k0 k1 c hc => ?_, ?_, ?_, ?_, ?_⟩
      · rw [zU_na (by omega), zU_na (by omega)]; exact g2.2.1 k k0 k1 c hc
      · rw [zU_na (by omega), zU_na (by omega)]; exact g2.2.2.1 k k0 (by omega) c hc
      · rw [zU_nk (by decide), zU_nk (by decide)]; exact g2.1 147 (by omega) 0
      · rw [zU_nk (by decide), zU_eq, e1]
      · rw [zU_eq, e2]
      · funext k
        rw [zU_na (by omega), zU_na (by omega)]; exact g2.1 148 (by omega) k
    · refine wp_iconst (pc := 21) d_Sight_remove_21 rfl ?_
      refine wp_ist3 (pc := 22) d_Sight_remove_22 rfl ?_
      refine lp_Sg_rem1 (M0 := M0) h0 h1 (by omega) h3 (fun M' hM' => ih (i + 1) M' _ (by omega) (by omega) (by omega) hM') 100 0 M (by omega) (by omega) (by omega) g2.1 g2.2.1 g2.2.2.1 (fun c hc => absurd hc (by omega)) (fun k k0 k1 c hc => g2.2.2.2 k (by omega) k1 c hc)
theorem c_Sg_remove (h0 : 0 ≤ j) (h2 : j < M 147 1) (h3 : M 147 1 ≤ 12) (hc : 0 ≤ M 147 2 ∧ M 147 2 ≤ 100000) : Cv L 1 zm_Sight_remove [rV 147, iV j] M (fun M' => zSm (fun a => 147 ≤ a ∧ a < 161) M M' ∧ (∀ k : Int, 0 ≤ k → k < j → ∀ c, c < 4 → M' (149 + k.toNat) c = M (149 + k.toNat) c) ∧ (∀ k : Int, j ≤ k → k < M 147 1 - 1 → ∀ c, c < 4 → M' (149 + k.toNat) c = M (149 + k.toNat + 1) c) ∧ M' 147 0 = M 147 0 ∧ M' 147 1 = M 147 1 - 1 ∧ M' 147 2 = M 147 2 + 1 ∧ M' 148 = M 148) := by
  show wp L _ zm_Sight_remove 0 [rV 147, iV j, uV, uV] [] M _
  refine wp_aload_n (pc := 0) d_Sight_remove_0 rfl ?_
  refine wp_iload_n (pc := 1) d_Sight_remove_1 rfl ?_
  refine wp_callV1f (pc := 2) d_Sight_remove_2 rfl rfl (zk_147 L) rfl rfl c_Sg_has ?_
  refine wp_if_ne (tgt := 9) (pc := 5) d_Sight_remove_5 rfl (fun c5 => ?_) (fun c5 => ?_)
  · refine wp_iload_n (pc := 9) d_Sight_remove_9 rfl ?_
    refine wp_ist2 (pc := 10) d_Sight_remove_10 rfl ?_
    exact wp_deep (lp_Sg_rem (M0 := M) h0 h2 h3 hc 100 j M _ (by omega) (by omega) (by omega) ⟨zSm.rf, fun _ _ _ _ _ => rfl, fun k k0 k1 => absurd k1 (by omega), fun _ _ _ _ _ => rfl⟩) (by decide)
  · have c5 := zb_eq0 (Decidable.of_not_not c5)
    refine wp_return_ (pc := 8) d_Sight_remove_8 rfl ?_
    exact absurd c5 (by omega)
theorem c_Sg_isLessWorn (hl : M 147 1 ≤ 12) : Cf L 1 zm_Sight_isLessWorn [rV 147, iV i, iV j] M (iV (if ((0 ≤ i ∧ i < M 147 1) ∧ 0 ≤ j ∧ j < M 147 1) ∧ M (149 + i.toNat) 0 = M (149 + j.toNat) 0 ∧ M (149 + i.toNat) 3 < M (149 + j.toNat) 3 then 1 else 0)) M := by
  show wp L _ zm_Sight_isLessWorn 0 [rV 147, iV i, iV j] [] M _
  refine wp_aload_n (pc := 0) d_Sight_isLessWorn_0 rfl ?_
  refine wp_iload_n (pc := 1) d_Sight_isLessWorn_1 rfl ?_
  refine wp_callV1f (pc := 2) d_Sight_isLessWorn_2 rfl rfl (zk_147 L) rfl rfl c_Sg_has ?_
  refine wp_if_eq (tgt := 16) (pc := 5) d_Sight_isLessWorn_5 rfl (fun c5 => ?_) (fun c5 => ?_)
  · have c5 := zb_eq0 c5
    refine wp_iconst (pc := 16) d_Sight_isLessWorn_16 rfl ?_
    refine wp_zreturn (pc := 17) d_Sight_isLessWorn_17 rfl (by omega) ?_
    first | exact ⟨by rw [if_pos (by omega)], rfl⟩ | exact ⟨by rw [if_neg (by omega)], rfl⟩
  · have c5 := zb_ne0 c5
    refine wp_aload_n (pc := 8) d_Sight_isLessWorn_8 rfl ?_
    refine wp_iload_n (pc := 9) d_Sight_isLessWorn_9 rfl ?_
    refine wp_callV1f (pc := 10) d_Sight_isLessWorn_10 rfl rfl (zk_147 L) rfl rfl c_Sg_has ?_
    refine wp_if_ne (tgt := 18) (pc := 13) d_Sight_isLessWorn_13 rfl (fun c13 => ?_) (fun c13 => ?_)
    · have c13 := zb_ne0 c13
      refine wp_aload_n (pc := 18) d_Sight_isLessWorn_18 rfl ?_
      refine wp_getR (pc := 19) d_Sight_isLessWorn_19 rfl (zk_147 L) zx_147_0 ?_
      refine wp_iload_n (pc := 22) d_Sight_isLessWorn_22 rfl ?_
      refine wp_aald (b := 149 + i.toNat) (pc := 23) d_Sight_isLessWorn_23 (zk_148 L) (by decide) (by omega) (by omega) (zx_sg (show i.toNat < 12 by omega)) ?_
      refine wp_iconst (pc := 24) d_Sight_isLessWorn_24 rfl ?_
      refine wp_ialdc 0 (pc := 25) d_Sight_isLessWorn_25 (zk_sg L (show i.toNat < 12 by omega)) rfl rfl ?_
      refine wp_aload_n (pc := 26) d_Sight_isLessWorn_26 rfl ?_
      refine wp_getR (pc := 27) d_Sight_isLessWorn_27 rfl (zk_147 L) zx_147_0 ?_
      refine wp_iload_n (pc := 30) d_Sight_isLessWorn_30 rfl ?_
      refine wp_aald (b := 149 + j.toNat) (pc := 31) d_Sight_isLessWorn_31 (zk_148 L) (by decide) (by omega) (by omega) (zx_sg (show j.toNat < 12 by omega)) ?_
      refine wp_iconst (pc := 32) d_Sight_isLessWorn_32 rfl ?_
      refine wp_ialdc 0 (pc := 33) d_Sight_isLessWorn_33 (zk_sg L (show j.toNat < 12 by omega)) rfl rfl ?_
      refine wp_icmp_ne (tgt := 60) (pc := 34) d_Sight_isLessWorn_34 rfl (fun c34 => ?_) (fun c34 => ?_)
      · refine wp_iconst (pc := 60) d_Sight_isLessWorn_60 rfl ?_
        refine wp_zreturn (pc := 61) d_Sight_isLessWorn_61 rfl (by omega) ?_
        first | exact ⟨by rw [if_pos (by omega)], rfl⟩ | exact ⟨by rw [if_neg (by omega)], rfl⟩
      · refine wp_aload_n (pc := 37) d_Sight_isLessWorn_37 rfl ?_
        refine wp_getR (pc := 38) d_Sight_isLessWorn_38 rfl (zk_147 L) zx_147_0 ?_
        refine wp_iload_n (pc := 41) d_Sight_isLessWorn_41 rfl ?_
        refine wp_aald (b := 149 + i.toNat) (pc := 42) d_Sight_isLessWorn_42 (zk_148 L) (by decide) (by omega) (by omega) (zx_sg (show i.toNat < 12 by omega)) ?_
        refine wp_iconst (pc := 43) d_Sight_isLessWorn_43 rfl ?_
        refine wp_ialdc 3 (pc := 44) d_Sight_isLessWorn_44 (zk_sg L (show i.toNat < 12 by omega)) rfl rfl ?_
        refine wp_aload_n (pc := 45) d_Sight_isLessWorn_45 rfl ?_
        refine wp_getR (pc := 46) d_Sight_isLessWorn_46 rfl (zk_147 L) zx_147_0 ?_
        refine wp_iload_n (pc := 49) d_Sight_isLessWorn_49 rfl ?_
        refine wp_aald (b := 149 + j.toNat) (pc := 50) d_Sight_isLessWorn_50 (zk_148 L) (by decide) (by omega) (by omega) (zx_sg (show j.toNat < 12 by omega)) ?_
        refine wp_iconst (pc := 51) d_Sight_isLessWorn_51 rfl ?_
        refine wp_ialdc 3 (pc := 52) d_Sight_isLessWorn_52 (zk_sg L (show j.toNat < 12 by omega)) rfl rfl ?_
        refine wp_icmp_ge (tgt := 60) (pc := 53) d_Sight_isLessWorn_53 rfl (fun c53 => ?_) (fun c53 => ?_)
        · refine wp_iconst (pc := 60) d_Sight_isLessWorn_60 rfl ?_
          refine wp_zreturn (pc := 61) d_Sight_isLessWorn_61 rfl (by omega) ?_
          first | exact ⟨by rw [if_pos (by omega)], rfl⟩ | exact ⟨by rw [if_neg (by omega)], rfl⟩
        · refine wp_iconst (pc := 56) d_Sight_isLessWorn_56 rfl ?_
          refine wp_goto (tgt := 61) (pc := 57) d_Sight_isLessWorn_57 rfl ?_
          refine wp_zreturn (pc := 61) d_Sight_isLessWorn_61 rfl (by omega) ?_
          first | exact ⟨by rw [if_pos (by omega)], rfl⟩ | exact ⟨by rw [if_neg (by omega)], rfl⟩
    · have c13 := zb_eq0 (Decidable.of_not_not c13)
      refine wp_iconst (pc := 16) d_Sight_isLessWorn_16 rfl ?_
      refine wp_zreturn (pc := 17) d_Sight_isLessWorn_17 rfl (by omega) ?_
      first | exact ⟨by rw [if_pos (by omega)], rfl⟩ | exact ⟨by rw [if_neg (by omega)], rfl⟩
end ZSg
