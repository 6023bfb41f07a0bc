/-! Collation: cell 7; texts are the cells 12, 14 .. 22; alignments the cells 24, 27 .. 129 -/
theorem zx_tx {j : Nat} (h : j < 6) : zK0 8 j = ((12 + 2 * j : Nat) : Int) := by
  have h1 : ∀ j, j < 6 → zK0 8 j = ((12 + 2 * j : Nat) : Int) := by decide +kernel
  exact h1 j h
theorem zx_al {j : Nat} (h : j < 36) : zK0 9 j = ((24 + 3 * j : Nat) : Int) := by
  have h1 : ∀ j, j < 36 → zK0 9 j = ((24 + 3 * j : Nat) : Int) := by decide +kernel
  exact h1 j h
section ZCo2
variable {L g : Nat} {M : zM} {i x y b : Int}
theorem c_Co_size  : Cf L 0 zm_Coll_size [rV 7] M (iV (M 7 3)) M := by
  show wp L _ zm_Coll_size 0 [rV 7] [] M _
  refine wp_aload_n (pc := 0) d_Coll_size_0 rfl ?_
  refine wp_getI (pc := 1) d_Coll_size_1 rfl (by decide) (zk_7 L) ?_
  refine wp_ireturn (pc := 4) d_Coll_size_4 rfl ?_
  exact ⟨rfl, rfl⟩
theorem c_Co_reach  : Cf L 0 zm_Coll_reach [rV 7] M (iV (M 7 4)) M := by
  show wp L _ zm_Coll_reach 0 [rV 7] [] M _
  refine wp_aload_n (pc := 0) d_Coll_reach_0 rfl ?_
  refine wp_getI (pc := 1) d_Coll_reach_1 rfl (by decide) (zk_7 L) ?_
  refine wp_ireturn (pc := 4) d_Coll_reach_4 rfl ?_
  exact ⟨rfl, rfl⟩
theorem c_Co_changes  : Cf L 0 zm_Coll_changes [rV 7] M (iV (M 7 5)) M := by
  show wp L _ zm_Coll_changes 0 [rV 7] [] M _
  refine wp_aload_n (pc := 0) d_Coll_changes_0 rfl ?_
  refine wp_getI (pc := 1) d_Coll_changes_1 rfl (by decide) (zk_7 L) ?_
  refine wp_ireturn (pc := 4) d_Coll_changes_4 rfl ?_
  exact ⟨rfl, rfl⟩
theorem c_Co_has  : Cf L 0 zm_Coll_has [rV 7, iV i] M (iV (if 0 ≤ i ∧ i < M 7 3 then 1 else 0)) M := by
  show wp L _ zm_Coll_has 0 [rV 7, iV i] [] M _
  refine wp_iload_n (pc := 0) d_Coll_has_0 rfl ?_
  refine wp_if_lt (tgt := 16) (pc := 1) d_Coll_has_1 rfl (fun c1 => ?_) (fun c1 => ?_)
  · refine wp_iconst (pc := 16) d_Coll_has_16 rfl ?_
    refine wp_zreturn (pc := 17) d_Coll_has_17 rfl (by omega) ?_
    first | exact ⟨by rw [if_pos (by omega)], rfl⟩ | exact ⟨by rw [if_neg (by omega)], rfl⟩
  · refine wp_iload_n (pc := 4) d_Coll_has_4 rfl ?_
    refine wp_aload_n (pc := 5) d_Coll_has_5 rfl ?_
    refine wp_getI (pc := 6) d_Coll_has_6 rfl (by decide) (zk_7 L) ?_
    refine wp_icmp_ge (tgt := 16) (pc := 9) d_Coll_has_9 rfl (fun c9 => ?_) (fun c9 => ?_)
    · refine wp_iconst (pc := 16) d_Coll_has_16 rfl ?_
      refine wp_zreturn (pc := 17) d_Coll_has_17 rfl (by omega) ?_
      first | exact ⟨by rw [if_pos (by omega)], rfl⟩ | exact ⟨by rw [if_neg (by omega)], rfl⟩
    · refine wp_iconst (pc := 12) d_Coll_has_12 rfl ?_
      refine wp_goto (tgt := 17) (pc := 13) d_Coll_has_13 rfl ?_
      refine wp_zreturn (pc := 17) d_Coll_has_17 rfl (by omega) ?_
      first | exact ⟨by rw [if_pos (by omega)], rfl⟩ | exact ⟨by rw [if_neg (by omega)], rfl⟩
theorem c_Co_text (hn : M 7 3 ≤ 6) : Cf L 1 zm_Coll_text [rV 7, iV i] M (rV (12 + 2 * (if 0 ≤ i ∧ i < M 7 3 then i.toNat else 0))) M := by
  show wp L _ zm_Coll_text 0 [rV 7, iV i] [] M _
  refine wp_aload_n (pc := 0) d_Coll_text_0 rfl ?_
  refine wp_getR (pc := 1) d_Coll_text_1 rfl (zk_7 L) zx_7_0 ?_
  refine wp_aload_n (pc := 4) d_Coll_text_4 rfl ?_
  refine wp_iload_n (pc := 5) d_Coll_text_5 rfl ?_
  refine wp_callV1f (pc := 6) d_Coll_text_6 rfl rfl (zk_7 L) rfl rfl c_Co_has ?_
  refine wp_if_eq (tgt := 16) (pc := 9) d_Coll_text_9 rfl (fun c9 => ?_) (fun c9 => ?_)
  · have c9 := zb_eq0 c9
    refine wp_iconst (pc := 16) d_Coll_text_16 rfl ?_
    refine wp_aald (b := _) (pc := 17) d_Coll_text_17 (zk_8 L) (by decide) (by omega) (by omega) (by first | exact zx_tx (show i.toNat < 6 by omega) | exact zx_tx (show (0 : Int).toNat < 6 by decide)) ?_
    refine wp_areturn (pc := 18) d_Coll_text_18 rfl ?_
    first | exact ⟨by rw [if_pos c9], rfl⟩ | exact ⟨by rw [if_neg c9]; rfl, rfl⟩
  · have c9 := zb_ne0 c9
    refine wp_iload_n (pc := 12) d_Coll_text_12 rfl ?_
    refine wp_goto (tgt := 17) (pc := 13) d_Coll_text_13 rfl ?_
    refine wp_aald (b := _) (pc := 17) d_Coll_text_17 (zk_8 L) (by decide) (by omega) (by omega) (by first | exact zx_tx (show i.toNat < 6 by omega) | exact zx_tx (show (0 : Int).toNat < 6 by decide)) ?_
    refine wp_areturn (pc := 18) d_Coll_text_18 rfl ?_
    first | exact ⟨by rw [if_pos c9], rfl⟩ | exact ⟨by rw [if_neg c9]; rfl, rfl⟩
/-- the alignments of copy c with the first i copies are forgotten -/
def qFg (M0 M : zM) (c i : Int) : Prop := ∀ p : Nat, p < 36 → (∀ k, k ≠ 2 → M (24 + 3 * p) k = M0 (24 + 3 * p) k) ∧ M (24 + 3 * p) 2 = if ((p / 6 : Nat) : Int) = c ∧ ((p % 6 : Nat) : Int) < i ∨ ((p % 6 : Nat) : Int) = c ∧ ((p / 6 : Nat) : Int) < i then 0 else M0 (24 + 3 * p) 2
theorem lp_Co_put {M0 : zM} (x0 : 0 ≤ x) (x1 : x < 6) (hc : 0 ≤ M0 7 5 ∧ M0 7 5 ≤ 100000) : ∀ (n9 : Nat) (i : Int) (M : zM), 6 - i < n9 → 0 ≤ i → i ≤ 6 → zSm (fun a => 24 ≤ a ∧ a < 132 ∧ a % 3 = 0) M0 M → qFg M0 M x i → wp L 1 zm_Coll_put 45 [rV 7, iV x, rV g, iV i] [] M (fun r M' => r = none ∧ (zSm (fun a => a = 7 ∨ (24 ≤ a ∧ a < 132 ∧ a % 3 = 0)) M0 M' ∧ qFg M0 M' x 6 ∧ M' 7 5 = M0 7 5 + 1 ∧ ∀ k, k ≠ 5 → M' 7 k = M0 7 k)) := by
  intro n9
  induction n9 with
  | zero =>
    intro i  M  h9 g1 g2 g3 g4
    exact absurd h9 (by omega)
  | succ n9 ih =>
    intro i  M  h9 g1 g2 g3 g4
    refine wp_iload_n (pc := 45) d_Coll_put_45 rfl ?_
    refine wp_bipush (pc := 46) d_Coll_put_46 rfl ?_
    refine wp_icmp_ge (tgt := 85) (pc := 48) d_Coll_put_48 rfl (fun c48 => ?_) (fun c48 => ?_)
    · have e5 : M 7 5 = M0 7 5 := g3 7 (by omega) 5
      refine wp_aload_n (pc := 85) d_Coll_put_85 rfl ?_
      refine wp_dup (pc := 86) d_Coll_put_86 rfl ?_
      refine wp_getI (pc := 87) d_Coll_put_87 rfl (by decide) (zk_7 L) ?_
      refine wp_iconst (pc := 90) d_Coll_put_90 rfl ?_
      refine wp_iadd (pc := 91) d_Coll_put_91 (by omega) (by omega) ?_
      refine wp_putI (pc := 92) d_Coll_put_92 rfl (zk_7 L) (by decide) ?_
      refine wp_return_ (pc := 95) d_Coll_put_95 rfl ?_
      have ei : i = 6 := by omega
      subst ei
      refine ⟨rfl, (g3.up (fun a ha => Or.inr ha)).u (Or.inl rfl), fun p hp => ⟨fun k hk => ?_, ?_⟩, ?_, fun k hk => ?_⟩
      · rw [zU_na (by omega)]; exact (g4 p hp).1 k hk
      · rw [zU_na (by omega)]; exact (g4 p hp).2
      · rw [zU_eq, e5]
      · rw [zU_nk hk]; exact g3 7 (by omega) k
    · refine wp_aload_n (pc := 51) d_Coll_put_51 rfl ?_
      refine wp_getR (pc := 52) d_Coll_put_52 rfl (zk_7 L) zx_7_1 ?_
      refine wp_iload_n (pc := 55) d_Coll_put_55 rfl ?_
      refine wp_bipush (pc := 56) d_Coll_put_56 rfl ?_
      refine wp_imul (pc := 58) d_Coll_put_58 (by omega) (by omega) ?_
      refine wp_iload_n (pc := 59) d_Coll_put_59 rfl ?_
      refine wp_iadd (pc := 60) d_Coll_put_60 (by omega) (by omega) ?_
      refine wp_aald (b := 24 + 3 * (x * 6 + i).toNat) (pc := 61) d_Coll_put_61 (zk_9 L) (by decide) (by omega) (by omega) (zx_al (show (x * 6 + i).toNat < 36 by omega)) ?_
      refine wp_callV0v (pc := 62) d_Coll_put_62 rfl rfl (zAn_i L (x * 6 + i).toNat (by omega)).1 rfl rfl (c_An_forget (zAn_i L (x * 6 + i).toNat (by omega))) (fun M62 h62 => ?_)
      subst h62
      refine wp_aload_n (pc := 65) d_Coll_put_65 rfl ?_
      refine wp_getR (pc := 66) d_Coll_put_66 rfl (zk_7 L) zx_7_1 ?_
      refine wp_iload_n (pc := 69) d_Coll_put_69 rfl ?_
      refine wp_bipush (pc := 70) d_Coll_put_70 rfl ?_
      refine wp_imul (pc := 72) d_Coll_put_72 (by omega) (by omega) ?_
      refine wp_iload_n (pc := 73) d_Coll_put_73 rfl ?_
      refine wp_iadd (pc := 74) d_Coll_put_74 (by omega) (by omega) ?_
      refine wp_aald (b := 24 + 3 * (i * 6 + x).toNat) (pc := 75) d_Coll_put_75 (zk_9 L) (by decide) (by omega) (by omega) (zx_al (show (i * 6 + x).toNat < 36 by omega)) ?_
      refine wp_callV0v (pc := 76) d_Coll_put_76 rfl rfl (zAn_i L (i * 6 + x).toNat (by omega)).1 rfl rfl (c_An_forget (zAn_i L (i * 6 + x).toNat (by omega))) (fun M76 h76 => ?_)
      subst h76
      refine wp_iinc3 (pc := 79) d_Coll_put_79 rfl (by omega) (by omega) ?_
      refine wp_goto (tgt := 45) (pc := 82) d_Coll_put_82 rfl ?_
      refine ih (i + 1) _ (by omega) (by omega) (by omega) ((g3.u (by omega)).u (by omega)) (fun p hp => ⟨fun k hk => ?_, ?_⟩)
      · rw [zU_nk hk, zU_nk hk]; exact (g4 p hp).1 k hk
      · by_cases e1 : p = (i * 6 + x).toNat
        · rw [← e1, zU_eq, if_pos (by omega)]
        · rw [zU_na (by omega)]
          by_cases e2 : p = (x * 6 + i).toNat
          · rw [← e2, zU_eq, if_pos (by omega)]
          · rw [zU_na (by omega), (g4 p hp).2]
            by_cases e3 : ((p / 6 : Nat) : Int) = x ∧ ((p % 6 : Nat) : Int) < i ∨ ((p % 6 : Nat) : Int) = x ∧ ((p / 6 : Nat) : Int) < i
            · rw [if_pos e3, if_pos (by omega)]
            · rw [if_neg e3, if_neg (by omega)]
theorem c_Co_put (hg : zTx L g) (x0 : 0 ≤ x) (x1 : x < 6) (x2 : x ≤ M 7 3) (n0 : 0 ≤ M 7 3) (n6 : M 7 3 ≤ 6) (hc : 0 ≤ M 7 5 ∧ M 7 5 ≤ 100000) (hg2 : g = 5) (l0 : 0 ≤ M g 1) (l1 : M g 1 ≤ 24) : Cv L 2 zm_Coll_put [rV 7, iV x, rV g] M (fun M' => zSm (fun a => a = 7 ∨ a = 12 + 2 * x.toNat ∨ a = 13 + 2 * x.toNat ∨ (24 ≤ a ∧ a < 132 ∧ a % 3 = 0)) M M' ∧ qFg M M' x 6 ∧ M' 7 3 = (if M 7 3 < x + 1 then x + 1 else M 7 3) ∧ M' 7 5 = M 7 5 + 1 ∧ (∀ k, k ≠ 3 → k ≠ 5 → M' 7 k = M 7 k) ∧ M' (12 + 2 * x.toNat) 1 = M g 1 ∧ ∀ k : Int, 0 ≤ k → k < M g 1 → M' (13 + 2 * x.toNat) k.toNat = M (g + 1) k.toNat) := by
  show wp L _ zm_Coll_put 0 [rV 7, iV x, rV g, uV] [] M _
  refine wp_iload_n (pc := 0) d_Coll_put_0 rfl ?_
  refine wp_if_lt (tgt := 18) (pc := 1) d_Coll_put_1 rfl (fun c1 => ?_) (fun c1 => ?_)
  · exact absurd c1 (by omega)
  · refine wp_iload_n (pc := 4) d_Coll_put_4 rfl ?_
    refine wp_aload_n (pc := 5) d_Coll_put_5 rfl ?_
    refine wp_getI (pc := 6) d_Coll_put_6 rfl (by decide) (zk_7 L) ?_
    refine wp_icmp_gt (tgt := 18) (pc := 9) d_Coll_put_9 rfl (fun c9 => ?_) (fun c9 => ?_)
    · exact absurd c9 (by omega)
    · refine wp_iload_n (pc := 12) d_Coll_put_12 rfl ?_
      refine wp_bipush (pc := 13) d_Coll_put_13 rfl ?_
      refine wp_icmp_lt (tgt := 19) (pc := 15) d_Coll_put_15 rfl (fun c15 => ?_) (fun c15 => ?_)
      · refine wp_aload_n (pc := 19) d_Coll_put_19 rfl ?_
        refine wp_aload_n (pc := 20) d_Coll_put_20 rfl ?_
        refine wp_getI (pc := 21) d_Coll_put_21 rfl (by decide) (zk_7 L) ?_
        refine wp_iload_n (pc := 24) d_Coll_put_24 rfl ?_
        refine wp_iconst (pc := 25) d_Coll_put_25 rfl ?_
        refine wp_iadd (pc := 26) d_Coll_put_26 (by omega) (by omega) ?_
        refine wp_max (pc := 27) d_Coll_put_27 rfl rfl ?_
        refine wp_putI (pc := 30) d_Coll_put_30 rfl (zk_7 L) (by decide) ?_
        refine wp_aload_n (pc := 33) d_Coll_put_33 rfl ?_
        refine wp_getR (pc := 34) d_Coll_put_34 rfl (zk_7 L) zx_7_0 ?_
        refine wp_iload_n (pc := 37) d_Coll_put_37 rfl ?_
        refine wp_aald (b := 12 + 2 * (x).toNat) (pc := 38) d_Coll_put_38 (zk_8 L) (by decide) (by omega) (by omega) (zx_tx (show (x).toNat < 6 by omega)) ?_
        refine wp_aload_n (pc := 39) d_Coll_put_39 rfl ?_
        refine wp_callV1v (pc := 40) d_Coll_put_40 rfl rfl (zTx_i L (show (x).toNat < 6 by omega)).1 rfl rfl (c_Text_takeFrom (zTx_i L (show x.toNat < 6 by omega)) hg (by omega) (by omega) (by omega) (by rw [zU_na (by omega)]; exact l0) (by rw [zU_na (by omega)]; exact l1)) (fun M40 h40 => ?_)
        obtain ⟨p1, p2, p3⟩ := h40
        have q7 : ∀ k, M40 7 k = zU M 7 3 (if M 7 3 < x + 1 then x + 1 else M 7 3) 7 k := fun k => p1 7 (by omega) k
        refine wp_iconst (pc := 43) d_Coll_put_43 rfl ?_
        refine wp_ist3 (pc := 44) d_Coll_put_44 rfl ?_
        refine wp_mono (wp_deep (lp_Co_put (M0 := M40) x0 x1 (by rw [q7, zU_nk (by decide)]; exact hc) 100 0 M40 (by omega) (by omega) (by omega) zSm.rf (fun p hp => ⟨fun _ _ => rfl, by rw [if_neg (by omega)]⟩)) (by decide)) (fun r M' hr => ?_)
        obtain ⟨hr0, r1, r2, r3, r4⟩ := hr
        have hal : ∀ p k, p < 36 → M40 (24 + 3 * p) k = M (24 + 3 * p) k := fun p k hp => (p1 _ (by omega) k).trans (zU_na (by omega))
        refine ⟨hr0, fun a ha k => ?_, fun p hp => ⟨fun k hk => ?_, ?_⟩, ?_, ?_, fun k k1 k2 => ?_, ?_, fun k k0 k1 => ?_⟩
        · rw [r1 a (by omega) k, p1 a (by omega) k, zU_na (by omega)]
        · rw [(r2 p hp).1 k hk, hal p k hp]
        · rw [(r2 p hp).2, hal p 2 hp]
        · rw [r4 3 (by decide), q7, zU_eq]
        · rw [r3, q7, zU_nk (by decide)]
        · rw [r4 k k2, q7, zU_nk k1]
        · rw [r1 _ (by omega), p2, zU_na (by omega)]
        · rw [r1 _ (by omega)]
          have := p3 k k0 (by rw [zU_na (by omega)]; exact k1)
          rw [zU_na (by omega)] at this
          rw [← this]
          congr 1
          omega
      · exact absurd c15 (by omega)
end ZCo2
