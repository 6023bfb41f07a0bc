/-! Text: a cell of two fields (codes, length), and its row behind it -/
def zTx (L t : Nat) : Prop := zkd L t = some (8, 2) ∧ zkd L (t + 1) = some (20, 24) ∧ zK0 t 0 = ((t + 1 : Nat) : Int) ∧ 4 ≤ t
theorem zTx_5 (L : Nat) : zTx L 5 := ⟨zk_5 L, zk_6 L, zx_5_0, by decide⟩
theorem zTx_i (L : Nat) {i : Nat} (h : i < 6) : zTx L (12 + 2 * i) := by
  rcases (show i = 0 ∨ i = 1 ∨ i = 2 ∨ i = 3 ∨ i = 4 ∨ i = 5 by omega) with rfl | rfl | rfl | rfl | rfl | rfl
  · exact ⟨zk_12 L, zk_13 L, zx_12_0, by decide⟩
  · exact ⟨zk_14 L, zk_15 L, zx_14_0, by decide⟩
  · exact ⟨zk_16 L, zk_17 L, zx_16_0, by decide⟩
  · exact ⟨zk_18 L, zk_19 L, zx_18_0, by decide⟩
  · exact ⟨zk_20 L, zk_21 L, zx_20_0, by decide⟩
  · exact ⟨zk_22 L, zk_23 L, zx_22_0, by decide⟩
/-- only the cells of S are changed -/
def zSm (S : Nat → Prop) (M M' : zM) : Prop := ∀ a, ¬ S a → ∀ k, M' a k = M a k
theorem zb_eq0 {P : Prop} [Decidable P] (h : (if P then (1 : Int) else 0) = 0) : ¬ P := by
  intro p
  rw [if_pos p] at h
  exact absurd h (by decide)
theorem zb_ne0 {P : Prop} [Decidable P] (h : ¬ (if P then (1 : Int) else 0) = 0) : P := by
  by_cases p : P
  · exact p
  · rw [if_neg p] at h
    exact absurd rfl h
section ZT
variable {L t s : Nat} {M : zM} {i x : Int}
theorem c_Text_size (ht : zTx L t) : Cf L 0 zm_Text_size [rV t] M (iV (M t 1)) M := by
  show wp L _ zm_Text_size 0 [rV t] [] M _
  refine wp_aload_n (pc := 0) d_Text_size_0 rfl ?_
  refine wp_getI (pc := 1) d_Text_size_1 rfl (by decide) ht.1 ?_
  refine wp_ireturn (pc := 4) d_Text_size_4 rfl ?_
  exact ⟨rfl, rfl⟩
theorem c_Text_has (ht : zTx L t) : Cf L 0 zm_Text_has [rV t, iV i] M (iV (if 0 ≤ i ∧ i < M t 1 then 1 else 0)) M := by
  show wp L _ zm_Text_has 0 [rV t, iV i] [] M _
  refine wp_iload_n (pc := 0) d_Text_has_0 rfl ?_
  refine wp_if_lt (tgt := 16) (pc := 1) d_Text_has_1 rfl (fun c1 => ?_) (fun c1 => ?_)
  · refine wp_iconst (pc := 16) d_Text_has_16 rfl ?_
    refine wp_zreturn (pc := 17) d_Text_has_17 rfl (by omega) ?_
    first | exact ⟨by rw [if_pos (by omega)], rfl⟩ | exact ⟨by rw [if_neg (by omega)], rfl⟩
  · refine wp_iload_n (pc := 4) d_Text_has_4 rfl ?_
    refine wp_aload_n (pc := 5) d_Text_has_5 rfl ?_
    refine wp_getI (pc := 6) d_Text_has_6 rfl (by decide) ht.1 ?_
    refine wp_icmp_ge (tgt := 16) (pc := 9) d_Text_has_9 rfl (fun c9 => ?_) (fun c9 => ?_)
    · refine wp_iconst (pc := 16) d_Text_has_16 rfl ?_
      refine wp_zreturn (pc := 17) d_Text_has_17 rfl (by omega) ?_
      first | exact ⟨by rw [if_pos (by omega)], rfl⟩ | exact ⟨by rw [if_neg (by omega)], rfl⟩
    · refine wp_iconst (pc := 12) d_Text_has_12 rfl ?_
      refine wp_goto (tgt := 17) (pc := 13) d_Text_has_13 rfl ?_
      refine wp_zreturn (pc := 17) d_Text_has_17 rfl (by omega) ?_
      first | exact ⟨by rw [if_pos (by omega)], rfl⟩ | exact ⟨by rw [if_neg (by omega)], rfl⟩
theorem c_Text_at (ht : zTx L t) (hl : M t 1 ≤ 24) : Cf L 0 zm_Text_at [rV t, iV i] M (iV (if 0 ≤ i ∧ i < M t 1 then M (t + 1) i.toNat else -1)) M := by
  show wp L _ zm_Text_at 0 [rV t, iV i] [] M _
  refine wp_iload_n (pc := 0) d_Text_at_0 rfl ?_
  refine wp_if_lt (tgt := 21) (pc := 1) d_Text_at_1 rfl (fun c1 => ?_) (fun c1 => ?_)
  · refine wp_iconst (pc := 21) d_Text_at_21 rfl ?_
    refine wp_ireturn (pc := 22) d_Text_at_22 rfl ?_
    first | exact ⟨by rw [if_pos (by omega)], rfl⟩ | exact ⟨by rw [if_neg (by omega)], rfl⟩
  · refine wp_iload_n (pc := 4) d_Text_at_4 rfl ?_
    refine wp_aload_n (pc := 5) d_Text_at_5 rfl ?_
    refine wp_getI (pc := 6) d_Text_at_6 rfl (by decide) ht.1 ?_
    refine wp_icmp_ge (tgt := 21) (pc := 9) d_Text_at_9 rfl (fun c9 => ?_) (fun c9 => ?_)
    · refine wp_iconst (pc := 21) d_Text_at_21 rfl ?_
      refine wp_ireturn (pc := 22) d_Text_at_22 rfl ?_
      first | exact ⟨by rw [if_pos (by omega)], rfl⟩ | exact ⟨by rw [if_neg (by omega)], rfl⟩
    · refine wp_aload_n (pc := 12) d_Text_at_12 rfl ?_
      refine wp_getR (pc := 13) d_Text_at_13 rfl ht.1 ht.2.2.1 ?_
      refine wp_iload_n (pc := 16) d_Text_at_16 rfl ?_
      refine wp_iald (pc := 17) d_Text_at_17 ht.2.1 (by omega) (by omega) ?_
      refine wp_goto (tgt := 22) (pc := 18) d_Text_at_18 rfl ?_
      refine wp_ireturn (pc := 22) d_Text_at_22 rfl ?_
      first | exact ⟨by rw [if_pos (by omega)], rfl⟩ | exact ⟨by rw [if_neg (by omega)], rfl⟩
theorem c_Text_append (ht : zTx L t) (h0 : 0 ≤ M t 1) (hl : M t 1 < 24) : Cv L 0 zm_Text_append [rV t, iV x] M (fun M' => M' = zU (zU M (t + 1) (M t 1).toNat x) t 1 (M t 1 + 1)) := by
  show wp L _ zm_Text_append 0 [rV t, iV x] [] M _
  refine wp_aload_n (pc := 0) d_Text_append_0 rfl ?_
  refine wp_getI (pc := 1) d_Text_append_1 rfl (by decide) ht.1 ?_
  refine wp_aload_n (pc := 4) d_Text_append_4 rfl ?_
  refine wp_getR (pc := 5) d_Text_append_5 rfl ht.1 ht.2.2.1 ?_
  refine wp_alen (pc := 8) d_Text_append_8 ht.2.1 (by decide) ?_
  refine wp_icmp_ge (tgt := 32) (pc := 9) d_Text_append_9 rfl (fun c9 => ?_) (fun c9 => ?_)
  · exact absurd c9 (by omega)
  · refine wp_aload_n (pc := 12) d_Text_append_12 rfl ?_
    refine wp_getR (pc := 13) d_Text_append_13 rfl ht.1 ht.2.2.1 ?_
    refine wp_aload_n (pc := 16) d_Text_append_16 rfl ?_
    refine wp_getI (pc := 17) d_Text_append_17 rfl (by decide) ht.1 ?_
    refine wp_iload_n (pc := 20) d_Text_append_20 rfl ?_
    refine wp_iast (pc := 21) d_Text_append_21 ht.2.1 (by have := ht.2.2.2; omega) (by omega) (by omega) ?_
    refine wp_aload_n (pc := 22) d_Text_append_22 rfl ?_
    refine wp_dup (pc := 23) d_Text_append_23 rfl ?_
    refine wp_getI (pc := 24) d_Text_append_24 rfl (by decide) ht.1 ?_
    rw [zU_na (show t ≠ t + 1 by omega)]
    refine wp_iconst (pc := 27) d_Text_append_27 rfl ?_
    refine wp_iadd (pc := 28) d_Text_append_28 (by omega) (by omega) ?_
    refine wp_putI (pc := 29) d_Text_append_29 rfl ht.1 ht.2.2.2 ?_
    refine wp_return_ (pc := 32) d_Text_append_32 rfl ?_
    exact ⟨rfl, rfl⟩
theorem c_Text_clear (ht : zTx L t) : Cv L 0 zm_Text_clear [rV t] M (fun M' => M' = zU M t 1 0) := by
  show wp L _ zm_Text_clear 0 [rV t] [] M _
  refine wp_aload_n (pc := 0) d_Text_clear_0 rfl ?_
  refine wp_iconst (pc := 1) d_Text_clear_1 rfl ?_
  refine wp_putI (pc := 2) d_Text_clear_2 rfl ht.1 ht.2.2.2 ?_
  refine wp_return_ (pc := 5) d_Text_clear_5 rfl ?_
  exact ⟨rfl, rfl⟩
/-- the text at t is a word -/
def zWord (M : zM) (t : Nat) : Prop := 0 < M t 1 ∧ ∀ k : Int, 0 ≤ k → k < M t 1 → 97 ≤ M (t + 1) k.toNat ∧ M (t + 1) k.toNat ≤ 122
theorem lp_Text_isWord (ht : zTx L t) (h0 : 0 ≤ M t 1) (hl : M t 1 ≤ 24) : ∀ (n9 : Nat) (i : Int), M t 1 - i < n9 → 0 ≤ i → i ≤ M t 1 → (∀ k : Int, 0 ≤ k → k < i → 97 ≤ M (t + 1) k.toNat ∧ M (t + 1) k.toNat ≤ 122) → wp L 0 zm_Text_isWord 2 [rV t, iV i] [] M (fun r M' => ∃ x, r = some (iV x) ∧ (M' = M ∧ (x = 0 ∨ x = 1) ∧ (x = 1 ↔ zWord M t))) := by
  intro n9
  induction n9 with
  | zero =>
    intro i  h9 h1 h2 h3
    exact absurd h9 (by omega)
  | succ n9 ih =>
    intro i  h9 h1 h2 h3
    refine wp_iload_n (pc := 2) d_Text_isWord_2 rfl ?_
    refine wp_aload_n (pc := 3) d_Text_isWord_3 rfl ?_
    refine wp_getI (pc := 4) d_Text_isWord_4 rfl (by decide) ht.1 ?_
    refine wp_icmp_ge (tgt := 40) (pc := 7) d_Text_isWord_7 rfl (fun c7 => ?_) (fun c7 => ?_)
    · refine wp_aload_n (pc := 40) d_Text_isWord_40 rfl ?_
      refine wp_getI (pc := 41) d_Text_isWord_41 rfl (by decide) ht.1 ?_
      refine wp_if_le (tgt := 51) (pc := 44) d_Text_isWord_44 rfl (fun c44 => ?_) (fun c44 => ?_)
      · refine wp_iconst (pc := 51) d_Text_isWord_51 rfl ?_
        refine wp_zreturn (pc := 52) d_Text_isWord_52 rfl (by omega) ?_
        first | exact ⟨_, rfl, rfl, Or.inl rfl, fun e => absurd e (by decide), fun e => absurd e.1 (by omega)⟩ | exact ⟨_, rfl, rfl, Or.inr rfl, fun _ => ⟨by omega, fun k k0 k1 => h3 k k0 (by omega)⟩, fun _ => rfl⟩
      · refine wp_iconst (pc := 47) d_Text_isWord_47 rfl ?_
        refine wp_goto (tgt := 52) (pc := 48) d_Text_isWord_48 rfl ?_
        refine wp_zreturn (pc := 52) d_Text_isWord_52 rfl (by omega) ?_
        first | exact ⟨_, rfl, rfl, Or.inl rfl, fun e => absurd e (by decide), fun e => absurd e.1 (by omega)⟩ | exact ⟨_, rfl, rfl, Or.inr rfl, fun _ => ⟨by omega, fun k k0 k1 => h3 k k0 (by omega)⟩, fun _ => rfl⟩
    · refine wp_aload_n (pc := 10) d_Text_isWord_10 rfl ?_
      refine wp_getR (pc := 11) d_Text_isWord_11 rfl ht.1 ht.2.2.1 ?_
      refine wp_iload_n (pc := 14) d_Text_isWord_14 rfl ?_
      refine wp_iald (pc := 15) d_Text_isWord_15 ht.2.1 (by omega) (by omega) ?_
      refine wp_bipush (pc := 16) d_Text_isWord_16 rfl ?_
      refine wp_icmp_lt (tgt := 32) (pc := 18) d_Text_isWord_18 rfl (fun c18 => ?_) (fun c18 => ?_)
      · refine wp_iconst (pc := 32) d_Text_isWord_32 rfl ?_
        refine wp_zreturn (pc := 33) d_Text_isWord_33 rfl (by omega) ?_
        exact ⟨_, rfl, rfl, Or.inl rfl, fun e => absurd e (by decide), fun e => absurd (e.2 i h1 (by omega)) (by omega)⟩
      · refine wp_aload_n (pc := 21) d_Text_isWord_21 rfl ?_
        refine wp_getR (pc := 22) d_Text_isWord_22 rfl ht.1 ht.2.2.1 ?_
        refine wp_iload_n (pc := 25) d_Text_isWord_25 rfl ?_
        refine wp_iald (pc := 26) d_Text_isWord_26 ht.2.1 (by omega) (by omega) ?_
        refine wp_bipush (pc := 27) d_Text_isWord_27 rfl ?_
        refine wp_icmp_le (tgt := 34) (pc := 29) d_Text_isWord_29 rfl (fun c29 => ?_) (fun c29 => ?_)
        · refine wp_iinc1 (pc := 34) d_Text_isWord_34 rfl (by omega) (by omega) ?_
          refine wp_goto (tgt := 2) (pc := 37) d_Text_isWord_37 rfl ?_
          exact ih (i + 1) (by omega) (by omega) (by omega) (fun k k0 k1 => by by_cases e : k = i; (rw [e]; omega); exact h3 k k0 (by omega))
        · refine wp_iconst (pc := 32) d_Text_isWord_32 rfl ?_
          refine wp_zreturn (pc := 33) d_Text_isWord_33 rfl (by omega) ?_
          exact ⟨_, rfl, rfl, Or.inl rfl, fun e => absurd e (by decide), fun e => absurd (e.2 i h1 (by omega)) (by omega)⟩
theorem c_Text_isWord (ht : zTx L t) (h0 : 0 ≤ M t 1) (hl : M t 1 ≤ 24) : Ci L 0 zm_Text_isWord [rV t] M (fun x M' => M' = M ∧ (x = 0 ∨ x = 1) ∧ (x = 1 ↔ zWord M t)) := by
  show wp L _ zm_Text_isWord 0 [rV t, uV] [] M _
  refine wp_iconst (pc := 0) d_Text_isWord_0 rfl ?_
  refine wp_ist1 (pc := 1) d_Text_isWord_1 rfl ?_
  exact lp_Text_isWord ht h0 hl 100 0 (by omega) (by omega) (by omega) (fun k k0 k1 => absurd k1 (by omega))
theorem lp_Text_takeFrom {M0 : zM} (ht : zTx L t) (hs : zTx L s) (n1 : s ≠ t) (n2 : s ≠ t + 1) (n3 : s + 1 ≠ t) (h0 : 0 ≤ M0 s 1) (hl : M0 s 1 ≤ 24) : ∀ (n9 : Nat) (i : Int) (M : zM), M0 s 1 - i < n9 → 0 ≤ i → i ≤ M0 s 1 → zSm (fun a => a = t ∨ a = t + 1) M0 M → M t 1 = i → (∀ k : Int, 0 ≤ k → k < i → M (t + 1) k.toNat = M0 (s + 1) k.toNat) → wp L 1 zm_Text_takeFrom 7 [rV t, rV s, iV i] [] M (fun r M' => r = none ∧ (zSm (fun a => a = t ∨ a = t + 1) M0 M' ∧ M' t 1 = M0 s 1 ∧ ∀ k : Int, 0 ≤ k → k < M0 s 1 → M' (t + 1) k.toNat = M0 (s + 1) k.toNat)) := by
  intro n9
  induction n9 with
  | zero =>
    intro i  M  h9 h1 h2 h3 h4 h5
    exact absurd h9 (by omega)
  | succ n9 ih =>
    intro i  M  h9 h1 h2 h3 h4 h5
    have es : M s 1 = M0 s 1 := h3 s (by omega) 1
    have ec : ∀ k, M (s + 1) k = M0 (s + 1) k := fun k => h3 (s + 1) (by omega) k
    refine wp_iload_n (pc := 7) d_Text_takeFrom_7 rfl ?_
    refine wp_aload_n (pc := 8) d_Text_takeFrom_8 rfl ?_
    refine wp_callV0f (pc := 9) d_Text_takeFrom_9 rfl rfl hs.1 rfl rfl (c_Text_size hs) ?_
    refine wp_icmp_ge (tgt := 30) (pc := 12) d_Text_takeFrom_12 rfl (fun c12 => ?_) (fun c12 => ?_)
    · refine wp_return_ (pc := 30) d_Text_takeFrom_30 rfl ?_
      exact ⟨rfl, h3, by omega, fun k k0 k1 => h5 k k0 (by omega)⟩
    · refine wp_aload_n (pc := 15) d_Text_takeFrom_15 rfl ?_
      refine wp_aload_n (pc := 16) d_Text_takeFrom_16 rfl ?_
      refine wp_iload_n (pc := 17) d_Text_takeFrom_17 rfl ?_
      refine wp_callV1f (pc := 18) d_Text_takeFrom_18 rfl rfl hs.1 rfl rfl (c_Text_at hs (by omega)) ?_
      rw [if_pos (by omega), ec]
      refine wp_callV1v (pc := 21) d_Text_takeFrom_21 rfl rfl ht.1 rfl rfl (c_Text_append ht (by omega) (by omega)) (fun M21 h21 => ?_)
      subst h21
      refine wp_iinc2 (pc := 24) d_Text_takeFrom_24 rfl (by omega) (by omega) ?_
      refine wp_goto (tgt := 7) (pc := 27) d_Text_takeFrom_27 rfl ?_
      refine ih (i + 1) _ (by omega) (by omega) (by omega) (fun a ha k => ?_) ?_ (fun k k0 k1 => ?_)
      · rw [zU_na (by omega), zU_na (by omega)]; exact h3 a ha k
      · rw [zU_eq]; omega
      · rw [zU_na (by omega)]
        by_cases e : k = i
        · rw [e, h4, zU_eq]
        · rw [zU_nk (by omega)]; exact h5 k k0 (by omega)
theorem c_Text_takeFrom (ht : zTx L t) (hs : zTx L s) (n1 : s ≠ t) (n2 : s ≠ t + 1) (n3 : s + 1 ≠ t) (h0 : 0 ≤ M s 1) (hl : M s 1 ≤ 24) : Cv L 1 zm_Text_takeFrom [rV t, rV s] M (fun M' => zSm (fun a => a = t ∨ a = t + 1) M M' ∧ M' t 1 = M s 1 ∧ ∀ k : Int, 0 ≤ k → k < M s 1 → M' (t + 1) k.toNat = M (s + 1) k.toNat) := by
  show wp L _ zm_Text_takeFrom 0 [rV t, rV s, uV] [] M _
  refine wp_aload_n (pc := 0) d_Text_takeFrom_0 rfl ?_
  refine wp_iconst (pc := 1) d_Text_takeFrom_1 rfl ?_
  refine wp_putI (pc := 2) d_Text_takeFrom_2 rfl ht.1 ht.2.2.2 ?_
  refine wp_iconst (pc := 5) d_Text_takeFrom_5 rfl ?_
  refine wp_ist2 (pc := 6) d_Text_takeFrom_6 rfl ?_
  exact lp_Text_takeFrom (M0 := M) ht hs n1 n2 n3 h0 hl 100 0 _ (by omega) (by omega) (by omega) (fun a ha k => zU_na (by omega)) zU_eq (fun k k0 k1 => absurd k1 (by omega))
end ZT
