/-! Alignment: steps, tallies, known, found; its two rows behind it -/
def zAn (L t : Nat) : Prop := zkd L t = some (1, 4) ∧ zkd L (t + 1) = some (20, 48) ∧ zkd L (t + 2) = some (20, 7) ∧ zK0 t 0 = ((t + 1 : Nat) : Int) ∧ zK0 t 1 = ((t + 2 : Nat) : Int) ∧ 4 ≤ t
theorem zAn_i (L : Nat) : ∀ i, i < 36 → zAn L (24 + 3 * i) := by
  intro i h
  have h1 : ∀ i, i < 36 → (zsh (20, 0))[24 + 3 * i]? = some (1, 4) ∧ (zsh (20, 0))[24 + 3 * i + 1]? = some (20, 48) ∧ (zsh (20, 0))[24 + 3 * i + 2]? = some (20, 7) ∧ zK0 (24 + 3 * i) 0 = ((24 + 3 * i + 1 : Nat) : Int) ∧ zK0 (24 + 3 * i) 1 = ((24 + 3 * i + 2 : Nat) : Int) := by decide +kernel
  obtain ⟨a1, a2, a3, a4, a5⟩ := h1 i h
  refine ⟨?_, ?_, ?_, a4, a5, by omega⟩
  · rw [← a1]; exact (zsh_ne (by omega)).trans (zsh_ne (c := (20, 0)) (by omega)).symm
  · rw [← a2]; exact (zsh_ne (by omega)).trans (zsh_ne (c := (20, 0)) (by omega)).symm
  · rw [← a3]; exact (zsh_ne (by omega)).trans (zsh_ne (c := (20, 0)) (by omega)).symm
/-- the static tables -/
def zSt (M : zM) : Prop := ∀ a, a < 3 → ∀ k, M a k = zMs a k
theorem zSt.keep {S : Nat → Prop} {M M' : zM} (h : zSt M) (hs : zSm S M M') (h3 : ∀ a, S a → 3 ≤ a) : zSt M' := fun a ha k => by
  rw [hs a (fun z => by have := h3 a z; omega) k]; exact h a ha k
theorem zSm.rf {S : Nat → Prop} {M : zM} : zSm S M M := fun _ _ _ => rfl
theorem zSm.tr {S : Nat → Prop} {M M1 M2 : zM} (h1 : zSm S M M1) (h2 : zSm S M1 M2) : zSm S M M2 := fun a ha k => (h2 a ha k).trans (h1 a ha k)
theorem zSm.up {S S' : Nat → Prop} {M M1 : zM} (h1 : zSm S M M1) (h : ∀ a, S a → S' a) : zSm S' M M1 := fun a ha k => h1 a (fun z => ha (h a z)) k
theorem zSm.u {S : Nat → Prop} {M M1 : zM} {a k : Nat} {v : Int} (h1 : zSm S M M1) (h : S a) : zSm S M (zU M1 a k v) := fun b hb j => by
  rw [zU_na (fun e => hb (by rw [e]; exact h))]; exact h1 b hb j
section ZAn
variable {L t : Nat} {M : zM} {i x : Int}
theorem c_An_isKnown (ht : zAn L t) (h2 : M t 2 = 0 ∨ M t 2 = 1) : Cf L 0 zm_Alignment_isKnown [rV t] M (iV (M t 2)) M := by
  show wp L _ zm_Alignment_isKnown 0 [rV t] [] M _
  refine wp_aload_n (pc := 0) d_Alignment_isKnown_0 rfl ?_
  refine wp_getI (pc := 1) d_Alignment_isKnown_1 rfl (by decide) ht.1 ?_
  refine wp_zreturn (pc := 4) d_Alignment_isKnown_4 rfl (by omega) ?_
  exact ⟨rfl, rfl⟩
theorem c_An_isFound (ht : zAn L t) (h3 : M t 3 = 0 ∨ M t 3 = 1) : Cf L 0 zm_Alignment_isFound [rV t] M (iV (M t 3)) M := by
  show wp L _ zm_Alignment_isFound 0 [rV t] [] M _
  refine wp_aload_n (pc := 0) d_Alignment_isFound_0 rfl ?_
  refine wp_getI (pc := 1) d_Alignment_isFound_1 rfl (by decide) ht.1 ?_
  refine wp_zreturn (pc := 4) d_Alignment_isFound_4 rfl (by omega) ?_
  exact ⟨rfl, rfl⟩
theorem c_An_forget (ht : zAn L t) : Cv L 0 zm_Alignment_forget [rV t] M (fun M' => M' = zU M t 2 0) := by
  show wp L _ zm_Alignment_forget 0 [rV t] [] M _
  refine wp_aload_n (pc := 0) d_Alignment_forget_0 rfl ?_
  refine wp_iconst (pc := 1) d_Alignment_forget_1 rfl ?_
  refine wp_putZ (pc := 2) d_Alignment_forget_2 rfl ht.1 ht.2.2.2.2.2 (by omega) ?_
  refine wp_return_ (pc := 5) d_Alignment_forget_5 rfl ?_
  exact ⟨rfl, rfl⟩
theorem c_An_tally (ht : zAn L t) : Cf L 0 zm_Alignment_tally [rV t, iV i] M (iV (if 0 ≤ i ∧ i < 7 then M (t + 2) i.toNat else -1)) M := by
  show wp L _ zm_Alignment_tally 0 [rV t, iV i] [] M _
  refine wp_iload_n (pc := 0) d_Alignment_tally_0 rfl ?_
  refine wp_if_lt (tgt := 22) (pc := 1) d_Alignment_tally_1 rfl (fun c1 => ?_) (fun c1 => ?_)
  · refine wp_iconst (pc := 22) d_Alignment_tally_22 rfl ?_
    refine wp_ireturn (pc := 23) d_Alignment_tally_23 rfl ?_
    first | exact ⟨by rw [if_pos (by omega)], rfl⟩ | exact ⟨by rw [if_neg (by omega)], rfl⟩
  · refine wp_iload_n (pc := 4) d_Alignment_tally_4 rfl ?_
    refine wp_aload_n (pc := 5) d_Alignment_tally_5 rfl ?_
    refine wp_getR (pc := 6) d_Alignment_tally_6 rfl ht.1 ht.2.2.2.2.1 ?_
    refine wp_alen (pc := 9) d_Alignment_tally_9 ht.2.2.1 (by decide) ?_
    refine wp_icmp_ge (tgt := 22) (pc := 10) d_Alignment_tally_10 rfl (fun c10 => ?_) (fun c10 => ?_)
    · refine wp_iconst (pc := 22) d_Alignment_tally_22 rfl ?_
      refine wp_ireturn (pc := 23) d_Alignment_tally_23 rfl ?_
      first | exact ⟨by rw [if_pos (by omega)], rfl⟩ | exact ⟨by rw [if_neg (by omega)], rfl⟩
    · refine wp_aload_n (pc := 13) d_Alignment_tally_13 rfl ?_
      refine wp_getR (pc := 14) d_Alignment_tally_14 rfl ht.1 ht.2.2.2.2.1 ?_
      refine wp_iload_n (pc := 17) d_Alignment_tally_17 rfl ?_
      refine wp_iald (pc := 18) d_Alignment_tally_18 ht.2.2.1 (by omega) (by omega) ?_
      refine wp_goto (tgt := 23) (pc := 19) d_Alignment_tally_19 rfl ?_
      refine wp_ireturn (pc := 23) d_Alignment_tally_23 rfl ?_
      first | exact ⟨by rw [if_pos (by omega)], rfl⟩ | exact ⟨by rw [if_neg (by omega)], rfl⟩
theorem c_An_length (ht : zAn L t) : Cf L 0 zm_Alignment_length [rV t] M (iV (if M t 3 = 0 then 0 else M (t + 2) 1)) M := by
  show wp L _ zm_Alignment_length 0 [rV t] [] M _
  refine wp_aload_n (pc := 0) d_Alignment_length_0 rfl ?_
  refine wp_getI (pc := 1) d_Alignment_length_1 rfl (by decide) ht.1 ?_
  refine wp_if_eq (tgt := 16) (pc := 4) d_Alignment_length_4 rfl (fun c4 => ?_) (fun c4 => ?_)
  · refine wp_iconst (pc := 16) d_Alignment_length_16 rfl ?_
    refine wp_ireturn (pc := 17) d_Alignment_length_17 rfl ?_
    first | exact ⟨by rw [if_pos (by omega)], rfl⟩ | exact ⟨by rw [if_neg (by omega)], rfl⟩
  · refine wp_aload_n (pc := 7) d_Alignment_length_7 rfl ?_
    refine wp_getR (pc := 8) d_Alignment_length_8 rfl ht.1 ht.2.2.2.2.1 ?_
    refine wp_iconst (pc := 11) d_Alignment_length_11 rfl ?_
    refine wp_ialdc 1 (pc := 12) d_Alignment_length_12 ht.2.2.1 rfl rfl ?_
    refine wp_goto (tgt := 17) (pc := 13) d_Alignment_length_13 rfl ?_
    refine wp_ireturn (pc := 17) d_Alignment_length_17 rfl ?_
    first | exact ⟨by rw [if_pos (by omega)], rfl⟩ | exact ⟨by rw [if_neg (by omega)], rfl⟩
theorem c_An_hasStep (ht : zAn L t) : Cf L 1 zm_Alignment_hasStep [rV t, iV i] M (iV (if 0 ≤ i ∧ i < (if M t 3 = 0 then 0 else M (t + 2) 1) then 1 else 0)) M := by
  show wp L _ zm_Alignment_hasStep 0 [rV t, iV i] [] M _
  refine wp_iload_n (pc := 0) d_Alignment_hasStep_0 rfl ?_
  refine wp_if_lt (tgt := 16) (pc := 1) d_Alignment_hasStep_1 rfl (fun c1 => ?_) (fun c1 => ?_)
  · refine wp_iconst (pc := 16) d_Alignment_hasStep_16 rfl ?_
    refine wp_zreturn (pc := 17) d_Alignment_hasStep_17 rfl (by omega) ?_
    first | exact ⟨by rw [if_pos (by omega)], rfl⟩ | exact ⟨by rw [if_neg (by omega)], rfl⟩
  · refine wp_iload_n (pc := 4) d_Alignment_hasStep_4 rfl ?_
    refine wp_aload_n (pc := 5) d_Alignment_hasStep_5 rfl ?_
    refine wp_callV0f (pc := 6) d_Alignment_hasStep_6 rfl rfl ht.1 rfl rfl (c_An_length ht) ?_
    refine wp_icmp_ge (tgt := 16) (pc := 9) d_Alignment_hasStep_9 rfl (fun c9 => ?_) (fun c9 => ?_)
    · refine wp_iconst (pc := 16) d_Alignment_hasStep_16 rfl ?_
      refine wp_zreturn (pc := 17) d_Alignment_hasStep_17 rfl (by omega) ?_
      first | exact ⟨by rw [if_pos (by omega)], rfl⟩ | exact ⟨by rw [if_neg (by omega)], rfl⟩
    · refine wp_iconst (pc := 12) d_Alignment_hasStep_12 rfl ?_
      refine wp_goto (tgt := 17) (pc := 13) d_Alignment_hasStep_13 rfl ?_
      refine wp_zreturn (pc := 17) d_Alignment_hasStep_17 rfl (by omega) ?_
      first | exact ⟨by rw [if_pos (by omega)], rfl⟩ | exact ⟨by rw [if_neg (by omega)], rfl⟩
theorem c_An_stepAt (ht : zAn L t) (hl : M (t + 2) 1 ≤ 48) : Cf L 2 zm_Alignment_stepAt [rV t, iV i] M (iV (if 0 ≤ i ∧ i < (if M t 3 = 0 then 0 else M (t + 2) 1) then M (t + 1) i.toNat else -1)) M := by
  show wp L _ zm_Alignment_stepAt 0 [rV t, iV i] [] M _
  refine wp_aload_n (pc := 0) d_Alignment_stepAt_0 rfl ?_
  refine wp_iload_n (pc := 1) d_Alignment_stepAt_1 rfl ?_
  refine wp_callV1f (pc := 2) d_Alignment_stepAt_2 rfl rfl ht.1 rfl rfl (c_An_hasStep ht) ?_
  refine wp_if_eq (tgt := 17) (pc := 5) d_Alignment_stepAt_5 rfl (fun c5 => ?_) (fun c5 => ?_)
  · have c5 := zb_eq0 c5
    refine wp_iconst (pc := 17) d_Alignment_stepAt_17 rfl ?_
    refine wp_ireturn (pc := 18) d_Alignment_stepAt_18 rfl ?_
    first | exact ⟨by rw [if_pos c5], rfl⟩ | exact ⟨by rw [if_neg c5], rfl⟩
  · have c5 := zb_ne0 c5
    have c6 : i < 48 := by
      obtain ⟨_, c6⟩ := c5
      split at c6 <;> omega
    refine wp_aload_n (pc := 8) d_Alignment_stepAt_8 rfl ?_
    refine wp_getR (pc := 9) d_Alignment_stepAt_9 rfl ht.1 ht.2.2.2.1 ?_
    refine wp_iload_n (pc := 12) d_Alignment_stepAt_12 rfl ?_
    refine wp_iald (pc := 13) d_Alignment_stepAt_13 ht.2.1 (by omega) (by omega) ?_
    refine wp_goto (tgt := 18) (pc := 14) d_Alignment_stepAt_14 rfl ?_
    refine wp_ireturn (pc := 18) d_Alignment_stepAt_18 rfl ?_
    first | exact ⟨by rw [if_pos c5], rfl⟩ | exact ⟨by rw [if_neg c5], rfl⟩
theorem lp_An_begin {M0 : zM} (ht : zAn L t) (hx : x = 0 ∨ x = 1) : ∀ (n9 : Nat) (i : Int) (M : zM), 7 - i < n9 → 0 ≤ i → i ≤ 7 → zSm (fun a => a = t ∨ a = t + 2) M0 M → M t 2 = 1 → M t 3 = x → (∀ k : Nat, (k : Int) < i → M (t + 2) k = if x = 0 then -1 else 0) → wp L 0 zm_Alignment_begin 12 [rV t, iV x, iV i] [] M (fun r M' => r = none ∧ (zSm (fun a => a = t ∨ a = t + 2) M0 M' ∧ M' t 2 = 1 ∧ M' t 3 = x ∧ ∀ k, k < 7 → M' (t + 2) k = if x = 0 then -1 else 0)) := by
  intro n9
  induction n9 with
  | zero =>
    intro i  M  h9 h1 h2 h3 h4 h5 h6
    exact absurd h9 (by omega)
  | succ n9 ih =>
    intro i  M  h9 h1 h2 h3 h4 h5 h6
    refine wp_iload_n (pc := 12) d_Alignment_begin_12 rfl ?_
    refine wp_aload_n (pc := 13) d_Alignment_begin_13 rfl ?_
    refine wp_getR (pc := 14) d_Alignment_begin_14 rfl ht.1 ht.2.2.2.2.1 ?_
    refine wp_alen (pc := 17) d_Alignment_begin_17 ht.2.2.1 (by decide) ?_
    refine wp_icmp_ge (tgt := 42) (pc := 18) d_Alignment_begin_18 rfl (fun c18 => ?_) (fun c18 => ?_)
    · refine wp_return_ (pc := 42) d_Alignment_begin_42 rfl ?_
      exact ⟨rfl, h3, h4, h5, fun k hk => h6 k (by omega)⟩
    · refine wp_aload_n (pc := 21) d_Alignment_begin_21 rfl ?_
      refine wp_getR (pc := 22) d_Alignment_begin_22 rfl ht.1 ht.2.2.2.2.1 ?_
      refine wp_iload_n (pc := 25) d_Alignment_begin_25 rfl ?_
      refine wp_iload_n (pc := 26) d_Alignment_begin_26 rfl ?_
      refine wp_if_eq (tgt := 34) (pc := 27) d_Alignment_begin_27 rfl (fun c27 => ?_) (fun c27 => ?_)
      · refine wp_iconst (pc := 34) d_Alignment_begin_34 rfl ?_
        refine wp_iast (pc := 35) d_Alignment_begin_35 ht.2.2.1 (by have := ht.2.2.2.2.2; omega) (by omega) (by omega) ?_
        refine wp_iinc2 (pc := 36) d_Alignment_begin_36 rfl (by omega) (by omega) ?_
        refine wp_goto (tgt := 12) (pc := 39) d_Alignment_begin_39 rfl ?_
        refine ih (i + 1) _ (by omega) (by omega) (by omega) (h3.u (Or.inr rfl)) ?_ ?_ (fun k hk => ?_)
        · rw [zU_na (by omega)]; exact h4
        · rw [zU_na (by omega)]; exact h5
        · by_cases e : k = i.toNat
          · rw [e, zU_eq]; first | rw [if_pos c27] | rw [if_neg c27]
          · rw [zU_nk e]; exact h6 k (by omega)
      · refine wp_iconst (pc := 30) d_Alignment_begin_30 rfl ?_
        refine wp_goto (tgt := 35) (pc := 31) d_Alignment_begin_31 rfl ?_
        refine wp_iast (pc := 35) d_Alignment_begin_35 ht.2.2.1 (by have := ht.2.2.2.2.2; omega) (by omega) (by omega) ?_
        refine wp_iinc2 (pc := 36) d_Alignment_begin_36 rfl (by omega) (by omega) ?_
        refine wp_goto (tgt := 12) (pc := 39) d_Alignment_begin_39 rfl ?_
        refine ih (i + 1) _ (by omega) (by omega) (by omega) (h3.u (Or.inr rfl)) ?_ ?_ (fun k hk => ?_)
        · rw [zU_na (by omega)]; exact h4
        · rw [zU_na (by omega)]; exact h5
        · by_cases e : k = i.toNat
          · rw [e, zU_eq]; first | rw [if_pos c27] | rw [if_neg c27]
          · rw [zU_nk e]; exact h6 k (by omega)
theorem c_An_begin (ht : zAn L t) (hx : x = 0 ∨ x = 1) : Cv L 0 zm_Alignment_begin [rV t, iV x] M (fun M' => zSm (fun a => a = t ∨ a = t + 2) M M' ∧ M' t 2 = 1 ∧ M' t 3 = x ∧ ∀ k, k < 7 → M' (t + 2) k = if x = 0 then -1 else 0) := by
  show wp L _ zm_Alignment_begin 0 [rV t, iV x, uV] [] M _
  refine wp_aload_n (pc := 0) d_Alignment_begin_0 rfl ?_
  refine wp_iconst (pc := 1) d_Alignment_begin_1 rfl ?_
  refine wp_putZ (pc := 2) d_Alignment_begin_2 rfl ht.1 ht.2.2.2.2.2 (by omega) ?_
  refine wp_aload_n (pc := 5) d_Alignment_begin_5 rfl ?_
  refine wp_iload_n (pc := 6) d_Alignment_begin_6 rfl ?_
  refine wp_putZ (pc := 7) d_Alignment_begin_7 rfl ht.1 ht.2.2.2.2.2 (by omega) ?_
  refine wp_iconst (pc := 10) d_Alignment_begin_10 rfl ?_
  refine wp_ist2 (pc := 11) d_Alignment_begin_11 rfl ?_
  exact lp_An_begin (M0 := M) ht hx 100 0 _ (by omega) (by omega) (by omega) ((zSm.rf.u (Or.inl rfl)).u (Or.inl rfl)) (by rw [zU_nk (by decide), zU_eq]) zU_eq (fun k hk => absurd hk (by omega))
def zKs (x : Int) : Int := if x = 5 then 1 else if x = 6 then 2 else 0
def zKc (x : Int) : Int := if x = 3 then 1 else if x = 4 then 3 else if x = 5 then 2 else if x = 6 then 2 else 0
theorem zSt_1 (hs : zSt M) (h2 : 2 ≤ x) (h6 : x ≤ 6) : M 1 x.toNat = zKc x := by
  rw [hs 1 (by decide)]
  rcases (show x = 2 ∨ x = 3 ∨ x = 4 ∨ x = 5 ∨ x = 6 by omega) with rfl | rfl | rfl | rfl | rfl <;> rfl
theorem zSt_2 (hs : zSt M) (h2 : 2 ≤ x) (h6 : x ≤ 6) : M 2 x.toNat = zKs x := by
  rw [hs 2 (by decide)]
  rcases (show x = 2 ∨ x = 3 ∨ x = 4 ∨ x = 5 ∨ x = 6 by omega) with rfl | rfl | rfl | rfl | rfl <;> rfl
theorem c_An_add (ht : zAn L t) (hs : zSt M) (hf : M t 3 = 1) (h0 : 0 ≤ M (t + 2) 1) (hl : M (t + 2) 1 < 48) (h2 : 2 ≤ x) (h6 : x ≤ 6) (hb : ∀ k, k < 7 → -1 ≤ M (t + 2) k ∧ M (t + 2) k ≤ 1000) : Cv L 0 zm_Alignment_add [rV t, iV x] M (fun M' => zSm (fun a => a = t + 1 ∨ a = t + 2) M M' ∧ M' (t + 1) (M (t + 2) 1).toNat = zKs x ∧ (∀ k, k ≠ (M (t + 2) 1).toNat → M' (t + 1) k = M (t + 1) k) ∧ M' (t + 2) 1 = M (t + 2) 1 + 1 ∧ M' (t + 2) x.toNat = M (t + 2) x.toNat + 1 ∧ M' (t + 2) 0 = M (t + 2) 0 + zKc x ∧ ∀ k, k ≠ 0 → k ≠ 1 → k ≠ x.toNat → M' (t + 2) k = M (t + 2) k) := by
  show wp L _ zm_Alignment_add 0 [rV t, iV x, uV] [] M _
  have ht4 := ht.2.2.2.2.2
  have e1 := zSt_1 hs h2 h6
  have e2 := zSt_2 hs h2 h6
  have b1 := hb 1 (by decide)
  have bx := hb x.toNat (by omega)
  have b0 := hb 0 (by decide)
  have hx0 : x.toNat ≠ 0 := by omega
  have hx1 : x.toNat ≠ 1 := by omega
  have ec : 0 ≤ zKc x ∧ zKc x ≤ 3 := by unfold zKc; split; omega; split; omega; split; omega; split <;> omega
  refine wp_aload_n (pc := 0) d_Alignment_add_0 rfl ?_
  refine wp_getR (pc := 1) d_Alignment_add_1 rfl ht.1 ht.2.2.2.2.1 ?_
  refine wp_iconst (pc := 4) d_Alignment_add_4 rfl ?_
  refine wp_ialdc 1 (pc := 5) d_Alignment_add_5 ht.2.2.1 rfl rfl ?_
  refine wp_ist2 (pc := 6) d_Alignment_add_6 rfl ?_
  refine wp_aload_n (pc := 7) d_Alignment_add_7 rfl ?_
  refine wp_getI (pc := 8) d_Alignment_add_8 rfl (by decide) ht.1 ?_
  refine wp_if_eq (tgt := 38) (pc := 11) d_Alignment_add_11 rfl (fun c11 => ?_) (fun c11 => ?_)
  · exact absurd c11 (by omega)
  · refine wp_iload_n (pc := 14) d_Alignment_add_14 rfl ?_
    refine wp_if_lt (tgt := 38) (pc := 15) d_Alignment_add_15 rfl (fun c15 => ?_) (fun c15 => ?_)
    · exact absurd c15 (by omega)
    · refine wp_iload_n (pc := 18) d_Alignment_add_18 rfl ?_
      refine wp_aload_n (pc := 19) d_Alignment_add_19 rfl ?_
      refine wp_getR (pc := 20) d_Alignment_add_20 rfl ht.1 ht.2.2.2.1 ?_
      refine wp_alen (pc := 23) d_Alignment_add_23 ht.2.1 (by decide) ?_
      refine wp_icmp_ge (tgt := 38) (pc := 24) d_Alignment_add_24 rfl (fun c24 => ?_) (fun c24 => ?_)
      · exact absurd c24 (by omega)
      · refine wp_iload_n (pc := 27) d_Alignment_add_27 rfl ?_
        refine wp_iconst (pc := 28) d_Alignment_add_28 rfl ?_
        refine wp_icmp_lt (tgt := 38) (pc := 29) d_Alignment_add_29 rfl (fun c29 => ?_) (fun c29 => ?_)
        · exact absurd c29 (by omega)
        · refine wp_iload_n (pc := 32) d_Alignment_add_32 rfl ?_
          refine wp_bipush (pc := 33) d_Alignment_add_33 rfl ?_
          refine wp_icmp_le (tgt := 39) (pc := 35) d_Alignment_add_35 rfl (fun c35 => ?_) (fun c35 => ?_)
          · refine wp_aload_n (pc := 39) d_Alignment_add_39 rfl ?_
            refine wp_getR (pc := 40) d_Alignment_add_40 rfl ht.1 ht.2.2.2.1 ?_
            refine wp_iload_n (pc := 43) d_Alignment_add_43 rfl ?_
            refine wp_getS (pc := 44) d_Alignment_add_44 rfl ?_
            refine wp_iload_n (pc := 47) d_Alignment_add_47 rfl ?_
            refine wp_iald (pc := 48) d_Alignment_add_48 (zk_2 L) (by omega) (by omega) ?_
            rw [e2]
            refine wp_iast (pc := 49) d_Alignment_add_49 ht.2.1 (by have := ht.2.2.2.2.2; omega) (by omega) (by omega) ?_
            refine wp_aload_n (pc := 50) d_Alignment_add_50 rfl ?_
            refine wp_getR (pc := 51) d_Alignment_add_51 rfl ht.1 ht.2.2.2.2.1 ?_
            refine wp_iconst (pc := 54) d_Alignment_add_54 rfl ?_
            refine wp_dup2 (pc := 55) d_Alignment_add_55 rfl rfl ?_
            refine wp_ialdc 1 (pc := 56) d_Alignment_add_56 ht.2.2.1 rfl rfl ?_
            rw [zU_na (by omega)]
            refine wp_iconst (pc := 57) d_Alignment_add_57 rfl ?_
            refine wp_iadd (pc := 58) d_Alignment_add_58 (by omega) (by omega) ?_
            refine wp_iastc 1 (pc := 59) d_Alignment_add_59 ht.2.2.1 (by have := ht.2.2.2.2.2; omega) rfl rfl ?_
            refine wp_aload_n (pc := 60) d_Alignment_add_60 rfl ?_
            refine wp_getR (pc := 61) d_Alignment_add_61 rfl ht.1 ht.2.2.2.2.1 ?_
            refine wp_iload_n (pc := 64) d_Alignment_add_64 rfl ?_
            refine wp_dup2 (pc := 65) d_Alignment_add_65 rfl rfl ?_
            refine wp_iald (pc := 66) d_Alignment_add_66 ht.2.2.1 (by omega) (by omega) ?_
            rw [zU_nk hx1, zU_na (by omega)]
            refine wp_iconst (pc := 67) d_Alignment_add_67 rfl ?_
            refine wp_iadd (pc := 68) d_Alignment_add_68 (by omega) (by omega) ?_
            refine wp_iast (pc := 69) d_Alignment_add_69 ht.2.2.1 (by have := ht.2.2.2.2.2; omega) (by omega) (by omega) ?_
            refine wp_aload_n (pc := 70) d_Alignment_add_70 rfl ?_
            refine wp_getR (pc := 71) d_Alignment_add_71 rfl ht.1 ht.2.2.2.2.1 ?_
            refine wp_iconst (pc := 74) d_Alignment_add_74 rfl ?_
            refine wp_dup2 (pc := 75) d_Alignment_add_75 rfl rfl ?_
            refine wp_ialdc 0 (pc := 76) d_Alignment_add_76 ht.2.2.1 rfl rfl ?_
            rw [zU_nk (fun e => hx0 e.symm), zU_nk (by decide), zU_na (by omega)]
            refine wp_getS (pc := 77) d_Alignment_add_77 rfl ?_
            refine wp_iload_n (pc := 80) d_Alignment_add_80 rfl ?_
            refine wp_iald (pc := 81) d_Alignment_add_81 (zk_1 L) (by omega) (by omega) ?_
            rw [zU_na (show 1 ≠ t + 2 by omega), zU_na (show 1 ≠ t + 2 by omega), zU_na (show 1 ≠ t + 1 by omega), e1]
            refine wp_iadd (pc := 82) d_Alignment_add_82 (by omega) (by omega) ?_
            refine wp_iastc 0 (pc := 83) d_Alignment_add_83 ht.2.2.1 (by have := ht.2.2.2.2.2; omega) rfl rfl ?_
            refine wp_return_ (pc := 84) d_Alignment_add_84 rfl ?_
            refine ⟨rfl, (((zSm.rf.u (Or.inl rfl)).u (Or.inr rfl)).u (Or.inr rfl)).u (Or.inr rfl), ?_, fun k hk => ?_, ?_, ?_, zU_eq, fun k k0 k1 k2 => ?_⟩
            · rw [zU_na (by omega), zU_na (by omega), zU_na (by omega), zU_eq]
            · rw [zU_na (by omega), zU_na (by omega), zU_na (by omega), zU_nk hk]
            · rw [zU_nk (by decide), zU_nk (fun e => hx1 e.symm)]; exact zU_eq
            · rw [zU_nk hx0]; exact zU_eq
            · rw [zU_nk k0, zU_nk k2, zU_nk k1, zU_na (by omega)]
          · exact absurd c35 (by omega)
end ZAn
