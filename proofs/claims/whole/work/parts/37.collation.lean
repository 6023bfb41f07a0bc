/-! Collation, on; calls that give a reference -/
section ZCo3
variable {L g : Nat} {M : zM} {i x y b v : Int}
def Cr (L d : Nat) (m : zD) (as : List zV) (M : zM) (a : Nat) (P : zM → Prop) : Prop := wpc L d m as M (fun r M' => r = some (rV a) ∧ P M')
theorem wp_callV0r {L d pc : Nat} {m : zD} {ls : List zV} {M : zM} {Q : Option zV → zM → Prop} {k a sz d' a' : Nat} {m' : zD} {rest : List zV} {P : zM → Prop} (hd : decode m.2.2.1 pc = .ok (.invokevirtual k, 3)) (hf : zCall m.1 k = some (0, 0, m')) (hcs : decide (zCs rest ≤ 8) = true) (hk : zkd L a = some (m'.1, sz)) (hsl : decide ((zSl [rV a]).length ≤ m'.2.2.2.1) = true) (hle : decide (d' + 1 ≤ d) = true) (hc : Cr L d' m' [rV a] M a' P) (h : ∀ M', P M' → wp L d m (pc + 3) ls (rV a' :: rest) M' Q) : wp L d m pc ls (rV a :: rest) M Q :=
  wp_callV (as := []) hd hf ⟨rfl, rfl⟩ hcs hk hsl hle hc (fun r M' hp => by obtain ⟨rfl, hp⟩ := hp; exact h M' hp)
theorem wp_callV1r {L d pc : Nat} {m : zD} {ls : List zV} {M : zM} {Q : Option zV → zM → Prop} {k a sz d' a' : Nat} {m' : zD} {rest : List zV} {y1 : zV} {P : zM → Prop} (hd : decode m.2.2.1 pc = .ok (.invokevirtual k, 3)) (hf : zCall m.1 k = some (0, 1, m')) (hcs : decide (zCs rest ≤ 8) = true) (hk : zkd L a = some (m'.1, sz)) (hsl : decide ((zSl [rV a, y1]).length ≤ m'.2.2.2.1) = true) (hle : decide (d' + 1 ≤ d) = true) (hc : Cr L d' m' [rV a, y1] M a' P) (h : ∀ M', P M' → wp L d m (pc + 3) ls (rV a' :: rest) M' Q) : wp L d m pc ls (y1 :: rV a :: rest) M Q :=
  wp_callV (as := [y1]) hd hf ⟨rfl, rfl⟩ hcs hk hsl hle hc (fun r M' hp => by obtain ⟨rfl, hp⟩ := hp; exact h M' hp)
theorem wp_callV2r {L d pc : Nat} {m : zD} {ls : List zV} {M : zM} {Q : Option zV → zM → Prop} {k a sz d' a' : Nat} {m' : zD} {rest : List zV} {y1 y2 : zV} {P : zM → Prop} (hd : decode m.2.2.1 pc = .ok (.invokevirtual k, 3)) (hf : zCall m.1 k = some (0, 2, m')) (hcs : decide (zCs rest ≤ 8) = true) (hk : zkd L a = some (m'.1, sz)) (hsl : decide ((zSl [rV a, y1, y2]).length ≤ m'.2.2.2.1) = true) (hle : decide (d' + 1 ≤ d) = true) (hc : Cr L d' m' [rV a, y1, y2] M a' P) (h : ∀ M', P M' → wp L d m (pc + 3) ls (rV a' :: rest) M' Q) : wp L d m pc ls (y2 :: y1 :: rV a :: rest) M Q :=
  wp_callV (as := [y2, y1]) hd hf ⟨rfl, rfl⟩ hcs hk hsl hle hc (fun r M' hp => by obtain ⟨rfl, hp⟩ := hp; exact h M' hp)
theorem c_Co_removeLast (n0 : 0 < M 7 3) (n6 : M 7 3 ≤ 6) (hc : 0 ≤ M 7 5 ∧ M 7 5 ≤ 100000) : Cv L 1 zm_Coll_removeLast [rV 7] M (fun M' => zSm (fun a => a = 7 ∨ a = 12 + 2 * (M 7 3 - 1).toNat) M M' ∧ M' 7 3 = M 7 3 - 1 ∧ M' 7 5 = M 7 5 + 1 ∧ (∀ k, k ≠ 3 → k ≠ 5 → M' 7 k = M 7 k) ∧ M' (12 + 2 * (M 7 3 - 1).toNat) 1 = 0) := by
  show wp L _ zm_Coll_removeLast 0 [rV 7] [] M _
  refine wp_aload_n (pc := 0) d_Coll_removeLast_0 rfl ?_
  refine wp_getI (pc := 1) d_Coll_removeLast_1 rfl (by decide) (zk_7 L) ?_
  refine wp_if_le (tgt := 39) (pc := 4) d_Coll_removeLast_4 rfl (fun c4 => ?_) (fun c4 => ?_)
  · exact absurd c4 (by omega)
  · refine wp_aload_n (pc := 7) d_Coll_removeLast_7 rfl ?_
    refine wp_dup (pc := 8) d_Coll_removeLast_8 rfl ?_
    refine wp_getI (pc := 9) d_Coll_removeLast_9 rfl (by decide) (zk_7 L) ?_
    refine wp_iconst (pc := 12) d_Coll_removeLast_12 rfl ?_
    refine wp_isub (pc := 13) d_Coll_removeLast_13 (by omega) (by omega) ?_
    refine wp_putI (pc := 14) d_Coll_removeLast_14 rfl (zk_7 L) (by decide) ?_
    refine wp_aload_n (pc := 17) d_Coll_removeLast_17 rfl ?_
    refine wp_getR (pc := 18) d_Coll_removeLast_18 rfl (zk_7 L) zx_7_0 ?_
    refine wp_aload_n (pc := 21) d_Coll_removeLast_21 rfl ?_
    refine wp_getI (pc := 22) d_Coll_removeLast_22 rfl (by decide) (zk_7 L) ?_
    rw [zU_eq]
    refine wp_aald (b := 12 + 2 * (M 7 3 - 1).toNat) (pc := 25) d_Coll_removeLast_25 (zk_8 L) (by decide) (by omega) (by omega) (zx_tx (show (M 7 3 - 1).toNat < 6 by omega)) ?_
    refine wp_callV0v (pc := 26) d_Coll_removeLast_26 rfl rfl (zTx_i L (show (M 7 3 - 1).toNat < 6 by omega)).1 rfl rfl (c_Text_clear (zTx_i L (show (M 7 3 - 1).toNat < 6 by omega))) (fun M26 h26 => ?_)
    subst h26
    refine wp_aload_n (pc := 29) d_Coll_removeLast_29 rfl ?_
    refine wp_dup (pc := 30) d_Coll_removeLast_30 rfl ?_
    refine wp_getI (pc := 31) d_Coll_removeLast_31 rfl (by decide) (zk_7 L) ?_
    rw [zU_na (by omega), zU_nk (by decide)]
    refine wp_iconst (pc := 34) d_Coll_removeLast_34 rfl ?_
    refine wp_iadd (pc := 35) d_Coll_removeLast_35 (by omega) (by omega) ?_
    refine wp_putI (pc := 36) d_Coll_removeLast_36 rfl (zk_7 L) (by decide) ?_
    refine wp_return_ (pc := 39) d_Coll_removeLast_39 rfl ?_
    refine ⟨rfl, ((zSm.rf.u (Or.inl rfl)).u (Or.inr rfl)).u (Or.inl rfl), ?_, zU_eq, fun k k1 k2 => ?_, ?_⟩
    · rw [zU_nk (by decide), zU_na (by omega), zU_eq]
    · rw [zU_nk k2, zU_na (by omega), zU_nk k1]
    · rw [zU_na (by omega), zU_eq]
theorem lp_Co_setReach {M0 : zM} (hc : 0 ≤ M0 7 5 ∧ M0 7 5 ≤ 100000) : ∀ (n9 : Nat) (i : Int) (M : zM), 36 - i < n9 → 0 ≤ i → i ≤ 36 → zSm (fun a => 24 ≤ a ∧ a < 132 ∧ a % 3 = 0) M0 M → (∀ p : Nat, p < 36 → (∀ k, k ≠ 2 → M (24 + 3 * p) k = M0 (24 + 3 * p) k) ∧ ((p : Int) < i → M (24 + 3 * p) 2 = 0)) → wp L 1 zm_Coll_setReach 16 [rV 7, iV v, iV i] [] M (fun r M' => r = none ∧ (zSm (fun a => a = 7 ∨ (24 ≤ a ∧ a < 132 ∧ a % 3 = 0)) M0 M' ∧ (∀ p : Nat, p < 36 → (∀ k, k ≠ 2 → M' (24 + 3 * p) k = M0 (24 + 3 * p) k) ∧ M' (24 + 3 * p) 2 = 0) ∧ M' 7 5 = M0 7 5 + 1 ∧ ∀ k, k ≠ 5 → M' 7 k = M0 7 k)) := by
  intro n9
  induction n9 with
  | zero =>
    intro i  M  h9 g1 g2 g3 g4
    exact absurd h9 (by omega)
  | succ n9 ih =>
    intro i  M  h9 g1 g2 g3 g4
    refine wp_iload_n (pc := 16) d_Coll_setReach_16 rfl ?_
    refine wp_aload_n (pc := 17) d_Coll_setReach_17 rfl ?_
    refine wp_getR (pc := 18) d_Coll_setReach_18 rfl (zk_7 L) zx_7_1 ?_
    refine wp_alen (pc := 21) d_Coll_setReach_21 (zk_9 L) (by decide) ?_
    refine wp_icmp_ge (tgt := 40) (pc := 22) d_Coll_setReach_22 rfl (fun c22 => ?_) (fun c22 => ?_)
    · have e5 : M 7 5 = M0 7 5 := g3 7 (by omega) 5
      refine wp_aload_n (pc := 40) d_Coll_setReach_40 rfl ?_
      refine wp_dup (pc := 41) d_Coll_setReach_41 rfl ?_
      refine wp_getI (pc := 42) d_Coll_setReach_42 rfl (by decide) (zk_7 L) ?_
      refine wp_iconst (pc := 45) d_Coll_setReach_45 rfl ?_
      refine wp_iadd (pc := 46) d_Coll_setReach_46 (by omega) (by omega) ?_
      refine wp_putI (pc := 47) d_Coll_setReach_47 rfl (zk_7 L) (by decide) ?_
      refine wp_return_ (pc := 50) d_Coll_setReach_50 rfl ?_
      refine ⟨rfl, (g3.up (fun a ha => Or.inr ha)).u (Or.inl rfl), fun p hp => ⟨fun k hk => ?_, ?_⟩, ?_, fun k hk => ?_⟩
      · rw [zU_na (by omega)]; exact (g4 p hp).1 k hk
      · rw [zU_na (by omega)]; exact (g4 p hp).2 (by omega)
      · rw [zU_eq, e5]
      · rw [zU_nk hk]; exact g3 7 (by omega) k
    · refine wp_aload_n (pc := 25) d_Coll_setReach_25 rfl ?_
      refine wp_getR (pc := 26) d_Coll_setReach_26 rfl (zk_7 L) zx_7_1 ?_
      refine wp_iload_n (pc := 29) d_Coll_setReach_29 rfl ?_
      refine wp_aald (b := 24 + 3 * (i).toNat) (pc := 30) d_Coll_setReach_30 (zk_9 L) (by decide) (by omega) (by omega) (zx_al (show (i).toNat < 36 by omega)) ?_
      refine wp_callV0v (pc := 31) d_Coll_setReach_31 rfl rfl (zAn_i L (i).toNat (by omega)).1 rfl rfl (c_An_forget (zAn_i L i.toNat (by omega))) (fun M31 h31 => ?_)
      subst h31
      refine wp_iinc2 (pc := 34) d_Coll_setReach_34 rfl (by omega) (by omega) ?_
      refine wp_goto (tgt := 16) (pc := 37) d_Coll_setReach_37 rfl ?_
      refine ih (i + 1) _ (by omega) (by omega) (by omega) (g3.u (by omega)) (fun p hp => ⟨fun k hk => ?_, fun hpi => ?_⟩)
      · rw [zU_nk hk]; exact (g4 p hp).1 k hk
      · by_cases e : p = i.toNat
        · rw [e, zU_eq]
        · rw [zU_na (by omega)]; exact (g4 p hp).2 (by omega)
theorem c_Co_setReach (hc : 0 ≤ M 7 5 ∧ M 7 5 ≤ 100000) : Cv L 1 zm_Coll_setReach [rV 7, iV v] M (fun M' => (v = M 7 4 ∧ M' = M) ∨ (v ≠ M 7 4 ∧ zSm (fun a => a = 7 ∨ (24 ≤ a ∧ a < 132 ∧ a % 3 = 0)) M M' ∧ (∀ p : Nat, p < 36 → (∀ k, k ≠ 2 → M' (24 + 3 * p) k = M (24 + 3 * p) k) ∧ M' (24 + 3 * p) 2 = 0) ∧ M' 7 4 = v ∧ M' 7 5 = M 7 5 + 1 ∧ ∀ k, k ≠ 4 → k ≠ 5 → M' 7 k = M 7 k)) := by
  show wp L _ zm_Coll_setReach 0 [rV 7, iV v, uV] [] M _
  refine wp_iload_n (pc := 0) d_Coll_setReach_0 rfl ?_
  refine wp_aload_n (pc := 1) d_Coll_setReach_1 rfl ?_
  refine wp_getI (pc := 2) d_Coll_setReach_2 rfl (by decide) (zk_7 L) ?_
  refine wp_icmp_ne (tgt := 9) (pc := 5) d_Coll_setReach_5 rfl (fun c5 => ?_) (fun c5 => ?_)
  · refine wp_aload_n (pc := 9) d_Coll_setReach_9 rfl ?_
    refine wp_iload_n (pc := 10) d_Coll_setReach_10 rfl ?_
    refine wp_putI (pc := 11) d_Coll_setReach_11 rfl (zk_7 L) (by decide) ?_
    refine wp_iconst (pc := 14) d_Coll_setReach_14 rfl ?_
    refine wp_ist2 (pc := 15) d_Coll_setReach_15 rfl ?_
    refine wp_mono (lp_Co_setReach (M0 := zU M 7 4 v) (v := v) (by rw [zU_nk (by decide)]; exact hc) 100 0 _ (by omega) (by omega) (by omega) zSm.rf (fun p hp => ⟨fun _ _ => rfl, fun z => absurd z (by omega)⟩)) (fun r M' hr => ?_)
    obtain ⟨hr0, r1, r2, r3, r4⟩ := hr
    refine ⟨hr0, Or.inr ⟨c5, fun a ha k => ?_, fun p hp => ⟨fun k hk => ?_, (r2 p hp).2⟩, ?_, ?_, fun k k1 k2 => ?_⟩⟩
    · rw [r1 a ha k, zU_na (by omega)]
    · rw [(r2 p hp).1 k hk, zU_na (by omega)]
    · rw [r4 4 (by decide), zU_eq]
    · rw [r3, zU_nk (by decide)]
    · rw [r4 k k2, zU_nk k1]
  · refine wp_return_ (pc := 8) d_Coll_setReach_8 rfl ?_
    exact ⟨rfl, Or.inl ⟨by omega, rfl⟩⟩
/-- a text whose letters are numbers of characters -/
def qTk (M : zM) (t : Nat) : Prop := 0 ≤ M t 1 ∧ M t 1 ≤ 24 ∧ ∀ k : Nat, (k : Int) < M t 1 → -1 ≤ M (t + 1) k ∧ M (t + 1) k ≤ 1000
/-- the alignment of two copies, as the memory M has it known -/
def qKm (M : zM) (x y : Int) : Prop := qKn M (24 + 3 * (x * 6 + y).toNat) (qTx M (12 + 2 * x.toNat)) (qTx M (12 + 2 * y.toNat)) (M (12 + 2 * x.toNat) 1) (M (12 + 2 * y.toNat) 1) (M 7 4)
theorem qKm.keep {M M' : zM} {x y : Int} (h : qKm M x y) (h1 : ∀ k, M' (24 + 3 * (x * 6 + y).toNat) k = M (24 + 3 * (x * 6 + y).toNat) k) (h2 : ∀ k, M' (24 + 3 * (x * 6 + y).toNat + 1) k = M (24 + 3 * (x * 6 + y).toNat + 1) k) (h3 : ∀ k, M' (24 + 3 * (x * 6 + y).toNat + 2) k = M (24 + 3 * (x * 6 + y).toNat + 2) k)
    (h4 : ∀ k, M' (12 + 2 * x.toNat) k = M (12 + 2 * x.toNat) k) (h5 : ∀ k, M' (12 + 2 * x.toNat + 1) k = M (12 + 2 * x.toNat + 1) k) (h6 : ∀ k, M' (12 + 2 * y.toNat) k = M (12 + 2 * y.toNat) k) (h7 : ∀ k, M' (12 + 2 * y.toNat + 1) k = M (12 + 2 * y.toNat + 1) k) (h8 : M' 7 4 = M 7 4) : qKm M' x y := by
  unfold qKm at h ⊢
  rw [qTx_eq (h4 1) h5, qTx_eq (h6 1) h7, h4, h6, h8]
  unfold qKn qAl at h ⊢
  simp only [h1, h2, h3]
  exact h
theorem c_Co_best (hst : zSt M) (x0 : 0 ≤ x) (x1 : x < M 7 3) (y0 : 0 ≤ y) (y1 : y < M 7 3) (n6 : M 7 3 ≤ 6) (hx : qTk M (12 + 2 * x.toNat)) (hy : qTk M (12 + 2 * y.toNat)) (hb0 : 0 ≤ M 7 4) (hb9 : M 7 4 ≤ 9) (hfl : M (24 + 3 * (x * 6 + y).toNat) 2 = 0 ∨ M (24 + 3 * (x * 6 + y).toNat) 2 = 1 ∧ qKm M x y) : Cr L 3 zm_Coll_best [rV 7, iV x, iV y] M (24 + 3 * (x * 6 + y).toNat) (fun M' => zSm (fun a => a = 11 ∨ a = 24 + 3 * (x * 6 + y).toNat ∨ a = 24 + 3 * (x * 6 + y).toNat + 1 ∨ a = 24 + 3 * (x * 6 + y).toNat + 2) M M' ∧ qKm M' x y) := by
  show wp L _ zm_Coll_best 0 [rV 7, iV x, iV y, uV, uV] [] M _
  refine wp_aload_n (pc := 0) d_Coll_best_0 rfl ?_
  refine wp_iload_n (pc := 1) d_Coll_best_1 rfl ?_
  refine wp_callV1f (pc := 2) d_Coll_best_2 rfl rfl (zk_7 L) rfl rfl c_Co_has ?_
  refine wp_if_eq (tgt := 25) (pc := 5) d_Coll_best_5 rfl (fun c5 => ?_) (fun c5 => ?_)
  · exact absurd (zb_eq0 c5) (by omega)
  · refine wp_aload_n (pc := 8) d_Coll_best_8 rfl ?_
    refine wp_iload_n (pc := 9) d_Coll_best_9 rfl ?_
    refine wp_callV1f (pc := 10) d_Coll_best_10 rfl rfl (zk_7 L) rfl rfl c_Co_has ?_
    refine wp_if_eq (tgt := 25) (pc := 13) d_Coll_best_13 rfl (fun c13 => ?_) (fun c13 => ?_)
    · exact absurd (zb_eq0 c13) (by omega)
    · refine wp_iload_n (pc := 16) d_Coll_best_16 rfl ?_
      refine wp_bipush (pc := 17) d_Coll_best_17 rfl ?_
      refine wp_imul (pc := 19) d_Coll_best_19 (by omega) (by omega) ?_
      refine wp_iload_n (pc := 20) d_Coll_best_20 rfl ?_
      refine wp_iadd (pc := 21) d_Coll_best_21 (by omega) (by omega) ?_
      refine wp_goto (tgt := 26) (pc := 22) d_Coll_best_22 rfl ?_
      refine wp_ist3 (pc := 26) d_Coll_best_26 rfl ?_
      refine wp_aload_n (pc := 27) d_Coll_best_27 rfl ?_
      refine wp_getR (pc := 28) d_Coll_best_28 rfl (zk_7 L) zx_7_1 ?_
      refine wp_iload_n (pc := 31) d_Coll_best_31 rfl ?_
      refine wp_aald (b := 24 + 3 * (x * 6 + y).toNat) (pc := 32) d_Coll_best_32 (zk_9 L) (by decide) (by omega) (by omega) (zx_al (show (x * 6 + y).toNat < 36 by omega)) ?_
      refine wp_ast4 (pc := 33) d_Coll_best_33 rfl ?_
      refine wp_aload (pc := 35) d_Coll_best_35 rfl ?_
      refine wp_callV0f (pc := 37) d_Coll_best_37 rfl rfl (zAn_i L (x * 6 + y).toNat (by omega)).1 rfl rfl (c_An_isKnown (zAn_i L (x * 6 + y).toNat (by omega)) (by omega)) ?_
      refine wp_if_ne (tgt := 66) (pc := 40) d_Coll_best_40 rfl (fun c40 => ?_) (fun c40 => ?_)
      · refine wp_aload (pc := 66) d_Coll_best_66 rfl ?_
        refine wp_areturn (pc := 68) d_Coll_best_68 rfl ?_
        first
        | (have hk := h63.2
           refine ⟨rfl, h63.1, ?_⟩
           unfold qKm
           rw [qTx_eq (M := M) (h63.1 _ (by omega) 1) (h63.1 _ (by omega)), qTx_eq (M := M) (h63.1 _ (by omega) 1) (h63.1 _ (by omega)), h63.1 (12 + 2 * x.toNat) (by omega) 1, h63.1 (12 + 2 * y.toNat) (by omega) 1, h63.1 7 (by omega) 4]
           exact hk)
        | (rcases hfl with z | z
           · exact absurd z c40
           · exact ⟨rfl, zSm.rf, z.2⟩)
      · refine wp_aload_n (pc := 43) d_Coll_best_43 rfl ?_
        refine wp_getR (pc := 44) d_Coll_best_44 rfl (zk_7 L) zx_7_2 ?_
        refine wp_aload_n (pc := 47) d_Coll_best_47 rfl ?_
        refine wp_iload_n (pc := 48) d_Coll_best_48 rfl ?_
        refine wp_callV1f (pc := 49) d_Coll_best_49 rfl rfl (zk_7 L) rfl rfl (c_Co_text n6) ?_
        rw [if_pos (by omega)]
        refine wp_aload_n (pc := 52) d_Coll_best_52 rfl ?_
        refine wp_iload_n (pc := 53) d_Coll_best_53 rfl ?_
        refine wp_callV1f (pc := 54) d_Coll_best_54 rfl rfl (zk_7 L) rfl rfl (c_Co_text n6) ?_
        rw [if_pos (by omega)]
        refine wp_aload_n (pc := 57) d_Coll_best_57 rfl ?_
        refine wp_getI (pc := 58) d_Coll_best_58 rfl (by decide) (zk_7 L) ?_
        refine wp_aload (pc := 61) d_Coll_best_61 rfl ?_
        refine wp_callV4v (pc := 63) d_Coll_best_63 rfl rfl (zk_10 L) rfl rfl (c_Ar_align (zAn_i L (x * 6 + y).toNat (by omega)) (by omega) (by omega) (by omega) (zTx_i L (show x.toNat < 6 by omega)) (zTx_i L (show y.toNat < 6 by omega)) (by omega) (by omega) (by omega) (by omega) hst hx.1 hx.2.1 hy.1 hy.2.1 hb0 hb9 hx.2.2 hy.2.2) (fun M63 h63 => ?_)
        refine wp_aload (pc := 66) d_Coll_best_66 rfl ?_
        refine wp_areturn (pc := 68) d_Coll_best_68 rfl ?_
        first
        | (have hk := h63.2
           refine ⟨rfl, h63.1, ?_⟩
           unfold qKm
           rw [qTx_eq (M := M) (h63.1 _ (by omega) 1) (h63.1 _ (by omega)), qTx_eq (M := M) (h63.1 _ (by omega) 1) (h63.1 _ (by omega)), h63.1 (12 + 2 * x.toNat) (by omega) 1, h63.1 (12 + 2 * y.toNat) (by omega) 1, h63.1 7 (by omega) 4]
           exact hk)
        | (rcases hfl with z | z
           · exact absurd z c40
           · exact ⟨rfl, zSm.rf, z.2⟩)
end ZCo3
