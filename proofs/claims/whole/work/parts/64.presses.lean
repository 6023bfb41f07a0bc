/-! Presses: cell 172; row 173 -/
section ZPr
variable {L : Nat} {M : zM} {Y : qYt} {x y z w c p s i j : Int}
theorem lp_Pr_fits (h : qBc M Y) {a : Int → Int} {f : Nat} {p : Int} (hf : f < 6) (ha : ∀ g : Nat, g < f → M 173 g = a (g : Int)) (hp : M 173 f = p) : ∀ (n9 : Nat) (k : Nat) (j : Int), (f : Int) - j < n9 → (j = k) → (j ≤ f) → (qEx (fun o => decide (a o = p) && !(vC Y f).testBit o.toNat) k = false) → wp L 1 zm_Presses_fits 9 [rV 161, rV 173, iV f, iV ((vC Y f : Nat) : Int), iV j] [] M (fun r M' => r = some (iV (qB (vFit (vC Y) a f p))) ∧ M' = M) := by
  intro n9
  induction n9 with
  | zero =>
    intro k  j  h9 g1 g2 g3
    exact absurd h9 (by omega)
  | succ n9 ih =>
    intro k  j  h9 g1 g2 g3
    have hes : qEx (fun o => decide (a o = p) && !(vC Y f).testBit o.toNat) (k + 1) = (qEx (fun o => decide (a o = p) && !(vC Y f).testBit o.toNat) k || (decide (a (k : Int) = p) && !(vC Y f).testBit k)) := rfl
    refine wp_iload (pc := 9) d_Presses_fits_9 rfl ?_
    refine wp_iload_n (pc := 11) d_Presses_fits_11 rfl ?_
    refine wp_icmp_ge (tgt := 42) (pc := 12) d_Presses_fits_12 rfl (fun c12 => ?_) (fun c12 => ?_)
    · refine wp_iconst (pc := 42) d_Presses_fits_42 rfl ?_
      refine wp_zreturn (pc := 43) d_Presses_fits_43 rfl (by omega) ?_
      refine ⟨?_, rfl⟩
      unfold vFit
      rw [show f = k by omega] at g3 ⊢
      rw [g3]
      rfl
    · have hak := ha k (by omega)
      have ej : j.toNat = k := by omega
      have ef : ((f : Int)).toNat = f := by omega
      refine wp_aload_n (pc := 15) d_Presses_fits_15 rfl ?_
      refine wp_iload (pc := 16) d_Presses_fits_16 rfl ?_
      refine wp_iald (pc := 18) d_Presses_fits_18 (zk_173 L) (by omega) (by omega) ?_
      refine wp_aload_n (pc := 19) d_Presses_fits_19 rfl ?_
      refine wp_iload_n (pc := 20) d_Presses_fits_20 rfl ?_
      refine wp_iald (pc := 21) d_Presses_fits_21 (zk_173 L) (by omega) (by omega) ?_
      refine wp_icmp_ne (tgt := 36) (pc := 22) d_Presses_fits_22 rfl (fun c22 => ?_) (fun c22 => ?_)
      · refine wp_iinc4 (pc := 36) d_Presses_fits_36 rfl (by omega) (by omega) ?_
        refine wp_goto (tgt := 9) (pc := 39) d_Presses_fits_39 rfl ?_
        first
        | (refine ih (k + 1) (j + 1) (by omega) (by omega) (by omega) ?_
           rw [hes, g3, zb_t c31]
           simp)
        | (refine ih (k + 1) (j + 1) (by omega) (by omega) (by omega) ?_
           rw [ej, ef, hak, hp] at c22
           rw [hes, g3, decide_eq_false c22]
           simp)
      · refine wp_iload_n (pc := 25) d_Presses_fits_25 rfl ?_
        refine wp_iload (pc := 26) d_Presses_fits_26 rfl ?_
        refine wp_ishr (v := _) (pc := 28) d_Presses_fits_28 rfl ?_
        refine wp_iconst (pc := 29) d_Presses_fits_29 rfl ?_
        refine wp_iand (v := _) (pc := 30) d_Presses_fits_30 (zn_in (k := k) (vC_lt Y f) g1 (by omega)) ?_
        refine wp_if_ne (tgt := 36) (pc := 31) d_Presses_fits_31 rfl (fun c31 => ?_) (fun c31 => ?_)
        · refine wp_iinc4 (pc := 36) d_Presses_fits_36 rfl (by omega) (by omega) ?_
          refine wp_goto (tgt := 9) (pc := 39) d_Presses_fits_39 rfl ?_
          first
          | (refine ih (k + 1) (j + 1) (by omega) (by omega) (by omega) ?_
             rw [hes, g3, zb_t c31]
             simp)
          | (refine ih (k + 1) (j + 1) (by omega) (by omega) (by omega) ?_
             rw [ej, ef, hak, hp] at c22
             rw [hes, g3, decide_eq_false c22]
             simp)
        · refine wp_iconst (pc := 34) d_Presses_fits_34 rfl ?_
          refine wp_zreturn (pc := 35) d_Presses_fits_35 rfl (by omega) ?_
          refine ⟨?_, rfl⟩
          rw [ej, ef, hak, hp] at c22
          have hz : qEx (fun o => decide (a o = p) && !(vC Y f).testBit o.toNat) f = true := (qEx_iff _ _).2 ⟨k, by omega, by omega, by
            show (decide (a (k : Int) = p) && !(vC Y f).testBit k) = true
            rw [decide_eq_true (Decidable.of_not_not c22), zb_f (Decidable.of_not_not c31)]
            rfl⟩
          unfold vFit
          rw [hz]
          rfl
theorem c_Pr_fits (h : qBc M Y) {a : Int → Int} {f : Nat} {p : Int} (hf : f < 6) (ha : ∀ g : Nat, g < f → M 173 g = a (g : Int)) (hp : M 173 f = p) : Cf L 1 zm_Presses_fits [rV 161, rV 173, iV f] M (iV (qB (vFit (vC Y) a f p))) M := by
  show wp L _ zm_Presses_fits 0 [rV 161, rV 173, iV f, uV, uV] [] M _
  refine wp_aload_n (pc := 0) d_Presses_fits_0 rfl ?_
  refine wp_iload_n (pc := 1) d_Presses_fits_1 rfl ?_
  refine wp_callV1f (pc := 2) d_Presses_fits_2 rfl rfl (zk_161 L) rfl rfl (c_Ch_cp h (by omega) (by omega)) ?_
  rw [show ((f : Int)).toNat = f by omega]
  refine wp_ist3 (pc := 5) d_Presses_fits_5 rfl ?_
  refine wp_iconst (pc := 6) d_Presses_fits_6 rfl ?_
  refine wp_ist4 (pc := 7) d_Presses_fits_7 rfl ?_
  exact lp_Pr_fits h hf ha hp 100 0 0 (by omega) rfl (by omega) rfl
theorem lp_Pr_as {M0 : zM} {k n f : Nat} {a : Int → Int} (hk : k ≤ 6) (hf : f < 6) (hT : ¬ vT Y f = 0) (hrec : ∀ (a : Int → Int) (M : zM), qBc M Y → (∀ g : Nat, g < f + 1 → M 173 g = a (g : Int)) → Ci L (n + 2) zm_Presses_assign [rV 161, rV 173, iV k, iV ((f : Int) + 1)] M (fun x M' => zSm (fun b => b = 173) M M' ∧ ((∃ ρ : Int → Int, vAs (vT Y) (vC Y) k n (f + 1) a = some ρ ∧ x = 1 ∧ ∀ g : Nat, g < 6 → M' 173 g = ρ (g : Int)) ∨ (vAs (vT Y) (vC Y) k n (f + 1) a = none ∧ x = 0 ∧ ∀ g : Nat, g < (f + 1) → M' 173 g = a (g : Int))))) : ∀ (n9 : Nat) (p : Int) (M : zM), (k : Int) - p < n9 → (0 ≤ p) → (p ≤ k) → (zSm (fun b => b = 173) M0 M) → (qBc M Y) → (∀ g : Nat, g < f → M 173 g = a (g : Int)) → (vAs (vT Y) (vC Y) k (n + 1) f a = vTry (fun p => if vFit (vC Y) a f p = true then vAs (vT Y) (vC Y) k n (f + 1) (qPut a (f : Int) p) else none) ((k : Int) - p).toNat p) → wp L (n + 3) zm_Presses_assign 33 [rV 161, rV 173, iV k, iV f, iV p] [] M (fun r M' => ∃ x, r = some (iV x) ∧ (zSm (fun b => b = 173) M0 M' ∧ ((∃ ρ : Int → Int, vAs (vT Y) (vC Y) k (n + 1) f a = some ρ ∧ x = 1 ∧ ∀ g : Nat, g < 6 → M' 173 g = ρ (g : Int)) ∨ (vAs (vT Y) (vC Y) k (n + 1) f a = none ∧ x = 0 ∧ ∀ g : Nat, g < f → M' 173 g = a (g : Int))))) := by
  intro n9
  induction n9 with
  | zero =>
    intro p  M  h9 g0 g1 g2 g3 g4 g5
    exact absurd h9 (by omega)
  | succ n9 ih =>
    intro p  M  h9 g0 g1 g2 g3 g4 g5
    refine wp_iload (pc := 33) d_Presses_assign_33 rfl ?_
    refine wp_iload_n (pc := 35) d_Presses_assign_35 rfl ?_
    refine wp_icmp_ge (tgt := 73) (pc := 36) d_Presses_assign_36 rfl (fun c36 => ?_) (fun c36 => ?_)
    · refine wp_iconst (pc := 73) d_Presses_assign_73 rfl ?_
      refine wp_zreturn (pc := 74) d_Presses_assign_74 rfl (by omega) ?_
      refine ⟨_, rfl, g2, Or.inr ⟨?_, rfl, g4⟩⟩
      rw [g5, show ((k : Int) - p).toNat = 0 by omega]
      rfl
    · have ef : ((f : Int)).toNat = f := by omega
      have k1 : zSm (fun b => b = 173) M (zU M 173 ((f : Int)).toNat p) := zSm.rf.u rfl
      have b1 : qBc (zU M 173 ((f : Int)).toNat p) Y := g3.keep k1 (fun b _ _ => by omega)
      have b2 : ∀ g : Nat, g < f → zU M 173 ((f : Int)).toNat p 173 g = a (g : Int) := fun g hg => by rw [zU_nk (by omega)]; exact g4 g hg
      have b3 : zU M 173 ((f : Int)).toNat p 173 f = p := by rw [ef, zU_eq]
      have hm : ((k : Int) - p).toNat = ((k : Int) - (p + 1)).toNat + 1 := by omega
      rw [hm] at g5
      have htr : vTry (fun p => if vFit (vC Y) a f p = true then vAs (vT Y) (vC Y) k n (f + 1) (qPut a (f : Int) p) else none) (((k : Int) - (p + 1)).toNat + 1) p = match (if vFit (vC Y) a f p = true then vAs (vT Y) (vC Y) k n (f + 1) (qPut a (f : Int) p) else none) with | some r => some r | none => vTry (fun p => if vFit (vC Y) a f p = true then vAs (vT Y) (vC Y) k n (f + 1) (qPut a (f : Int) p) else none) ((k : Int) - (p + 1)).toNat (p + 1) := rfl
      rw [htr] at g5
      refine wp_aload_n (pc := 39) d_Presses_assign_39 rfl ?_
      refine wp_iload_n (pc := 40) d_Presses_assign_40 rfl ?_
      refine wp_iload (pc := 41) d_Presses_assign_41 rfl ?_
      refine wp_iast (pc := 43) d_Presses_assign_43 (zk_173 L) (by decide) (by omega) (by omega) ?_
      refine wp_aload_n (pc := 44) d_Presses_assign_44 rfl ?_
      refine wp_aload_n (pc := 45) d_Presses_assign_45 rfl ?_
      refine wp_iload_n (pc := 46) d_Presses_assign_46 rfl ?_
      refine wp_callS3f (pc := 47) d_Presses_assign_47 rfl rfl rfl rfl (decide_eq_true (by omega)) (c_Pr_fits b1 hf b2 b3) ?_
      refine wp_if_eq (tgt := 67) (pc := 50) d_Presses_assign_50 rfl (fun c50 => ?_) (fun c50 => ?_)
      · refine wp_iinc4 (pc := 67) d_Presses_assign_67 rfl (by omega) (by omega) ?_
        refine wp_goto (tgt := 33) (pc := 70) d_Presses_assign_70 rfl ?_
        first
        | (have hfit : ¬ vFit (vC Y) a f p = true := by rw [qB_0 c50]; decide
           rw [if_neg hfit] at g5
           exact ih (p + 1) _ (by omega) (by omega) (by omega) (g2.tr k1) b1 b2 g5)
        | (rcases y2 with ⟨ρ, q1, q2, q3⟩ | ⟨q1, q2, q3⟩
           · exact absurd c62 (by omega)
           · rw [q1] at g5
             exact ih (p + 1) M59 (by omega) (by omega) (by omega) ((g2.tr k1).tr y1) (b1.keep y1 (fun b _ _ => by omega)) (fun g hg => by rw [q3 g (by omega), qPut_ne (by omega)]) g5)
      · refine wp_aload_n (pc := 53) d_Presses_assign_53 rfl ?_
        refine wp_aload_n (pc := 54) d_Presses_assign_54 rfl ?_
        refine wp_iload_n (pc := 55) d_Presses_assign_55 rfl ?_
        refine wp_iload_n (pc := 56) d_Presses_assign_56 rfl ?_
        refine wp_iconst (pc := 57) d_Presses_assign_57 rfl ?_
        refine wp_iadd (pc := 58) d_Presses_assign_58 (by omega) (by omega) ?_
        refine wp_callS4i (pc := 59) d_Presses_assign_59 rfl rfl rfl rfl (decide_eq_true (by omega)) (hrec (qPut a (f : Int) p) _ b1 (fun g hg => by
            by_cases e : g = f
            · rw [e, qPut_eq]; exact b3
            · rw [qPut_ne (by omega)]; exact b2 g (by omega))) (fun x59 M59 h59 => ?_)
        have hfit := qB_1 c50
        rw [if_pos hfit] at g5
        obtain ⟨y1, y2⟩ := h59
        refine wp_if_eq (tgt := 67) (pc := 62) d_Presses_assign_62 rfl (fun c62 => ?_) (fun c62 => ?_)
        · refine wp_iinc4 (pc := 67) d_Presses_assign_67 rfl (by omega) (by omega) ?_
          refine wp_goto (tgt := 33) (pc := 70) d_Presses_assign_70 rfl ?_
          first
          | (have hfit : ¬ vFit (vC Y) a f p = true := by rw [qB_0 c50]; decide
             rw [if_neg hfit] at g5
             exact ih (p + 1) _ (by omega) (by omega) (by omega) (g2.tr k1) b1 b2 g5)
          | (rcases y2 with ⟨ρ, q1, q2, q3⟩ | ⟨q1, q2, q3⟩
             · exact absurd c62 (by omega)
             · rw [q1] at g5
               exact ih (p + 1) M59 (by omega) (by omega) (by omega) ((g2.tr k1).tr y1) (b1.keep y1 (fun b _ _ => by omega)) (fun g hg => by rw [q3 g (by omega), qPut_ne (by omega)]) g5)
        · refine wp_iconst (pc := 65) d_Presses_assign_65 rfl ?_
          refine wp_zreturn (pc := 66) d_Presses_assign_66 rfl (by omega) ?_
          rcases y2 with ⟨ρ, q1, q2, q3⟩ | ⟨q1, q2, q3⟩
          · rw [q1] at g5
            exact ⟨_, rfl, (g2.tr k1).tr y1, Or.inl ⟨ρ, g5, rfl, q3⟩⟩
          · exact absurd q2 c62
theorem c_Pr_as {k : Nat} (hk : k ≤ 6) : ∀ (n f : Nat) (a : Int → Int) (M : zM), f + n = 6 → qBc M Y → (∀ g : Nat, g < f → M 173 g = a (g : Int)) → Ci L (n + 2) zm_Presses_assign [rV 161, rV 173, iV k, iV f] M (fun x M' => zSm (fun b => b = 173) M M' ∧ ((∃ ρ : Int → Int, vAs (vT Y) (vC Y) k n f a = some ρ ∧ x = 1 ∧ ∀ g : Nat, g < 6 → M' 173 g = ρ (g : Int)) ∨ (vAs (vT Y) (vC Y) k n f a = none ∧ x = 0 ∧ ∀ g : Nat, g < f → M' 173 g = a (g : Int)))) := by
  intro n
  induction n with
  | zero =>
    intro f a M hf h ha
    show wp L 2 zm_Presses_assign 0 [rV 161, rV 173, iV k, iV f, uV] [] M _
    refine wp_iload_n (pc := 0) d_Presses_assign_0 rfl ?_
    refine wp_bipush (pc := 1) d_Presses_assign_1 rfl ?_
    refine wp_icmp_lt (tgt := 8) (pc := 3) d_Presses_assign_3 rfl (fun c3 => ?_) (fun c3 => ?_)
    · exact absurd c3 (by omega)
    · refine wp_iconst (pc := 6) d_Presses_assign_6 rfl ?_
      refine wp_zreturn (pc := 7) d_Presses_assign_7 rfl (by omega) ?_
      exact ⟨1, rfl, zSm.rf, Or.inl ⟨a, rfl, rfl, fun g hg => ha g (by omega)⟩⟩
  | succ n ih =>
    intro f a M hf h ha
    have hf6 : f < 6 := by omega
    show wp L (n + 3) zm_Presses_assign 0 [rV 161, rV 173, iV k, iV f, uV] [] M _
    refine wp_iload_n (pc := 0) d_Presses_assign_0 rfl ?_
    refine wp_bipush (pc := 1) d_Presses_assign_1 rfl ?_
    refine wp_icmp_lt (tgt := 8) (pc := 3) d_Presses_assign_3 rfl (fun c3 => ?_) (fun c3 => ?_)
    · have ef : ((f : Int)).toNat = f := by omega
      have k1 : zSm (fun b => b = 173) M (zU M 173 ((f : Int)).toNat (-1)) := zSm.rf.u rfl
      have b1 : qBc (zU M 173 ((f : Int)).toNat (-1)) Y := h.keep k1 (fun b _ _ => by omega)
      have b2 : ∀ g : Nat, g < f → zU M 173 ((f : Int)).toNat (-1) 173 g = a (g : Int) := fun g hg => by rw [zU_nk (by omega)]; exact ha g hg
      have b3 : zU M 173 ((f : Int)).toNat (-1) 173 f = -1 := by rw [ef, zU_eq]
      have hrec : ∀ (a : Int → Int) (M : zM), qBc M Y → (∀ g : Nat, g < f + 1 → M 173 g = a (g : Int)) → Ci L (n + 2) zm_Presses_assign [rV 161, rV 173, iV k, iV ((f : Int) + 1)] M (fun x M' => zSm (fun b => b = 173) M M' ∧ ((∃ ρ : Int → Int, vAs (vT Y) (vC Y) k n (f + 1) a = some ρ ∧ x = 1 ∧ ∀ g : Nat, g < 6 → M' 173 g = ρ (g : Int)) ∨ (vAs (vT Y) (vC Y) k n (f + 1) a = none ∧ x = 0 ∧ ∀ g : Nat, g < (f + 1) → M' 173 g = a (g : Int)))) := fun a M h1 h2 => ih (f + 1) a M (by omega) h1 h2
      refine wp_aload_n (pc := 8) d_Presses_assign_8 rfl ?_
      refine wp_iload_n (pc := 9) d_Presses_assign_9 rfl ?_
      refine wp_iconst (pc := 10) d_Presses_assign_10 rfl ?_
      refine wp_iast (pc := 11) d_Presses_assign_11 (zk_173 L) (by decide) (by omega) (by omega) ?_
      refine wp_aload_n (pc := 12) d_Presses_assign_12 rfl ?_
      refine wp_iload_n (pc := 13) d_Presses_assign_13 rfl ?_
      refine wp_callV1f (pc := 14) d_Presses_assign_14 rfl rfl (zk_161 L) rfl (decide_eq_true (by omega)) (c_Ch_ty b1 (by omega) (by omega)) ?_
      rw [ef]
      refine wp_if_ne (tgt := 30) (pc := 17) d_Presses_assign_17 rfl (fun c17 => ?_) (fun c17 => ?_)
      · refine wp_iconst (pc := 30) d_Presses_assign_30 rfl ?_
        refine wp_ist4 (pc := 31) d_Presses_assign_31 rfl ?_
        have hT : ¬ vT Y f = 0 := fun z => c17 (by rw [z]; rfl)
        refine wp_mono (lp_Pr_as (M0 := M) hk hf6 hT hrec 100 0 _ (by omega) (by omega) (by omega) k1 b1 b2 ?_) (fun r M' hr => hr)
        rw [show ((k : Int) - 0).toNat = k by omega]
        show (if vT Y f = 0 then _ else _) = _
        rw [if_neg hT]
      · refine wp_aload_n (pc := 20) d_Presses_assign_20 rfl ?_
        refine wp_aload_n (pc := 21) d_Presses_assign_21 rfl ?_
        refine wp_iload_n (pc := 22) d_Presses_assign_22 rfl ?_
        refine wp_iload_n (pc := 23) d_Presses_assign_23 rfl ?_
        refine wp_iconst (pc := 24) d_Presses_assign_24 rfl ?_
        refine wp_iadd (pc := 25) d_Presses_assign_25 (by omega) (by omega) ?_
        refine wp_callS4i (pc := 26) d_Presses_assign_26 rfl rfl rfl rfl (decide_eq_true (by omega)) (hrec (qPut a (f : Int) (-1)) _ b1 (fun g hg => by
            by_cases e : g = f
            · rw [e, qPut_eq]; exact b3
            · rw [qPut_ne (by omega)]; exact b2 g (by omega))) (fun x26 M26 h26 => ?_)
        refine wp_zreturn (pc := 29) d_Presses_assign_29 rfl (by rcases h26.2 with ⟨ρ, q1, q2, q3⟩ | ⟨q1, q2, q3⟩; exact Or.inr q2; exact Or.inl q2) ?_
        have hT : vT Y f = 0 := by omega
        obtain ⟨y1, y2⟩ := h26
        have e1 : vAs (vT Y) (vC Y) k (n + 1) f a = vAs (vT Y) (vC Y) k n (f + 1) (qPut a (f : Int) (-1)) := if_pos hT
        refine ⟨_, rfl, k1.tr y1, ?_⟩
        rw [e1]
        rcases y2 with ⟨ρ, q1, q2, q3⟩ | ⟨q1, q2, q3⟩
        · exact Or.inl ⟨ρ, q1, q2, q3⟩
        · exact Or.inr ⟨q1, q2, fun g hg => by rw [q3 g (by omega), qPut_ne (by omega)]⟩
    · exact absurd c3 (by omega)
theorem lp_Pr_build {M0 : zM} {v : Int} : ∀ (n9 : Nat) (k : Nat) (b : Int) (M : zM), 7 - (k : Int) < n9 → (b = 0 ∨ b = 1) → (k ≤ 7) → (zSm (fun b => b = 172 ∨ b = 173) M0 M) → (M 172 2 = v) → (qBc M Y) → (b = 0 → ∀ q, q < k → (vPs Y q).isSome = false) → (b = 1 → M 172 1 = ((vNum Y : Nat) : Int) ∧ ∀ g : Nat, g < 6 → M 173 g = vPo2 Y (g : Int)) → wp L 9 zm_Presses_build 24 [rV 172, rV 161, iV b, iV k] [] M (fun r M' => r = none ∧ (zSm (fun b => b = 172 ∨ b = 173) M0 M' ∧ M' 172 2 = v ∧ M' 172 1 = ((vNum Y : Nat) : Int) ∧ ∀ g : Nat, g < 6 → M' 173 g = vPo2 Y (g : Int))) := by
  intro n9
  induction n9 with
  | zero =>
    intro k  b  M  h9 g0 g1 g2 g3 g4 g5 g6
    exact absurd h9 (by omega)
  | succ n9 ih =>
    intro k  b  M  h9 g0 g1 g2 g3 g4 g5 g6
    refine wp_iload_n (pc := 24) d_Presses_build_24 rfl ?_
    refine wp_bipush (pc := 25) d_Presses_build_25 rfl ?_
    refine wp_icmp_gt (tgt := 56) (pc := 27) d_Presses_build_27 rfl (fun c27 => ?_) (fun c27 => ?_)
    · refine wp_return_ (pc := 56) d_Presses_build_56 rfl ?_
      rcases g0 with e | e
      · have h7 := (vNum_ok Y)
        first
        | (have h9 := g5 e (vNum Y) (by omega)
           rw [h9] at h7
           exact absurd h7.1 (by decide))
        | exact absurd e (by omega)
      · exact ⟨rfl, g2, g3, (g6 e).1, (g6 e).2⟩
    · refine wp_iload_n (pc := 30) d_Presses_build_30 rfl ?_
      refine wp_if_ne (tgt := 56) (pc := 31) d_Presses_build_31 rfl (fun c31 => ?_) (fun c31 => ?_)
      · refine wp_return_ (pc := 56) d_Presses_build_56 rfl ?_
        rcases g0 with e | e
        · have h7 := (vNum_ok Y)
          first
          | (have h9 := g5 e (vNum Y) (by omega)
             rw [h9] at h7
             exact absurd h7.1 (by decide))
          | exact absurd e (by omega)
        · exact ⟨rfl, g2, g3, (g6 e).1, (g6 e).2⟩
      · refine wp_aload_n (pc := 34) d_Presses_build_34 rfl ?_
        refine wp_aload_n (pc := 35) d_Presses_build_35 rfl ?_
        refine wp_getR (pc := 36) d_Presses_build_36 rfl (zk_172 L) zx_172_0 ?_
        refine wp_iload_n (pc := 39) d_Presses_build_39 rfl ?_
        refine wp_iconst (pc := 40) d_Presses_build_40 rfl ?_
        refine wp_callS4i (pc := 41) d_Presses_build_41 rfl rfl rfl rfl rfl (c_Pr_as (k := k) (by omega) 6 0 (fun _ => -1) M rfl g4 (fun g hg => absurd hg (by omega))) (fun x41 M41 h41 => ?_)
        obtain ⟨y1, y2⟩ := h41
        have k9 : zSm (fun b => b = 172) M41 (zU M41 172 1 k) := zSm.rf.u rfl
        refine wp_ist2 (pc := 44) d_Presses_build_44 rfl ?_
        refine wp_aload_n (pc := 45) d_Presses_build_45 rfl ?_
        refine wp_iload_n (pc := 46) d_Presses_build_46 rfl ?_
        refine wp_putI (pc := 47) d_Presses_build_47 rfl (zk_172 L) (by decide) ?_
        refine wp_iinc3 (pc := 50) d_Presses_build_50 rfl (by omega) (by omega) ?_
        refine wp_goto (tgt := 24) (pc := 53) d_Presses_build_53 rfl ?_
        have m1 := g4.keep (y1.up (S' := fun b => b = 172 ∨ b = 173) (fun b hb => Or.inr hb)) (fun b _ _ => by omega)
        have m2 := m1.keep k9 (fun b _ _ => by omega)
        have m3 : zSm (fun b => b = 172 ∨ b = 173) M0 (zU M41 172 1 k) := (g2.tr (y1.up (fun b hb => Or.inr hb))).tr (k9.up (fun b hb => Or.inl hb))
        have m4 : zU M41 172 1 k 172 2 = v := (zU_nk (by decide)).trans ((y1 172 (by decide) 2).trans g3)
        rcases y2 with ⟨ρ, q1, q2, q3⟩ | ⟨q1, q2, q3⟩
        · have hs : (vPs Y k).isSome = true := by
            rw [show vPs Y k = some ρ from q1]; rfl
          have hv : vNum Y = k := vNum_at Y hs (g5 (by omega))
          refine ih (k + 1) x41 _ (by omega) (Or.inr q2) (by omega) m3 m4 m2 (fun z => absurd z (by omega)) (fun _ => ⟨by rw [zU_eq, hv], fun g hg => ?_⟩)
          rw [zU_na (by decide), q3 g hg]
          unfold vPo2
          rw [hv, show vPs Y k = some ρ from q1]
          rfl
        · have hs : (vPs Y k).isSome = false := by
            rw [show vPs Y k = none from q1]; rfl
          exact ih (k + 1) x41 _ (by omega) (Or.inl q2) (by omega) m3 m4 m2 (fun _ q hq => by
            by_cases e : q = k
            · rw [e]; exact hs
            · exact g5 (by omega) q (by omega)) (fun z => absurd z (by omega))
theorem c_Pr_build (h : qBc M Y) (hc : M 172 2 = M 161 7 → M 172 1 = ((vNum Y : Nat) : Int) ∧ ∀ g : Nat, g < 6 → M 173 g = vPo2 Y (g : Int)) : Cv L 9 zm_Presses_build [rV 172, rV 161] M (fun M' => zSm (fun b => b = 172 ∨ b = 173) M M' ∧ M' 172 2 = M 161 7 ∧ M' 172 1 = ((vNum Y : Nat) : Int) ∧ ∀ g : Nat, g < 6 → M' 173 g = vPo2 Y (g : Int)) := by
  show wp L _ zm_Presses_build 0 [rV 172, rV 161, uV, uV] [] M _
  refine wp_aload_n (pc := 0) d_Presses_build_0 rfl ?_
  refine wp_getI (pc := 1) d_Presses_build_1 rfl (by decide) (zk_172 L) ?_
  refine wp_aload_n (pc := 4) d_Presses_build_4 rfl ?_
  refine wp_callV0f (pc := 5) d_Presses_build_5 rfl rfl (zk_161 L) rfl rfl c_Ch_bf ?_
  refine wp_icmp_ne (tgt := 12) (pc := 8) d_Presses_build_8 rfl (fun c8 => ?_) (fun c8 => ?_)
  · refine wp_aload_n (pc := 12) d_Presses_build_12 rfl ?_
    refine wp_aload_n (pc := 13) d_Presses_build_13 rfl ?_
    refine wp_callV0f (pc := 14) d_Presses_build_14 rfl rfl (zk_161 L) rfl rfl c_Ch_bf ?_
    refine wp_putI (pc := 17) d_Presses_build_17 rfl (zk_172 L) (by decide) ?_
    refine wp_iconst (pc := 20) d_Presses_build_20 rfl ?_
    refine wp_ist2 (pc := 21) d_Presses_build_21 rfl ?_
    refine wp_iconst (pc := 22) d_Presses_build_22 rfl ?_
    refine wp_ist3 (pc := 23) d_Presses_build_23 rfl ?_
    have k9 : zSm (fun b => b = 172) M (zU M 172 2 (M 161 7)) := zSm.rf.u rfl
    exact lp_Pr_build (M0 := M) (v := M 161 7) 100 0 0 _ (by omega) (Or.inl rfl) (by omega) (k9.up (fun b hb => Or.inl hb)) zU_eq (h.keep k9 (fun b _ _ => by omega)) (fun _ q hq => absurd hq (by omega)) (fun z => absurd z (by decide))
  · refine wp_return_ (pc := 11) d_Presses_build_11 rfl ?_
    exact ⟨rfl, zSm.rf, Decidable.of_not_not c8, hc (Decidable.of_not_not c8)⟩
theorem c_Pr_nu  : Cf L 0 zm_Presses_number [rV 172] M (iV (M 172 1)) M := by
  show wp L _ zm_Presses_number 0 [rV 172] [] M _
  refine wp_aload_n (pc := 0) d_Presses_number_0 rfl ?_
  refine wp_getI (pc := 1) d_Presses_number_1 rfl (by decide) (zk_172 L) ?_
  refine wp_ireturn (pc := 4) d_Presses_number_4 rfl ?_
  exact ⟨rfl, rfl⟩
theorem c_Pr_po (x0 : 0 ≤ x) (x1 : x < 6) : Cf L 0 zm_Presses_pressOf [rV 172, iV x] M (iV (M 173 x.toNat)) M := by
  show wp L _ zm_Presses_pressOf 0 [rV 172, iV x] [] M _
  refine wp_iload_n (pc := 0) d_Presses_pressOf_0 rfl ?_
  refine wp_if_lt (tgt := 19) (pc := 1) d_Presses_pressOf_1 rfl (fun c1 => ?_) (fun c1 => ?_)
  · exact absurd c1 (by omega)
  · refine wp_iload_n (pc := 4) d_Presses_pressOf_4 rfl ?_
    refine wp_bipush (pc := 5) d_Presses_pressOf_5 rfl ?_
    refine wp_icmp_ge (tgt := 19) (pc := 7) d_Presses_pressOf_7 rfl (fun c7 => ?_) (fun c7 => ?_)
    · exact absurd c7 (by omega)
    · refine wp_aload_n (pc := 10) d_Presses_pressOf_10 rfl ?_
      refine wp_getR (pc := 11) d_Presses_pressOf_11 rfl (zk_172 L) zx_172_0 ?_
      refine wp_iload_n (pc := 14) d_Presses_pressOf_14 rfl ?_
      refine wp_iald (pc := 15) d_Presses_pressOf_15 (zk_173 L) (by omega) (by omega) ?_
      refine wp_goto (tgt := 20) (pc := 16) d_Presses_pressOf_16 rfl ?_
      refine wp_ireturn (pc := 20) d_Presses_pressOf_20 rfl ?_
      exact ⟨rfl, rfl⟩
end ZPr
