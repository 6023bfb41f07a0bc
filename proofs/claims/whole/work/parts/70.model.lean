/-! the model: cell 174, rows 175 to 193. What it holds, place by place -/
/-- only the places of P are changed -/
def mF (P : Nat → Nat → Prop) (M M' : zM) : Prop := ∀ a k, ¬ P a k → M' a k = M a k
theorem mF.rf {P : Nat → Nat → Prop} {M : zM} : mF P M M := fun _ _ _ => rfl
theorem mF.tr {P : Nat → Nat → Prop} {M M1 M2 : zM} (h1 : mF P M M1) (h2 : mF P M1 M2) : mF P M M2 := fun a k ha => (h2 a k ha).trans (h1 a k ha)
theorem mF.up {P P' : Nat → Nat → Prop} {M M1 : zM} (h1 : mF P M M1) (h : ∀ a k, P a k → P' a k) : mF P' M M1 := fun a k ha => h1 a k (fun z => ha (h a k z))
theorem mF.u {P : Nat → Nat → Prop} {M M1 : zM} {a k : Nat} {v : Int} (h1 : mF P M M1) (h : P a k) : mF P M (zU M1 a k v) := fun b j hb => by
  by_cases e : b = a ∧ j = k
  · exact absurd h (by rw [← e.1, ← e.2]; exact hb)
  · exact (if_neg e).trans (h1 b j hb)
/-- copies; sightings; the page -/
def mH (M : zM) (D : qDt) : Prop := M 174 2 = D.2.2.2 ∧ M 174 5 = D.2.2.1 ∧ ∀ c : Int, 0 ≤ c → c < D.2.2.2 → M 176 c.toNat = D.2.1 c ∧ ∀ i : Int, 0 ≤ i → i < D.2.1 c → M 177 (24 * c + i).toNat = D.1 c i
def mY (M : zM) (Y : qYt) : Prop := M 174 7 = Y.1 ∧ ∀ i : Int, 0 ≤ i → i < Y.1 → M 178 i.toNat = Y.2 i 0 ∧ M 179 i.toNat = Y.2 i 1 ∧ M 180 i.toNat = Y.2 i 2 ∧ M 181 i.toNat = Y.2 i 3
def mG (M : zM) (g : qPt) : Prop := M 174 0 = g.1 ∧ ∀ i : Int, 0 ≤ i → i < g.1 → M 175 i.toNat = g.2 i
theorem mH.keep {P : Nat → Nat → Prop} {M M' : zM} {D : qDt} (h : mH M D) (hf : mF P M M') (h1 : ¬ P 174 2 ∧ ¬ P 174 5) (h2 : ∀ k, ¬ P 176 k) (h3 : ∀ k, ¬ P 177 k) : mH M' D :=
  ⟨(hf _ _ h1.1).trans h.1, (hf _ _ h1.2).trans h.2.1, fun c c0 c1 => ⟨(hf _ _ (h2 _)).trans (h.2.2 c c0 c1).1, fun i i0 i1 => (hf _ _ (h3 _)).trans ((h.2.2 c c0 c1).2 i i0 i1)⟩⟩
theorem mY.keep {P : Nat → Nat → Prop} {M M' : zM} {Y : qYt} (h : mY M Y) (hf : mF P M M') (h1 : ¬ P 174 7) (h2 : ∀ a k, 178 ≤ a → a < 182 → ¬ P a k) : mY M' Y :=
  ⟨(hf _ _ h1).trans h.1, fun i i0 i1 => ⟨(hf _ _ (h2 _ _ (by decide) (by decide))).trans (h.2 i i0 i1).1, (hf _ _ (h2 _ _ (by decide) (by decide))).trans (h.2 i i0 i1).2.1, (hf _ _ (h2 _ _ (by decide) (by decide))).trans (h.2 i i0 i1).2.2.1, (hf _ _ (h2 _ _ (by decide) (by decide))).trans (h.2 i i0 i1).2.2.2⟩⟩
theorem mG.keep {P : Nat → Nat → Prop} {M M' : zM} {g : qPt} (h : mG M g) (hf : mF P M M') (h1 : ¬ P 174 0) (h2 : ∀ k, ¬ P 175 k) : mG M' g :=
  ⟨(hf _ _ h1).trans h.1, fun i i0 i1 => (hf _ _ (h2 _)).trans (h.2 i i0 i1)⟩
/-- what holds of the copies: words -/
def mDi (D : qDt) : Prop := (0 ≤ D.2.2.2 ∧ D.2.2.2 ≤ 6) ∧ (0 ≤ D.2.2.1 ∧ D.2.2.1 ≤ 9) ∧ ∀ c : Int, 0 ≤ c → c < D.2.2.2 → (1 ≤ D.2.1 c ∧ D.2.1 c ≤ 24) ∧ ∀ i : Int, 0 ≤ i → i < D.2.1 c → 97 ≤ D.1 c i ∧ D.1 c i ≤ 122
def uLt (g : qPt) (x : Int) : Int × qPt := if 32 ≤ x ∧ x ≤ 126 then (if g.1 < 24 then (g.1 + 1, uAp g x) else (-104, g)) else (-102, g)
theorem mDi_put {D : qDt} {g : qPt} {x : Int} (h : mDi D) (x0 : 0 ≤ x) (x1 : x < 6) (x2 : x ≤ D.2.2.2) (hg : g.1 ≤ 24) (hw : uWd g) : mDi (uPt D x g) := by
  obtain ⟨h1, h2, h3⟩ := h
  have en : (uPt D x g).2.2.2 = if D.2.2.2 < x + 1 then x + 1 else D.2.2.2 := rfl
  refine ⟨by rw [en]; split <;> omega, h2, fun c c0 c1 => ?_⟩
  have e1 : (uPt D x g).2.1 c = if c = x then g.1 else D.2.1 c := rfl
  have e2 : (uPt D x g).1 c = if c = x then g.2 else D.1 c := rfl
  by_cases e : c = x
  · rw [e1, e2, if_pos e, if_pos e]
    exact ⟨⟨by have := hw.1; omega, hg⟩, hw.2⟩
  · rw [e1, e2, if_neg e, if_neg e]
    exact h3 c c0 (by rw [en] at c1; split at c1 <;> omega)
theorem mDi_drop {D : qDt} (h : mDi D) (hn : 0 < D.2.2.2) : mDi (uDr D) := by
  obtain ⟨h1, h2, h3⟩ := h
  have en : (uDr D).2.2.2 = D.2.2.2 - 1 := rfl
  refine ⟨by rw [en]; omega, h2, fun c c0 c1 => ?_⟩
  rw [en] at c1
  have e1 : (uDr D).2.1 c = D.2.1 c := if_pos ⟨c0, c1⟩
  have e2 : (uDr D).1 c = D.1 c := if_pos ⟨c0, c1⟩
  rw [e1, e2]
  exact h3 c c0 (by omega)
theorem mDi_band {D : qDt} {v : Int} (h : mDi D) (hv : 0 ≤ v ∧ v ≤ 9) : mDi (uBd D v) := ⟨h.1, hv, h.2.2⟩
section ZM1
variable {L : Nat} {M : zM} {D : qDt} {Y : qYt} {g : qPt} {x y z w c p s i j : Int}
theorem c_M_within  : Cf L 0 zm_M_within [iV x, iV y, iV z] M (iV (if y ≤ x ∧ x ≤ z then 1 else 0)) M := by
  show wp L _ zm_M_within 0 [iV x, iV y, iV z] [] M _
  refine wp_iload_n (pc := 0) d_M_within_0 rfl ?_
  refine wp_iload_n (pc := 1) d_M_within_1 rfl ?_
  refine wp_icmp_lt (tgt := 14) (pc := 2) d_M_within_2 rfl (fun c2 => ?_) (fun c2 => ?_)
  · refine wp_iconst (pc := 14) d_M_within_14 rfl ?_
    refine wp_zreturn (pc := 15) d_M_within_15 rfl (by omega) ?_
    first | exact ⟨by rw [if_pos (by omega)], rfl⟩ | exact ⟨by rw [if_neg (by omega)], rfl⟩
  · refine wp_iload_n (pc := 5) d_M_within_5 rfl ?_
    refine wp_iload_n (pc := 6) d_M_within_6 rfl ?_
    refine wp_icmp_gt (tgt := 14) (pc := 7) d_M_within_7 rfl (fun c7 => ?_) (fun c7 => ?_)
    · refine wp_iconst (pc := 14) d_M_within_14 rfl ?_
      refine wp_zreturn (pc := 15) d_M_within_15 rfl (by omega) ?_
      first | exact ⟨by rw [if_pos (by omega)], rfl⟩ | exact ⟨by rw [if_neg (by omega)], rfl⟩
    · refine wp_iconst (pc := 10) d_M_within_10 rfl ?_
      refine wp_goto (tgt := 15) (pc := 11) d_M_within_11 rfl ?_
      refine wp_zreturn (pc := 15) d_M_within_15 rfl (by omega) ?_
      first | exact ⟨by rw [if_pos (by omega)], rfl⟩ | exact ⟨by rw [if_neg (by omega)], rfl⟩
theorem c_M_letter (hg : mG M g) (h24 : 0 ≤ g.1 ∧ g.1 ≤ 24) : Ci L 1 zm_M_letter [rV 174, iV x] M (fun z M' => mF (fun a k => a = 175 ∨ a = 174 ∧ k = 0) M M' ∧ z = (uLt g x).1 ∧ mG M' (uLt g x).2) := by
  show wp L _ zm_M_letter 0 [rV 174, iV x] [] M _
  have e0 := hg.1
  refine wp_iload_n (pc := 0) d_M_letter_0 rfl ?_
  refine wp_bipush (pc := 1) d_M_letter_1 rfl ?_
  refine wp_bipush (pc := 3) d_M_letter_3 rfl ?_
  refine wp_callS3f (pc := 5) d_M_letter_5 rfl rfl rfl rfl rfl c_M_within ?_
  refine wp_if_ne (tgt := 14) (pc := 8) d_M_letter_8 rfl (fun c8 => ?_) (fun c8 => ?_)
  · have c8 := zb_ne0 c8
    refine wp_aload_n (pc := 14) d_M_letter_14 rfl ?_
    refine wp_getI (pc := 15) d_M_letter_15 rfl (by decide) (zk_174 L) ?_
    refine wp_bipush (pc := 18) d_M_letter_18 rfl ?_
    refine wp_icmp_ne (tgt := 26) (pc := 20) d_M_letter_20 rfl (fun c20 => ?_) (fun c20 => ?_)
    · refine wp_aload_n (pc := 26) d_M_letter_26 rfl ?_
      refine wp_getR (pc := 27) d_M_letter_27 rfl (zk_174 L) zx_174_1 ?_
      refine wp_aload_n (pc := 30) d_M_letter_30 rfl ?_
      refine wp_getI (pc := 31) d_M_letter_31 rfl (by decide) (zk_174 L) ?_
      refine wp_iload_n (pc := 34) d_M_letter_34 rfl ?_
      refine wp_iast (pc := 35) d_M_letter_35 (zk_175 L) (by decide) (by omega) (by omega) ?_
      refine wp_aload_n (pc := 36) d_M_letter_36 rfl ?_
      refine wp_dup (pc := 37) d_M_letter_37 rfl ?_
      refine wp_getI (pc := 38) d_M_letter_38 rfl (by decide) (zk_174 L) ?_
      refine wp_iconst (pc := 41) d_M_letter_41 rfl ?_
      refine wp_iadd (pc := 42) d_M_letter_42 (by rw [zU_na (by decide)]; omega) (by rw [zU_na (by decide)]; omega) ?_
      refine wp_putI (pc := 43) d_M_letter_43 rfl (zk_174 L) (by decide) ?_
      refine wp_aload_n (pc := 46) d_M_letter_46 rfl ?_
      refine wp_getI (pc := 47) d_M_letter_47 rfl (by decide) (zk_174 L) ?_
      refine wp_ireturn (pc := 50) d_M_letter_50 rfl ?_
      have eu : uLt g x = (g.1 + 1, uAp g x) := by unfold uLt; rw [if_pos (by omega), if_pos (by omega)]
      refine ⟨_, rfl, (mF.rf.u (by omega)).u (by omega), ?_, ?_⟩
      · rw [eu, zU_eq, zU_na (by decide), e0]
      · rw [eu]
        refine ⟨by rw [zU_eq, zU_na (by decide), e0]; rfl, fun i i0 i1 => ?_⟩
        rw [zU_na (by decide)]
        show _ = if i = g.1 then x else g.2 i
        by_cases e : i = g.1
        · rw [if_pos e, show i.toNat = (M 174 0).toNat by rw [e0, e], zU_eq]
        · have i1 : i < g.1 + 1 := i1
          rw [if_neg e, zU_nk (by omega), hg.2 i i0 (by omega)]
    · refine wp_bipush (pc := 23) d_M_letter_23 rfl ?_
      refine wp_ireturn (pc := 25) d_M_letter_25 rfl ?_
      have eu : uLt g x = (-104, g) := by unfold uLt; rw [if_pos (by omega), if_neg (by omega)]
      exact ⟨_, rfl, mF.rf, by rw [eu], by rw [eu]; exact hg⟩
  · have c8 := zb_eq0 (Decidable.of_not_not c8)
    refine wp_bipush (pc := 11) d_M_letter_11 rfl ?_
    refine wp_ireturn (pc := 13) d_M_letter_13 rfl ?_
    refine ⟨_, rfl, mF.rf, ?_, ?_⟩
    · unfold uLt; rw [if_neg (by omega)]
    · unfold uLt; rw [if_neg (by omega)]; exact hg
theorem c_M_blank (hg : mG M g) : Ci L 1 zm_M_blank [rV 174] M (fun z M' => mF (fun a k => a = 174 ∧ k = 0) M M' ∧ z = g.1 ∧ mG M' uEm) := by
  show wp L _ zm_M_blank 0 [rV 174, uV] [] M _
  refine wp_aload_n (pc := 0) d_M_blank_0 rfl ?_
  refine wp_getI (pc := 1) d_M_blank_1 rfl (by decide) (zk_174 L) ?_
  refine wp_ist1 (pc := 4) d_M_blank_4 rfl ?_
  refine wp_aload_n (pc := 5) d_M_blank_5 rfl ?_
  refine wp_iconst (pc := 6) d_M_blank_6 rfl ?_
  refine wp_putI (pc := 7) d_M_blank_7 rfl (zk_174 L) (by decide) ?_
  refine wp_iload_n (pc := 10) d_M_blank_10 rfl ?_
  refine wp_ireturn (pc := 11) d_M_blank_11 rfl ?_
  exact ⟨_, rfl, mF.rf.u (by omega), hg.1, zU_eq, fun i i0 i1 => absurd i1 (by show ¬ i < 0; omega)⟩
/-- the first k characters of the page, and that there are some, as a flag -/
def mW (g : qPt) (k : Nat) : Prop := 0 < g.1 ∧ ∀ i : Int, 0 ≤ i → i < k → 97 ≤ g.2 i ∧ g.2 i ≤ 122
theorem lp_M_isCopyPage (hg : mG M g) (h24 : 0 ≤ g.1 ∧ g.1 ≤ 24) : ∀ (n9 : Nat) (k : Nat) (v : Int) (i : Int), g.1 - i < n9 → (i = k) → (i ≤ g.1) → (v = 0 ∨ v = 1) → (v = 1 ↔ mW g k) → wp L 1 zm_M_isCopyPage 15 [rV 174, iV v, iV i] [] M (fun r M' => ∃ x, r = some (iV x) ∧ (M' = M ∧ (x = 0 ∨ x = 1) ∧ (x = 1 ↔ uWd g))) := by
  intro n9
  induction n9 with
  | zero =>
    intro k  v  i  h9 g1 g2 g3 g4
    exact absurd h9 (by omega)
  | succ n9 ih =>
    intro k  v  i  h9 g1 g2 g3 g4
    have e0 := hg.1
    refine wp_iload_n (pc := 15) d_M_isCopyPage_15 rfl ?_
    refine wp_aload_n (pc := 16) d_M_isCopyPage_16 rfl ?_
    refine wp_getI (pc := 17) d_M_isCopyPage_17 rfl (by decide) (zk_174 L) ?_
    refine wp_icmp_ge (tgt := 55) (pc := 20) d_M_isCopyPage_20 rfl (fun c20 => ?_) (fun c20 => ?_)
    · refine wp_iload_n (pc := 55) d_M_isCopyPage_55 rfl ?_
      refine wp_zreturn (pc := 56) d_M_isCopyPage_56 rfl (by omega) ?_
      refine ⟨_, rfl, rfl, g3, g4.trans ?_⟩
      have ek : g.1 = (k : Int) := by omega
      unfold mW uWd
      rw [ek]
    · refine wp_iload_n (pc := 23) d_M_isCopyPage_23 rfl ?_
      refine wp_if_eq (tgt := 47) (pc := 24) d_M_isCopyPage_24 rfl (fun c24 => ?_) (fun c24 => ?_)
      · refine wp_iconst (pc := 47) d_M_isCopyPage_47 rfl ?_
        refine wp_ist1 (pc := 48) d_M_isCopyPage_48 rfl ?_
        refine wp_iinc2 (pc := 49) d_M_isCopyPage_49 rfl (by omega) (by omega) ?_
        refine wp_goto (tgt := 15) (pc := 52) d_M_isCopyPage_52 rfl ?_
        refine ih (k + 1) _ (i + 1) (by omega) (by omega) (by omega) (by omega) ?_
        have hmw : mW g (k + 1) ↔ mW g k ∧ 97 ≤ g.2 i ∧ g.2 i ≤ 122 := by
          constructor
          · exact fun z => ⟨⟨z.1, fun j j0 j1 => z.2 j j0 (by omega)⟩, z.2 i (by omega) (by omega)⟩
          · rintro ⟨z, z2⟩
            refine ⟨z.1, fun j j0 j1 => ?_⟩
            by_cases e : j = i
            · rw [e]; exact z2
            · exact z.2 j j0 (by omega)
        rw [hmw]
        first
        | (have := g4.1 (by omega)
           rw [ei] at c40
           exact ⟨fun _ => ⟨this, c40⟩, fun _ => rfl⟩)
        | (rw [ei] at c40
           exact ⟨fun z => absurd z (by decide), fun z => absurd z.2 c40⟩)
        | exact ⟨fun z => absurd z (by decide), fun z => absurd (g4.2 z.1) (by omega)⟩
      · refine wp_aload_n (pc := 27) d_M_isCopyPage_27 rfl ?_
        refine wp_getR (pc := 28) d_M_isCopyPage_28 rfl (zk_174 L) zx_174_1 ?_
        refine wp_iload_n (pc := 31) d_M_isCopyPage_31 rfl ?_
        have ei := hg.2 i (by omega) (by omega)
        refine wp_iald (pc := 32) d_M_isCopyPage_32 (zk_175 L) (by omega) (by omega) ?_
        refine wp_bipush (pc := 33) d_M_isCopyPage_33 rfl ?_
        refine wp_bipush (pc := 35) d_M_isCopyPage_35 rfl ?_
        refine wp_callS3f (pc := 37) d_M_isCopyPage_37 rfl rfl rfl rfl rfl c_M_within ?_
        refine wp_if_eq (tgt := 47) (pc := 40) d_M_isCopyPage_40 rfl (fun c40 => ?_) (fun c40 => ?_)
        · have c40 := zb_eq0 c40
          refine wp_iconst (pc := 47) d_M_isCopyPage_47 rfl ?_
          refine wp_ist1 (pc := 48) d_M_isCopyPage_48 rfl ?_
          refine wp_iinc2 (pc := 49) d_M_isCopyPage_49 rfl (by omega) (by omega) ?_
          refine wp_goto (tgt := 15) (pc := 52) d_M_isCopyPage_52 rfl ?_
          refine ih (k + 1) _ (i + 1) (by omega) (by omega) (by omega) (by omega) ?_
          have hmw : mW g (k + 1) ↔ mW g k ∧ 97 ≤ g.2 i ∧ g.2 i ≤ 122 := by
            constructor
            · exact fun z => ⟨⟨z.1, fun j j0 j1 => z.2 j j0 (by omega)⟩, z.2 i (by omega) (by omega)⟩
            · rintro ⟨z, z2⟩
              refine ⟨z.1, fun j j0 j1 => ?_⟩
              by_cases e : j = i
              · rw [e]; exact z2
              · exact z.2 j j0 (by omega)
          rw [hmw]
          first
          | (have := g4.1 (by omega)
             rw [ei] at c40
             exact ⟨fun _ => ⟨this, c40⟩, fun _ => rfl⟩)
          | (rw [ei] at c40
             exact ⟨fun z => absurd z (by decide), fun z => absurd z.2 c40⟩)
          | exact ⟨fun z => absurd z (by decide), fun z => absurd (g4.2 z.1) (by omega)⟩
        · have c40 := zb_ne0 c40
          refine wp_iconst (pc := 43) d_M_isCopyPage_43 rfl ?_
          refine wp_goto (tgt := 48) (pc := 44) d_M_isCopyPage_44 rfl ?_
          refine wp_ist1 (pc := 48) d_M_isCopyPage_48 rfl ?_
          refine wp_iinc2 (pc := 49) d_M_isCopyPage_49 rfl (by omega) (by omega) ?_
          refine wp_goto (tgt := 15) (pc := 52) d_M_isCopyPage_52 rfl ?_
          refine ih (k + 1) _ (i + 1) (by omega) (by omega) (by omega) (by omega) ?_
          have hmw : mW g (k + 1) ↔ mW g k ∧ 97 ≤ g.2 i ∧ g.2 i ≤ 122 := by
            constructor
            · exact fun z => ⟨⟨z.1, fun j j0 j1 => z.2 j j0 (by omega)⟩, z.2 i (by omega) (by omega)⟩
            · rintro ⟨z, z2⟩
              refine ⟨z.1, fun j j0 j1 => ?_⟩
              by_cases e : j = i
              · rw [e]; exact z2
              · exact z.2 j j0 (by omega)
          rw [hmw]
          first
          | (have := g4.1 (by omega)
             rw [ei] at c40
             exact ⟨fun _ => ⟨this, c40⟩, fun _ => rfl⟩)
          | (rw [ei] at c40
             exact ⟨fun z => absurd z (by decide), fun z => absurd z.2 c40⟩)
          | exact ⟨fun z => absurd z (by decide), fun z => absurd (g4.2 z.1) (by omega)⟩
theorem c_M_isCopyPage (hg : mG M g) (h24 : 0 ≤ g.1 ∧ g.1 ≤ 24) : Ci L 1 zm_M_isCopyPage [rV 174] M (fun x M' => M' = M ∧ (x = 0 ∨ x = 1) ∧ (x = 1 ↔ uWd g)) := by
  show wp L _ zm_M_isCopyPage 0 [rV 174, uV, uV] [] M _
  have e0 := hg.1
  refine wp_aload_n (pc := 0) d_M_isCopyPage_0 rfl ?_
  refine wp_getI (pc := 1) d_M_isCopyPage_1 rfl (by decide) (zk_174 L) ?_
  refine wp_if_le (tgt := 11) (pc := 4) d_M_isCopyPage_4 rfl (fun c4 => ?_) (fun c4 => ?_)
  · refine wp_iconst (pc := 11) d_M_isCopyPage_11 rfl ?_
    refine wp_ist1 (pc := 12) d_M_isCopyPage_12 rfl ?_
    refine wp_iconst (pc := 13) d_M_isCopyPage_13 rfl ?_
    refine wp_ist2 (pc := 14) d_M_isCopyPage_14 rfl ?_
    refine lp_M_isCopyPage hg h24 100 0 _ 0 (by omega) rfl (by omega) (by omega) ?_
    unfold mW
    first
    | exact ⟨fun _ => ⟨by omega, fun i i0 i1 => absurd i1 (by omega)⟩, fun _ => rfl⟩
    | exact ⟨fun z => absurd z (by decide), fun z => absurd z.1 (by omega)⟩
  · refine wp_iconst (pc := 7) d_M_isCopyPage_7 rfl ?_
    refine wp_goto (tgt := 12) (pc := 8) d_M_isCopyPage_8 rfl ?_
    refine wp_ist1 (pc := 12) d_M_isCopyPage_12 rfl ?_
    refine wp_iconst (pc := 13) d_M_isCopyPage_13 rfl ?_
    refine wp_ist2 (pc := 14) d_M_isCopyPage_14 rfl ?_
    refine lp_M_isCopyPage hg h24 100 0 _ 0 (by omega) rfl (by omega) (by omega) ?_
    unfold mW
    first
    | exact ⟨fun _ => ⟨by omega, fun i i0 i1 => absurd i1 (by omega)⟩, fun _ => rfl⟩
    | exact ⟨fun z => absurd z (by decide), fun z => absurd z.1 (by omega)⟩
theorem lp_M_readInto {M0 : zM} (hg : mG M0 g) (h24 : 0 ≤ g.1 ∧ g.1 ≤ 24) (x0 : 0 ≤ x) (x1 : x < 6) (h6 : 0 ≤ M0 174 6 ∧ M0 174 6 ≤ 100000) : ∀ (n9 : Nat) (k : Nat) (i : Int) (M : zM), g.1 - i < n9 → (i = k) → (i ≤ g.1) → (mF (fun a k => a = 176 ∧ k = x.toNat ∨ a = 177 ∧ 24 * x.toNat ≤ k ∧ k < 24 * x.toNat + 24) M0 M) → (M 176 x.toNat = g.1) → (∀ i : Int, 0 ≤ i → i < k → M 177 (24 * x + i).toNat = g.2 i) → wp L 0 zm_M_readInto 12 [rV 174, iV x, iV i] [] M (fun r M' => r = none ∧ (mF (fun a k => a = 176 ∧ k = x.toNat ∨ a = 177 ∧ 24 * x.toNat ≤ k ∧ k < 24 * x.toNat + 24 ∨ a = 174 ∧ (k = 0 ∨ k = 6)) M0 M' ∧ M' 176 x.toNat = g.1 ∧ (∀ i : Int, 0 ≤ i → i < g.1 → M' 177 (24 * x + i).toNat = g.2 i) ∧ M' 174 0 = 0 ∧ M' 174 6 = M0 174 6 + 1)) := by
  intro n9
  induction n9 with
  | zero =>
    intro k  i  M  h9 g1 g2 g3 g4 g5
    exact absurd h9 (by omega)
  | succ n9 ih =>
    intro k  i  M  h9 g1 g2 g3 g4 g5
    have e0 : M 174 0 = g.1 := (g3 174 0 (by omega)).trans hg.1
    have e6 : M 174 6 = M0 174 6 := g3 174 6 (by omega)
    refine wp_iload_n (pc := 12) d_M_readInto_12 rfl ?_
    refine wp_aload_n (pc := 13) d_M_readInto_13 rfl ?_
    refine wp_getI (pc := 14) d_M_readInto_14 rfl (by decide) (zk_174 L) ?_
    refine wp_icmp_ge (tgt := 43) (pc := 17) d_M_readInto_17 rfl (fun c17 => ?_) (fun c17 => ?_)
    · refine wp_aload_n (pc := 43) d_M_readInto_43 rfl ?_
      refine wp_iconst (pc := 44) d_M_readInto_44 rfl ?_
      refine wp_putI (pc := 45) d_M_readInto_45 rfl (zk_174 L) (by decide) ?_
      refine wp_aload_n (pc := 48) d_M_readInto_48 rfl ?_
      refine wp_dup (pc := 49) d_M_readInto_49 rfl ?_
      refine wp_getI (pc := 50) d_M_readInto_50 rfl (by decide) (zk_174 L) ?_
      refine wp_iconst (pc := 53) d_M_readInto_53 rfl ?_
      refine wp_iadd (pc := 54) d_M_readInto_54 (by rw [zU_nk (by decide)]; omega) (by rw [zU_nk (by decide)]; omega) ?_
      refine wp_putI (pc := 55) d_M_readInto_55 rfl (zk_174 L) (by decide) ?_
      refine wp_return_ (pc := 58) d_M_readInto_58 rfl ?_
      refine ⟨rfl, ((g3.up (fun a k h => by omega)).u (by omega)).u (by omega), ?_, fun q q0 q1 => ?_, ?_, ?_⟩
      · rw [zU_na (by decide), zU_na (by decide)]; exact g4
      · rw [zU_na (by decide), zU_na (by decide)]; exact g5 q q0 (by omega)
      · rw [zU_nk (by decide), zU_eq]
      · rw [zU_eq, zU_nk (by decide), e6]
    · refine wp_aload_n (pc := 20) d_M_readInto_20 rfl ?_
      refine wp_getR (pc := 21) d_M_readInto_21 rfl (zk_174 L) zx_174_4 ?_
      refine wp_bipush (pc := 24) d_M_readInto_24 rfl ?_
      refine wp_iload_n (pc := 26) d_M_readInto_26 rfl ?_
      refine wp_imul (pc := 27) d_M_readInto_27 (by omega) (by omega) ?_
      refine wp_iload_n (pc := 28) d_M_readInto_28 rfl ?_
      refine wp_iadd (pc := 29) d_M_readInto_29 (by omega) (by omega) ?_
      refine wp_aload_n (pc := 30) d_M_readInto_30 rfl ?_
      refine wp_getR (pc := 31) d_M_readInto_31 rfl (zk_174 L) zx_174_1 ?_
      refine wp_iload_n (pc := 34) d_M_readInto_34 rfl ?_
      have ei : M 175 i.toNat = g.2 i := (g3 175 _ (by omega)).trans (hg.2 i (by omega) (by omega))
      refine wp_iald (pc := 35) d_M_readInto_35 (zk_175 L) (by omega) (by omega) ?_
      refine wp_iast (pc := 36) d_M_readInto_36 (zk_177 L) (by decide) (by omega) (by omega) ?_
      refine wp_iinc2 (pc := 37) d_M_readInto_37 rfl (by omega) (by omega) ?_
      refine wp_goto (tgt := 12) (pc := 40) d_M_readInto_40 rfl ?_
      refine ih (k + 1) (i + 1) _ (by omega) (by omega) (by omega) (g3.u (by omega)) (by rw [zU_na (by decide)]; exact g4) (fun q q0 q1 => ?_)
      by_cases e : q = i
      · rw [e, zU_eq, ei]
      · rw [zU_nk (by omega)]; exact g5 q q0 (by omega)
theorem c_M_readInto (hg : mG M g) (h24 : 0 ≤ g.1 ∧ g.1 ≤ 24) (x0 : 0 ≤ x) (x1 : x < 6) (h6 : 0 ≤ M 174 6 ∧ M 174 6 ≤ 100000) : Cv L 0 zm_M_readInto [rV 174, iV x] M (fun M' => mF (fun a k => a = 176 ∧ k = x.toNat ∨ a = 177 ∧ 24 * x.toNat ≤ k ∧ k < 24 * x.toNat + 24 ∨ a = 174 ∧ (k = 0 ∨ k = 6)) M M' ∧ M' 176 x.toNat = g.1 ∧ (∀ i : Int, 0 ≤ i → i < g.1 → M' 177 (24 * x + i).toNat = g.2 i) ∧ M' 174 0 = 0 ∧ M' 174 6 = M 174 6 + 1) := by
  show wp L _ zm_M_readInto 0 [rV 174, iV x, uV] [] M _
  refine wp_aload_n (pc := 0) d_M_readInto_0 rfl ?_
  refine wp_getR (pc := 1) d_M_readInto_1 rfl (zk_174 L) zx_174_3 ?_
  refine wp_iload_n (pc := 4) d_M_readInto_4 rfl ?_
  refine wp_aload_n (pc := 5) d_M_readInto_5 rfl ?_
  refine wp_getI (pc := 6) d_M_readInto_6 rfl (by decide) (zk_174 L) ?_
  refine wp_iast (pc := 9) d_M_readInto_9 (zk_176 L) (by decide) (by omega) (by omega) ?_
  refine wp_iconst (pc := 10) d_M_readInto_10 rfl ?_
  refine wp_ist2 (pc := 11) d_M_readInto_11 rfl ?_
  exact lp_M_readInto (M0 := M) hg h24 x0 x1 h6 100 0 0 _ (by omega) rfl (by omega) (mF.rf.u (by omega)) (by rw [zU_eq]; exact hg.1) (fun i i0 i1 => absurd i1 (by omega))
/-- a copy is put -/
theorem mH_put {M M' : zM} {D : qDt} {g : qPt} {x : Int} (h : mH M D) (hd : mDi D) (x0 : 0 ≤ x) (x1 : x < 6) (x2 : x ≤ D.2.2.2) (hf : mF (fun a k => a = 176 ∧ k = x.toNat ∨ a = 177 ∧ 24 * x.toNat ≤ k ∧ k < 24 * x.toNat + 24 ∨ a = 174 ∧ (k = 0 ∨ k = 6 ∨ k = 2)) M M') (h1 : M' 176 x.toNat = g.1) (h2 : ∀ i : Int, 0 ≤ i → i < g.1 → M' 177 (24 * x + i).toNat = g.2 i) (hn : M' 174 2 = if D.2.2.2 < x + 1 then x + 1 else D.2.2.2) : mH M' (uPt D x g) := by
  refine ⟨hn, (hf 174 5 (by omega)).trans h.2.1, fun c c0 c1 => ?_⟩
  have c1 : c < if D.2.2.2 < x + 1 then x + 1 else D.2.2.2 := c1
  have e1 : (uPt D x g).2.1 c = if c = x then g.1 else D.2.1 c := rfl
  have e2 : (uPt D x g).1 c = if c = x then g.2 else D.1 c := rfl
  by_cases e : c = x
  · rw [e1, e2, if_pos e, if_pos e, e]
    exact ⟨h1, h2⟩
  · have c2 : c < D.2.2.2 := by split at c1 <;> omega
    rw [e1, e2, if_neg e, if_neg e]
    have hl := (hd.2.2 c c0 c2).1
    exact ⟨(hf 176 _ (by omega)).trans (h.2.2 c c0 c2).1, fun i i0 i1 => (hf 177 _ (by omega)).trans ((h.2.2 c c0 c2).2 i i0 i1)⟩
theorem c_M_isCopy (h : mH M D) (hd : mDi D) : Cf L 1 zm_M_isCopy [rV 174, iV x] M (iV (if 0 ≤ x ∧ x < D.2.2.2 then 1 else 0)) M := by
  show wp L _ zm_M_isCopy 0 [rV 174, iV x] [] M _
  have e2 := h.1
  have hd1 := hd.1
  refine wp_iload_n (pc := 0) d_M_isCopy_0 rfl ?_
  refine wp_iconst (pc := 1) d_M_isCopy_1 rfl ?_
  refine wp_aload_n (pc := 2) d_M_isCopy_2 rfl ?_
  refine wp_getI (pc := 3) d_M_isCopy_3 rfl (by decide) (zk_174 L) ?_
  refine wp_iconst (pc := 6) d_M_isCopy_6 rfl ?_
  refine wp_isub (pc := 7) d_M_isCopy_7 (by omega) (by omega) ?_
  refine wp_callS3f (pc := 8) d_M_isCopy_8 rfl rfl rfl rfl rfl c_M_within ?_
  refine wp_zreturn (pc := 11) d_M_isCopy_11 rfl (by split <;> omega) ?_
  refine ⟨?_, rfl⟩
  rw [e2]
  by_cases e : 0 ≤ x ∧ x < D.2.2.2
  · rw [if_pos e, if_pos (by omega)]
  · rw [if_neg e, if_neg (by omega)]
theorem c_M_copy (h : mH M D) (hd : mDi D) (hg : mG M g) (h24 : 0 ≤ g.1 ∧ g.1 ≤ 24) (h6 : 0 ≤ M 174 6 ∧ M 174 6 ≤ 100000) : Ci L 2 zm_M_copy [rV 174] M (fun z M' => ¬ uWd g ∧ z = -103 ∧ M' = M ∨ uWd g ∧ ¬ D.2.2.2 < 6 ∧ z = -104 ∧ M' = M ∨ uWd g ∧ D.2.2.2 < 6 ∧ z = D.2.2.2 ∧ mF (fun a k => 174 ≤ a ∧ a < 178 ∧ ¬ (a = 174 ∧ ¬ (k = 0 ∨ k = 2 ∨ k = 5 ∨ k = 6))) M M' ∧ mH M' (uPt D D.2.2.2 g) ∧ mG M' uEm ∧ M' 174 6 = M 174 6 + 1) := by
  show wp L _ zm_M_copy 0 [rV 174] [] M _
  have e2 := h.1
  have hd1 := hd.1
  refine wp_aload_n (pc := 0) d_M_copy_0 rfl ?_
  refine wp_callV0i (pc := 1) d_M_copy_1 rfl rfl (zk_174 L) rfl rfl (c_M_isCopyPage hg h24) (fun x1 M1 h1 => ?_)
  obtain ⟨j1, j2, j3⟩ := h1
  rw [j1]
  refine wp_if_ne (tgt := 10) (pc := 4) d_M_copy_4 rfl (fun c4 => ?_) (fun c4 => ?_)
  · refine wp_aload_n (pc := 10) d_M_copy_10 rfl ?_
    refine wp_getI (pc := 11) d_M_copy_11 rfl (by decide) (zk_174 L) ?_
    refine wp_bipush (pc := 14) d_M_copy_14 rfl ?_
    refine wp_icmp_ne (tgt := 22) (pc := 16) d_M_copy_16 rfl (fun c16 => ?_) (fun c16 => ?_)
    · refine wp_aload_n (pc := 22) d_M_copy_22 rfl ?_
      refine wp_aload_n (pc := 23) d_M_copy_23 rfl ?_
      refine wp_getI (pc := 24) d_M_copy_24 rfl (by decide) (zk_174 L) ?_
      refine wp_callV1v (pc := 27) d_M_copy_27 rfl rfl (zk_174 L) rfl rfl (c_M_readInto hg h24 (by omega) (by omega) h6) (fun M27 h27 => ?_)
      obtain ⟨w1, w2, w3, w4, w5⟩ := h27
      have f2 : M27 174 2 = M 174 2 := w1 174 2 (by omega)
      refine wp_aload_n (pc := 30) d_M_copy_30 rfl ?_
      refine wp_dup (pc := 31) d_M_copy_31 rfl ?_
      refine wp_getI (pc := 32) d_M_copy_32 rfl (by decide) (zk_174 L) ?_
      refine wp_iconst (pc := 35) d_M_copy_35 rfl ?_
      refine wp_iadd (pc := 36) d_M_copy_36 (by omega) (by omega) ?_
      refine wp_putI (pc := 37) d_M_copy_37 rfl (zk_174 L) (by decide) ?_
      refine wp_aload_n (pc := 40) d_M_copy_40 rfl ?_
      refine wp_getI (pc := 41) d_M_copy_41 rfl (by decide) (zk_174 L) ?_
      refine wp_iconst (pc := 44) d_M_copy_44 rfl ?_
      refine wp_isub (pc := 45) d_M_copy_45 (by rw [zU_eq]; omega) (by rw [zU_eq]; omega) ?_
      refine wp_ireturn (pc := 46) d_M_copy_46 rfl ?_
      rw [e2] at w1 w2 w3
      have k1 : mF (fun a k => a = 176 ∧ k = D.2.2.2.toNat ∨ a = 177 ∧ 24 * D.2.2.2.toNat ≤ k ∧ k < 24 * D.2.2.2.toNat + 24 ∨ a = 174 ∧ (k = 0 ∨ k = 6 ∨ k = 2)) M (zU M27 174 2 (M27 174 2 + 1)) := (w1.up (fun a k h => by omega)).u (by omega)
      refine ⟨_, rfl, Or.inr (Or.inr ⟨j3.1 (by omega), by omega, by rw [zU_eq]; omega, k1.up (fun a k h => by omega), ?_, ?_, ?_⟩)⟩
      · exact mH_put h hd hd1.1 (by omega) (by omega) k1 (by rw [zU_na (by decide)]; exact w2) (fun i i0 i1 => by rw [zU_na (by decide)]; exact w3 i i0 i1) (by rw [zU_eq, if_pos (by omega), f2, e2])
      · exact ⟨by rw [zU_nk (by decide)]; exact w4, fun i i0 i1 => absurd i1 (by show ¬ i < 0; omega)⟩
      · rw [zU_nk (by decide)]; exact w5
    · refine wp_bipush (pc := 19) d_M_copy_19 rfl ?_
      refine wp_ireturn (pc := 21) d_M_copy_21 rfl ?_
      exact ⟨_, rfl, Or.inr (Or.inl ⟨j3.1 (by omega), by omega, rfl, rfl⟩)⟩
  · refine wp_bipush (pc := 7) d_M_copy_7 rfl ?_
    refine wp_ireturn (pc := 9) d_M_copy_9 rfl ?_
    exact ⟨_, rfl, Or.inl ⟨fun z => by have := j3.2 z; omega, rfl, rfl⟩⟩
theorem c_M_correct (h : mH M D) (hd : mDi D) (hg : mG M g) (h24 : 0 ≤ g.1 ∧ g.1 ≤ 24) (h6 : 0 ≤ M 174 6 ∧ M 174 6 ≤ 100000) : Ci L 2 zm_M_correct [rV 174, iV x] M (fun z M' => ¬ (0 ≤ x ∧ x < D.2.2.2) ∧ z = -101 ∧ M' = M ∨ (0 ≤ x ∧ x < D.2.2.2) ∧ ¬ uWd g ∧ z = -103 ∧ M' = M ∨ (0 ≤ x ∧ x < D.2.2.2) ∧ uWd g ∧ z = D.2.1 x ∧ mF (fun a k => 174 ≤ a ∧ a < 178 ∧ ¬ (a = 174 ∧ ¬ (k = 0 ∨ k = 2 ∨ k = 5 ∨ k = 6))) M M' ∧ mH M' (uPt D x g) ∧ mG M' uEm ∧ M' 174 6 = M 174 6 + 1) := by
  show wp L _ zm_M_correct 0 [rV 174, iV x, uV] [] M _
  have e2 := h.1
  have hd1 := hd.1
  refine wp_aload_n (pc := 0) d_M_correct_0 rfl ?_
  refine wp_iload_n (pc := 1) d_M_correct_1 rfl ?_
  refine wp_callV1f (pc := 2) d_M_correct_2 rfl rfl (zk_174 L) rfl rfl (c_M_isCopy h hd) ?_
  refine wp_if_ne (tgt := 11) (pc := 5) d_M_correct_5 rfl (fun c5 => ?_) (fun c5 => ?_)
  · have c5 := zb_ne0 c5
    refine wp_aload_n (pc := 11) d_M_correct_11 rfl ?_
    refine wp_callV0i (pc := 12) d_M_correct_12 rfl rfl (zk_174 L) rfl rfl (c_M_isCopyPage hg h24) (fun x12 M12 h12 => ?_)
    obtain ⟨j1, j2, j3⟩ := h12
    rw [j1]
    refine wp_if_ne (tgt := 21) (pc := 15) d_M_correct_15 rfl (fun c15 => ?_) (fun c15 => ?_)
    · refine wp_aload_n (pc := 21) d_M_correct_21 rfl ?_
      refine wp_getR (pc := 22) d_M_correct_22 rfl (zk_174 L) zx_174_3 ?_
      refine wp_iload_n (pc := 25) d_M_correct_25 rfl ?_
      refine wp_iald (pc := 26) d_M_correct_26 (zk_176 L) (by omega) (by omega) ?_
      refine wp_ist2 (pc := 27) d_M_correct_27 rfl ?_
      refine wp_aload_n (pc := 28) d_M_correct_28 rfl ?_
      refine wp_iload_n (pc := 29) d_M_correct_29 rfl ?_
      refine wp_callV1v (pc := 30) d_M_correct_30 rfl rfl (zk_174 L) rfl rfl (c_M_readInto hg h24 (by omega) (by omega) h6) (fun M30 h30 => ?_)
      obtain ⟨w1, w2, w3, w4, w5⟩ := h30
      refine wp_iload_n (pc := 33) d_M_correct_33 rfl ?_
      refine wp_ireturn (pc := 34) d_M_correct_34 rfl ?_
      refine ⟨_, rfl, Or.inr (Or.inr ⟨c5, j3.1 (by omega), (h.2.2 x c5.1 c5.2).1, w1.up (fun a k h => by omega), ?_, ⟨w4, fun i i0 i1 => absurd i1 (by show ¬ i < 0; omega)⟩, w5⟩)⟩
      exact mH_put h hd c5.1 (by omega) (by omega) (w1.up (fun a k h => by omega)) w2 w3 (by rw [if_neg (by omega)]; exact (w1 174 2 (by omega)).trans e2)
    · refine wp_bipush (pc := 18) d_M_correct_18 rfl ?_
      refine wp_ireturn (pc := 20) d_M_correct_20 rfl ?_
      exact ⟨_, rfl, Or.inr (Or.inl ⟨c5, fun z => by have := j3.2 z; omega, rfl, rfl⟩)⟩
  · have c5 := zb_eq0 (Decidable.of_not_not c5)
    refine wp_bipush (pc := 8) d_M_correct_8 rfl ?_
    refine wp_ireturn (pc := 10) d_M_correct_10 rfl ?_
    exact ⟨_, rfl, Or.inl ⟨c5, rfl, rfl⟩⟩
theorem c_M_drop (h : mH M D) (hd : mDi D) : Ci L 2 zm_M_drop [rV 174] M (fun z M' => D.2.2.2 = 0 ∧ z = -103 ∧ M' = M ∨ 0 < D.2.2.2 ∧ z = D.2.2.2 - 1 ∧ mF (fun a k => a = 174 ∧ k = 2) M M' ∧ mH M' (uDr D)) := by
  show wp L _ zm_M_drop 0 [rV 174] [] M _
  have e2 := h.1
  have hd1 := hd.1
  refine wp_aload_n (pc := 0) d_M_drop_0 rfl ?_
  refine wp_getI (pc := 1) d_M_drop_1 rfl (by decide) (zk_174 L) ?_
  refine wp_if_ne (tgt := 10) (pc := 4) d_M_drop_4 rfl (fun c4 => ?_) (fun c4 => ?_)
  · refine wp_aload_n (pc := 10) d_M_drop_10 rfl ?_
    refine wp_dup (pc := 11) d_M_drop_11 rfl ?_
    refine wp_getI (pc := 12) d_M_drop_12 rfl (by decide) (zk_174 L) ?_
    refine wp_iconst (pc := 15) d_M_drop_15 rfl ?_
    refine wp_isub (pc := 16) d_M_drop_16 (by omega) (by omega) ?_
    refine wp_putI (pc := 17) d_M_drop_17 rfl (zk_174 L) (by decide) ?_
    refine wp_aload_n (pc := 20) d_M_drop_20 rfl ?_
    refine wp_getI (pc := 21) d_M_drop_21 rfl (by decide) (zk_174 L) ?_
    refine wp_ireturn (pc := 24) d_M_drop_24 rfl ?_
    have k1 : mF (fun a k => a = 174 ∧ k = 2) M (zU M 174 2 (M 174 2 - 1)) := mF.rf.u (by omega)
    refine ⟨_, rfl, Or.inr ⟨by omega, by rw [zU_eq, e2], k1, by rw [zU_eq, e2]; rfl, (k1 174 5 (by omega)).trans h.2.1, fun c c0 c1 => ?_⟩⟩
    have c1 : c < D.2.2.2 - 1 := c1
    have e1 : (uDr D).2.1 c = D.2.1 c := if_pos ⟨c0, c1⟩
    have e3 : (uDr D).1 c = D.1 c := if_pos ⟨c0, c1⟩
    rw [e1, e3]
    exact ⟨(k1 176 _ (by omega)).trans (h.2.2 c c0 (by omega)).1, fun i i0 i1 => (k1 177 _ (by omega)).trans ((h.2.2 c c0 (by omega)).2 i i0 i1)⟩
  · refine wp_bipush (pc := 7) d_M_drop_7 rfl ?_
    refine wp_ireturn (pc := 9) d_M_drop_9 rfl ?_
    exact ⟨_, rfl, Or.inl ⟨by omega, rfl, rfl⟩⟩
theorem c_M_band (h : mH M D) : Ci L 2 zm_M_band [rV 174, iV x] M (fun z M' => ¬ (0 ≤ x ∧ x ≤ 9) ∧ z = -102 ∧ M' = M ∨ (0 ≤ x ∧ x ≤ 9) ∧ z = D.2.2.1 ∧ mF (fun a k => a = 174 ∧ k = 5) M M' ∧ mH M' (uBd D x)) := by
  show wp L _ zm_M_band 0 [rV 174, iV x, uV] [] M _
  refine wp_iload_n (pc := 0) d_M_band_0 rfl ?_
  refine wp_iconst (pc := 1) d_M_band_1 rfl ?_
  refine wp_bipush (pc := 2) d_M_band_2 rfl ?_
  refine wp_callS3f (pc := 4) d_M_band_4 rfl rfl rfl rfl rfl c_M_within ?_
  refine wp_if_ne (tgt := 13) (pc := 7) d_M_band_7 rfl (fun c7 => ?_) (fun c7 => ?_)
  · have c7 := zb_ne0 c7
    refine wp_aload_n (pc := 13) d_M_band_13 rfl ?_
    refine wp_getI (pc := 14) d_M_band_14 rfl (by decide) (zk_174 L) ?_
    refine wp_ist2 (pc := 17) d_M_band_17 rfl ?_
    refine wp_aload_n (pc := 18) d_M_band_18 rfl ?_
    refine wp_iload_n (pc := 19) d_M_band_19 rfl ?_
    refine wp_putI (pc := 20) d_M_band_20 rfl (zk_174 L) (by decide) ?_
    refine wp_iload_n (pc := 23) d_M_band_23 rfl ?_
    refine wp_ireturn (pc := 24) d_M_band_24 rfl ?_
    have k1 : mF (fun a k => a = 174 ∧ k = 5) M (zU M 174 5 x) := mF.rf.u (by omega)
    exact ⟨_, rfl, Or.inr ⟨c7, h.2.1, k1, (k1 174 2 (by omega)).trans h.1, zU_eq, fun c c0 c1 => ⟨(k1 176 _ (by omega)).trans (h.2.2 c c0 c1).1, fun i i0 i1 => (k1 177 _ (by omega)).trans ((h.2.2 c c0 c1).2 i i0 i1)⟩⟩⟩
  · have c7 := zb_eq0 (Decidable.of_not_not c7)
    refine wp_bipush (pc := 10) d_M_band_10 rfl ?_
    refine wp_ireturn (pc := 12) d_M_band_12 rfl ?_
    exact ⟨_, rfl, Or.inl ⟨c7, rfl, rfl⟩⟩
end ZM1
