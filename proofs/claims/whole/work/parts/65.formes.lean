/-! StopPress: forme, formes, order -/
def vFm (Y : qYt) (f w : Int) : Int := if w = 0 then qPc (vT Y f.toNat) 24 else if w = 1 then ((vA Y vAll f.toNat : Nat) : Int) else if w = 2 then ((vC Y f.toNat : Nat) : Int) else if w = 3 then vPo Y f 6 0 else vPo2 Y f
def vFs (Y : qYt) (w : Int) : Int := if w = 0 then qPc (vS Y vAll) 24 else if w = 1 then vOr Y else if w = 2 then qPc (vFt Y) 24 else if w = 3 then ((vFt Y : Nat) : Int) else if w = 4 then ((vNum Y : Nat) : Int) else ((vTs Y : Nat) : Int)
def xFm (Y : qYt) (f w : Int) : Int := if 0 ≤ f ∧ f < 6 then (if 0 ≤ w ∧ w ≤ 4 then vFm Y f w else -102) else -101
def xFs (Y : qYt) (w : Int) : Int := if 0 ≤ w ∧ w ≤ 5 then vFs Y w else -102
def xOd (Y : qYt) (p : Int) : Int := if 0 ≤ p ∧ p < vOl Y then vFi Y p else -101
theorem vSe_le (ok : Nat → Bool) (n : Int) : ∀ t, (vSe ok n t).2 ≤ t := by
  intro t
  induction t with
  | zero => exact Nat.le_refl _
  | succ t ih =>
    simp only [vSe]
    split
    · exact Nat.le_succ _
    · exact Nat.le_trans ih (Nat.le_succ _)
theorem vFt_lt {Y : qYt} (hi : qYi Y) : vFt Y < 16777216 := by
  have h := vSe_le (vOk Y) Y.1 (2 ^ Y.1.toNat)
  have hn := hi.1
  have h2 : 2 ^ Y.1.toNat ≤ 2 ^ 12 := Nat.pow_le_pow_right (by decide) (by omega)
  unfold vFt
  omega
/-- what holds of the sightings' part, between calls -/
def qIS (M : zM) : Prop := qYi (qYC M) ∧ (M 161 7 = M 147 2 → qBc M (qYC M)) ∧ (M 167 6 = M 147 2 → M 167 5 = ((vFt (qYC M) : Nat) : Int)) ∧ (M 172 2 = M 147 2 → M 172 1 = ((vNum (qYC M) : Nat) : Int) ∧ ∀ g : Nat, g < 6 → M 173 g = vPo2 (qYC M) (g : Int)) ∧ (M 161 7 ≤ M 147 2 ∧ M 167 6 ≤ M 147 2 ∧ M 172 2 ≤ M 147 2) ∧ 0 ≤ M 147 2
theorem qIS.l {M : zM} (h : qIS M) : 0 ≤ M 147 1 ∧ M 147 1 ≤ 12 := h.1.1
theorem qIS.keep {S : Nat → Prop} {M M' : zM} (h : qIS M) (hs : zSm S M M') (h1 : ∀ a, 147 ≤ a → a < 174 → ¬ S a) : qIS M' ∧ qYC M' = qYC M := by
  have e : ∀ a, 147 ≤ a → a < 174 → ∀ k, M' a k = M a k := fun a a1 a2 => hs a (h1 a a1 a2)
  have eY : qYC M' = qYC M := qYC_eq h.l.2 (e 147 (by decide) (by decide) 1) (fun a a1 a2 => e a (by omega) (by omega))
  refine ⟨?_, eY⟩
  unfold qIS
  rw [eY, e 147 (by decide) (by decide), e 161 (by decide) (by decide), e 167 (by decide) (by decide), e 167 (by decide) (by decide), e 172 (by decide) (by decide), e 172 (by decide) (by decide)]
  refine ⟨h.1, fun z => (h.2.1 z).keep hs (fun a a1 a2 => h1 a (by omega) (by omega)), h.2.2.1, fun z => ?_, h.2.2.2.2.1, h.2.2.2.2.2⟩
  have := h.2.2.2.1 z
  exact ⟨this.1, fun g hg => by rw [e 173 (by decide) (by decide)]; exact this.2 g hg⟩
section ZPf
variable {L : Nat} {M : zM} {Y : qYt} {x y z w c p s i j : Int}
theorem c_Ch_buildI (h : qIS M) : Cv L 3 zm_Chrono_build [rV 161, rV 147] M (fun M' => zSm (fun a => 161 ≤ a ∧ a < 174) M M' ∧ qIS M' ∧ qYC M' = qYC M ∧ qBc M' (qYC M) ∧ M' 161 7 = M 147 2) := by
  refine wpc_mono (c_Ch_build rfl h.1 h.2.1) (fun r M' hr => ?_)
  obtain ⟨hr0, a1, a2, a3⟩ := hr
  have e : ∀ a, 147 ≤ a → a < 161 → ∀ k, M' a k = M a k := fun a x1 x2 => a1 a (by omega)
  have eY : qYC M' = qYC M := qYC_eq h.l.2 (e 147 (by decide) (by decide) 1) (fun a x1 x2 => e a (by omega) (by omega))
  refine ⟨hr0, a1.up (fun a ha => by omega), ?_, eY, a3, a2⟩
  unfold qIS
  rw [eY, e 147 (by decide) (by decide), a2, a1 167 (by omega), a1 167 (by omega), a1 172 (by omega), a1 172 (by omega)]
  refine ⟨h.1, fun _ => a3, h.2.2.1, fun z => ?_, ⟨Int.le_refl _, h.2.2.2.2.1.2⟩, h.2.2.2.2.2⟩
  have := h.2.2.2.1 z
  exact ⟨this.1, fun g hg => by rw [a1 173 (by omega)]; exact this.2 g hg⟩
theorem c_Fa_buildI (h : qIS M) : Cv L 3 zm_Fault_build [rV 167, rV 147] M (fun M' => zSm (fun a => 167 ≤ a ∧ a < 172) M M' ∧ qIS M' ∧ qYC M' = qYC M ∧ M' 167 5 = ((vFt (qYC M) : Nat) : Int)) := by
  refine wpc_mono (c_Fa_build rfl h.1 h.2.2.1) (fun r M' hr => ?_)
  obtain ⟨hr0, a1, a2, a3⟩ := hr
  have e : ∀ a, 147 ≤ a → a < 161 → ∀ k, M' a k = M a k := fun a x1 x2 => a1 a (by omega)
  have eY : qYC M' = qYC M := qYC_eq h.l.2 (e 147 (by decide) (by decide) 1) (fun a x1 x2 => e a (by omega) (by omega))
  refine ⟨hr0, a1.up (fun a ha => by omega), ?_, eY, a3⟩
  unfold qIS
  rw [eY, e 147 (by decide) (by decide), a2, a1 161 (by omega), a1 172 (by omega), a1 172 (by omega)]
  refine ⟨h.1, fun z => (h.2.1 z).keep a1 (fun a x1 x2 => by omega), fun _ => a3, fun z => ?_, ⟨h.2.2.2.2.1.1, Int.le_refl _, h.2.2.2.2.1.2.2⟩, h.2.2.2.2.2⟩
  have := h.2.2.2.1 z
  exact ⟨this.1, fun g hg => by rw [a1 173 (by omega)]; exact this.2 g hg⟩
theorem c_Pr_buildI (h : qIS M) (hb : qBc M (qYC M)) (h7 : M 161 7 = M 147 2) : Cv L 9 zm_Presses_build [rV 172, rV 161] M (fun M' => zSm (fun a => 172 ≤ a ∧ a < 174) M M' ∧ qIS M' ∧ qYC M' = qYC M ∧ M' 172 1 = ((vNum (qYC M) : Nat) : Int) ∧ ∀ g : Nat, g < 6 → M' 173 g = vPo2 (qYC M) (g : Int)) := by
  refine wpc_mono (c_Pr_build hb (fun z => h.2.2.2.1 (z.trans h7))) (fun r M' hr => ?_)
  obtain ⟨hr0, a1, a2, a3, a4⟩ := hr
  have e : ∀ a, 147 ≤ a → a < 161 → ∀ k, M' a k = M a k := fun a x1 x2 => a1 a (by omega)
  have eY : qYC M' = qYC M := qYC_eq h.l.2 (e 147 (by decide) (by decide) 1) (fun a x1 x2 => e a (by omega) (by omega))
  refine ⟨hr0, a1.up (fun a ha => by omega), ?_, eY, a3, a4⟩
  unfold qIS
  rw [eY, e 147 (by decide) (by decide), a2, h7, a1 161 (by omega), a1 167 (by omega), a1 167 (by omega)]
  exact ⟨h.1, fun z => (h.2.1 z).keep a1 (fun a x1 x2 => by omega), h.2.2.1, fun _ => ⟨a3, a4⟩, ⟨h.2.2.2.2.1.1, h.2.2.2.2.1.2.1, Int.le_refl _⟩, h.2.2.2.2.2⟩
theorem c_P_dfm (h : qIS M) (x0 : 0 ≤ x) (x1 : x < 6) : Ci L 10 zm_P_describeForme [rV 4, iV x, iV w] M (fun v M' => v = vFm (qYC M) x w ∧ zSm (fun a => 161 ≤ a ∧ a < 174) M M' ∧ qIS M' ∧ qYC M' = qYC M) := by
  show wp L _ zm_P_describeForme 0 [rV 4, iV x, iV w] [] M _
  refine wp_aload_n (pc := 0) d_P_describeForme_0 rfl ?_
  refine wp_getR (pc := 1) d_P_describeForme_1 rfl (zk_4 L) zx_4_4 ?_
  refine wp_aload_n (pc := 4) d_P_describeForme_4 rfl ?_
  refine wp_getR (pc := 5) d_P_describeForme_5 rfl (zk_4 L) zx_4_3 ?_
  refine wp_callV1v (pc := 8) d_P_describeForme_8 rfl rfl (zk_161 L) rfl rfl (c_Ch_buildI h) (fun M8 h8 => ?_)
  obtain ⟨z1, z2, z3, z4, z5⟩ := h8
  have z6 : M8 147 2 = M 147 2 := z1 147 (by omega) 2
  refine wp_iload_n (pc := 11) d_P_describeForme_11 rfl ?_
  rcases zsw4 0 w with c12 | c12 | c12 | c12 | c12
  · refine wp_tableO (tgt := 83) (pc := 12) d_P_describeForme_12 (by omega) rfl ?_
    refine wp_aload_n (pc := 83) d_P_describeForme_83 rfl ?_
    refine wp_getR (pc := 84) d_P_describeForme_84 rfl (zk_4 L) zx_4_6 ?_
    refine wp_aload_n (pc := 87) d_P_describeForme_87 rfl ?_
    refine wp_getR (pc := 88) d_P_describeForme_88 rfl (zk_4 L) zx_4_4 ?_
    refine wp_callV1v (pc := 91) d_P_describeForme_91 rfl rfl (zk_172 L) rfl rfl (c_Pr_buildI z2 (by rw [z3]; exact z4) (by rw [z6]; exact z5)) (fun M91 h91 => ?_)
    obtain ⟨y1, y2, y3, y4, y5⟩ := h91
    rw [z3] at y3 y4 y5
    refine wp_aload_n (pc := 94) d_P_describeForme_94 rfl ?_
    refine wp_getR (pc := 95) d_P_describeForme_95 rfl (zk_4 L) zx_4_6 ?_
    refine wp_iload_n (pc := 98) d_P_describeForme_98 rfl ?_
    refine wp_callV1f (pc := 99) d_P_describeForme_99 rfl rfl (zk_172 L) rfl rfl (c_Pr_po x0 x1) ?_
    rw [y5 x.toNat (by omega), show ((x.toNat : Nat) : Int) = x by omega]
    refine wp_ireturn (pc := 102) d_P_describeForme_102 rfl ?_
    refine ⟨_, rfl, ?_, z1.tr (y1.up (fun a ha => by omega)), y2, y3⟩
    unfold vFm
    rw [if_neg (by omega), if_neg (by omega), if_neg (by omega), if_neg (by omega)]
  · refine wp_tableI (tgt := 44) (off := 32) (pc := 12) d_P_describeForme_12 (by omega) (by omega) (by rw [c12]; rfl) rfl ?_
    refine wp_aload_n (pc := 44) d_P_describeForme_44 rfl ?_
    refine wp_getR (pc := 45) d_P_describeForme_45 rfl (zk_4 L) zx_4_4 ?_
    refine wp_iload_n (pc := 48) d_P_describeForme_48 rfl ?_
    refine wp_callV1f (pc := 49) d_P_describeForme_49 rfl rfl (zk_161 L) rfl rfl (c_Ch_ty z4 x0 x1) ?_
    refine wp_callS1f (pc := 52) d_P_describeForme_52 rfl rfl rfl rfl rfl (c_bitCount (x := vT (qYC M) x.toNat) (by have := vT_lt (qYC M) x.toNat; omega)) ?_
    refine wp_ireturn (pc := 55) d_P_describeForme_55 rfl ?_
    refine ⟨_, rfl, ?_, z1, z2, z3⟩
    subst c12
    rfl
  · refine wp_tableI (tgt := 56) (off := 44) (pc := 12) d_P_describeForme_12 (by omega) (by omega) (by rw [c12]; rfl) rfl ?_
    refine wp_aload_n (pc := 56) d_P_describeForme_56 rfl ?_
    refine wp_getR (pc := 57) d_P_describeForme_57 rfl (zk_4 L) zx_4_4 ?_
    refine wp_iload_n (pc := 60) d_P_describeForme_60 rfl ?_
    refine wp_callV1f (pc := 61) d_P_describeForme_61 rfl rfl (zk_161 L) rfl rfl (c_Ch_ah z4 x0 x1) ?_
    refine wp_ireturn (pc := 64) d_P_describeForme_64 rfl ?_
    refine ⟨_, rfl, ?_, z1, z2, z3⟩
    subst c12
    rfl
  · refine wp_tableI (tgt := 65) (off := 53) (pc := 12) d_P_describeForme_12 (by omega) (by omega) (by rw [c12]; rfl) rfl ?_
    refine wp_aload_n (pc := 65) d_P_describeForme_65 rfl ?_
    refine wp_getR (pc := 66) d_P_describeForme_66 rfl (zk_4 L) zx_4_4 ?_
    refine wp_iload_n (pc := 69) d_P_describeForme_69 rfl ?_
    refine wp_callV1f (pc := 70) d_P_describeForme_70 rfl rfl (zk_161 L) rfl rfl (c_Ch_cp z4 x0 x1) ?_
    refine wp_ireturn (pc := 73) d_P_describeForme_73 rfl ?_
    refine ⟨_, rfl, ?_, z1, z2, z3⟩
    subst c12
    rfl
  · refine wp_tableI (tgt := 74) (off := 62) (pc := 12) d_P_describeForme_12 (by omega) (by omega) (by rw [c12]; rfl) rfl ?_
    refine wp_aload_n (pc := 74) d_P_describeForme_74 rfl ?_
    refine wp_getR (pc := 75) d_P_describeForme_75 rfl (zk_4 L) zx_4_4 ?_
    refine wp_iload_n (pc := 78) d_P_describeForme_78 rfl ?_
    refine wp_callV1f (pc := 79) d_P_describeForme_79 rfl rfl (zk_161 L) rfl rfl (c_Ch_po z4) ?_
    refine wp_ireturn (pc := 82) d_P_describeForme_82 rfl ?_
    refine ⟨_, rfl, ?_, z1, z2, z3⟩
    subst c12
    rfl
theorem c_P_dfs (h : qIS M) : Ci L 10 zm_P_describeFormes [rV 4, iV w] M (fun v M' => v = vFs (qYC M) w ∧ zSm (fun a => 161 ≤ a ∧ a < 174) M M' ∧ qIS M' ∧ qYC M' = qYC M ∧ qBc M' (qYC M)) := by
  show wp L _ zm_P_describeFormes 0 [rV 4, iV w] [] M _
  refine wp_aload_n (pc := 0) d_P_describeFormes_0 rfl ?_
  refine wp_getR (pc := 1) d_P_describeFormes_1 rfl (zk_4 L) zx_4_4 ?_
  refine wp_aload_n (pc := 4) d_P_describeFormes_4 rfl ?_
  refine wp_getR (pc := 5) d_P_describeFormes_5 rfl (zk_4 L) zx_4_3 ?_
  refine wp_callV1v (pc := 8) d_P_describeFormes_8 rfl rfl (zk_161 L) rfl rfl (c_Ch_buildI h) (fun M8 h8 => ?_)
  obtain ⟨z1, z2, z3, z4, z5⟩ := h8
  have z6 : M8 147 2 = M 147 2 := z1 147 (by omega) 2
  refine wp_iload_n (pc := 11) d_P_describeFormes_11 rfl ?_
  rcases zsw5 0 w with c12 | c12 | c12 | c12 | c12 | c12
  · refine wp_tableO (tgt := 127) (pc := 12) d_P_describeFormes_12 (by omega) rfl ?_
    refine wp_aload_n (pc := 127) d_P_describeFormes_127 rfl ?_
    refine wp_getR (pc := 128) d_P_describeFormes_128 rfl (zk_4 L) zx_4_4 ?_
    refine wp_callV0f (pc := 131) d_P_describeFormes_131 rfl rfl (zk_161 L) rfl rfl (c_Ch_ts z4 h.1) ?_
    refine wp_ireturn (pc := 134) d_P_describeFormes_134 rfl ?_
    refine ⟨_, rfl, ?_, z1, z2, z3, z4⟩
    unfold vFs
    rw [if_neg (by omega), if_neg (by omega), if_neg (by omega), if_neg (by omega), if_neg (by omega)]
  · refine wp_tableI (tgt := 48) (off := 36) (pc := 12) d_P_describeFormes_12 (by omega) (by omega) (by rw [c12]; rfl) rfl ?_
    refine wp_aload_n (pc := 48) d_P_describeFormes_48 rfl ?_
    refine wp_getR (pc := 49) d_P_describeFormes_49 rfl (zk_4 L) zx_4_4 ?_
    refine wp_callV0f (pc := 52) d_P_describeFormes_52 rfl rfl (zk_161 L) rfl rfl (c_Ch_ss z4) ?_
    refine wp_callS1f (pc := 55) d_P_describeFormes_55 rfl rfl rfl rfl rfl (c_bitCount (x := vS (qYC M) vAll) (by have := vS_lt (qYC M) vAll; omega)) ?_
    refine wp_ireturn (pc := 58) d_P_describeFormes_58 rfl ?_
    first
    | (refine ⟨_, rfl, ?_, z1.tr (y1.up (fun a ha => by omega)), y2, y3, z4.keep y1 (fun a b1 b2 => by omega)⟩
       subst c12
       rfl)
    | (refine ⟨_, rfl, ?_, z1, z2, z3, z4⟩
       subst c12
       rfl)
  · refine wp_tableI (tgt := 59) (off := 47) (pc := 12) d_P_describeFormes_12 (by omega) (by omega) (by rw [c12]; rfl) rfl ?_
    refine wp_aload_n (pc := 59) d_P_describeFormes_59 rfl ?_
    refine wp_getR (pc := 60) d_P_describeFormes_60 rfl (zk_4 L) zx_4_4 ?_
    refine wp_callV0f (pc := 63) d_P_describeFormes_63 rfl rfl (zk_161 L) rfl rfl (c_Ch_or z4) ?_
    refine wp_ireturn (pc := 66) d_P_describeFormes_66 rfl ?_
    first
    | (refine ⟨_, rfl, ?_, z1.tr (y1.up (fun a ha => by omega)), y2, y3, z4.keep y1 (fun a b1 b2 => by omega)⟩
       subst c12
       rfl)
    | (refine ⟨_, rfl, ?_, z1, z2, z3, z4⟩
       subst c12
       rfl)
  · refine wp_tableI (tgt := 67) (off := 55) (pc := 12) d_P_describeFormes_12 (by omega) (by omega) (by rw [c12]; rfl) rfl ?_
    refine wp_aload_n (pc := 67) d_P_describeFormes_67 rfl ?_
    refine wp_getR (pc := 68) d_P_describeFormes_68 rfl (zk_4 L) zx_4_5 ?_
    refine wp_aload_n (pc := 71) d_P_describeFormes_71 rfl ?_
    refine wp_getR (pc := 72) d_P_describeFormes_72 rfl (zk_4 L) zx_4_3 ?_
    refine wp_callV1v (pc := 75) d_P_describeFormes_75 rfl rfl (zk_167 L) rfl rfl (c_Fa_buildI z2) (fun M75 h75 => ?_)
    obtain ⟨y1, y2, y3, y4⟩ := h75
    rw [z3] at y3 y4
    refine wp_aload_n (pc := 78) d_P_describeFormes_78 rfl ?_
    refine wp_getR (pc := 79) d_P_describeFormes_79 rfl (zk_4 L) zx_4_5 ?_
    refine wp_callV0f (pc := 82) d_P_describeFormes_82 rfl rfl (zk_167 L) rfl rfl c_Fa_set ?_
    rw [y4]
    refine wp_callS1f (pc := 85) d_P_describeFormes_85 rfl rfl rfl rfl rfl (c_bitCount (x := vFt (qYC M)) (vFt_lt h.1)) ?_
    refine wp_ireturn (pc := 88) d_P_describeFormes_88 rfl ?_
    first
    | (refine ⟨_, rfl, ?_, z1.tr (y1.up (fun a ha => by omega)), y2, y3, z4.keep y1 (fun a b1 b2 => by omega)⟩
       subst c12
       rfl)
    | (refine ⟨_, rfl, ?_, z1, z2, z3, z4⟩
       subst c12
       rfl)
  · refine wp_tableI (tgt := 89) (off := 77) (pc := 12) d_P_describeFormes_12 (by omega) (by omega) (by rw [c12]; rfl) rfl ?_
    refine wp_aload_n (pc := 89) d_P_describeFormes_89 rfl ?_
    refine wp_getR (pc := 90) d_P_describeFormes_90 rfl (zk_4 L) zx_4_5 ?_
    refine wp_aload_n (pc := 93) d_P_describeFormes_93 rfl ?_
    refine wp_getR (pc := 94) d_P_describeFormes_94 rfl (zk_4 L) zx_4_3 ?_
    refine wp_callV1v (pc := 97) d_P_describeFormes_97 rfl rfl (zk_167 L) rfl rfl (c_Fa_buildI z2) (fun M97 h97 => ?_)
    obtain ⟨y1, y2, y3, y4⟩ := h97
    rw [z3] at y3 y4
    refine wp_aload_n (pc := 100) d_P_describeFormes_100 rfl ?_
    refine wp_getR (pc := 101) d_P_describeFormes_101 rfl (zk_4 L) zx_4_5 ?_
    refine wp_callV0f (pc := 104) d_P_describeFormes_104 rfl rfl (zk_167 L) rfl rfl c_Fa_set ?_
    rw [y4]
    refine wp_ireturn (pc := 107) d_P_describeFormes_107 rfl ?_
    first
    | (refine ⟨_, rfl, ?_, z1.tr (y1.up (fun a ha => by omega)), y2, y3, z4.keep y1 (fun a b1 b2 => by omega)⟩
       subst c12
       rfl)
    | (refine ⟨_, rfl, ?_, z1, z2, z3, z4⟩
       subst c12
       rfl)
  · refine wp_tableI (tgt := 108) (off := 96) (pc := 12) d_P_describeFormes_12 (by omega) (by omega) (by rw [c12]; rfl) rfl ?_
    refine wp_aload_n (pc := 108) d_P_describeFormes_108 rfl ?_
    refine wp_getR (pc := 109) d_P_describeFormes_109 rfl (zk_4 L) zx_4_6 ?_
    refine wp_aload_n (pc := 112) d_P_describeFormes_112 rfl ?_
    refine wp_getR (pc := 113) d_P_describeFormes_113 rfl (zk_4 L) zx_4_4 ?_
    refine wp_callV1v (pc := 116) d_P_describeFormes_116 rfl rfl (zk_172 L) rfl rfl (c_Pr_buildI z2 (by rw [z3]; exact z4) (by rw [z6]; exact z5)) (fun M116 h116 => ?_)
    obtain ⟨y1, y2, y3, y4, y5⟩ := h116
    rw [z3] at y3 y4 y5
    refine wp_aload_n (pc := 119) d_P_describeFormes_119 rfl ?_
    refine wp_getR (pc := 120) d_P_describeFormes_120 rfl (zk_4 L) zx_4_6 ?_
    refine wp_callV0f (pc := 123) d_P_describeFormes_123 rfl rfl (zk_172 L) rfl rfl c_Pr_nu ?_
    rw [y4]
    refine wp_ireturn (pc := 126) d_P_describeFormes_126 rfl ?_
    first
    | (refine ⟨_, rfl, ?_, z1.tr (y1.up (fun a ha => by omega)), y2, y3, z4.keep y1 (fun a b1 b2 => by omega)⟩
       subst c12
       rfl)
    | (refine ⟨_, rfl, ?_, z1, z2, z3, z4⟩
       subst c12
       rfl)
theorem c_P_forme (h : qIS M) : Ci L 11 zm_P_forme [rV 4, iV x, iV w] M (fun v M' => v = xFm (qYC M) x w ∧ zSm (fun a => 161 ≤ a ∧ a < 174) M M' ∧ qIS M' ∧ qYC M' = qYC M) := by
  show wp L _ zm_P_forme 0 [rV 4, iV x, iV w] [] M _
  refine wp_iload_n (pc := 0) d_P_forme_0 rfl ?_
  refine wp_if_lt (tgt := 10) (pc := 1) d_P_forme_1 rfl (fun c1 => ?_) (fun c1 => ?_)
  · refine wp_bipush (pc := 10) d_P_forme_10 rfl ?_
    refine wp_ireturn (pc := 12) d_P_forme_12 rfl ?_
    exact ⟨_, rfl, by unfold xFm; rw [if_neg (by omega)], zSm.rf, h, rfl⟩
  · refine wp_iload_n (pc := 4) d_P_forme_4 rfl ?_
    refine wp_bipush (pc := 5) d_P_forme_5 rfl ?_
    refine wp_icmp_lt (tgt := 13) (pc := 7) d_P_forme_7 rfl (fun c7 => ?_) (fun c7 => ?_)
    · refine wp_iload_n (pc := 13) d_P_forme_13 rfl ?_
      refine wp_if_lt (tgt := 22) (pc := 14) d_P_forme_14 rfl (fun c14 => ?_) (fun c14 => ?_)
      · refine wp_bipush (pc := 22) d_P_forme_22 rfl ?_
        refine wp_ireturn (pc := 24) d_P_forme_24 rfl ?_
        exact ⟨_, rfl, by unfold xFm; rw [if_pos (by omega), if_neg (by omega)], zSm.rf, h, rfl⟩
      · refine wp_iload_n (pc := 17) d_P_forme_17 rfl ?_
        refine wp_iconst (pc := 18) d_P_forme_18 rfl ?_
        refine wp_icmp_le (tgt := 25) (pc := 19) d_P_forme_19 rfl (fun c19 => ?_) (fun c19 => ?_)
        · refine wp_aload_n (pc := 25) d_P_forme_25 rfl ?_
          refine wp_iload_n (pc := 26) d_P_forme_26 rfl ?_
          refine wp_iload_n (pc := 27) d_P_forme_27 rfl ?_
          refine wp_callV2i (pc := 28) d_P_forme_28 rfl rfl (zk_4 L) rfl rfl (c_P_dfm h (by omega) (by omega)) (fun x28 M28 h28 => ?_)
          refine wp_ireturn (pc := 31) d_P_forme_31 rfl ?_
          exact ⟨_, rfl, by unfold xFm; rw [if_pos (by omega), if_pos (by omega)]; exact h28.1, h28.2⟩
        · refine wp_bipush (pc := 22) d_P_forme_22 rfl ?_
          refine wp_ireturn (pc := 24) d_P_forme_24 rfl ?_
          exact ⟨_, rfl, by unfold xFm; rw [if_pos (by omega), if_neg (by omega)], zSm.rf, h, rfl⟩
    · refine wp_bipush (pc := 10) d_P_forme_10 rfl ?_
      refine wp_ireturn (pc := 12) d_P_forme_12 rfl ?_
      exact ⟨_, rfl, by unfold xFm; rw [if_neg (by omega)], zSm.rf, h, rfl⟩
theorem c_P_formes (h : qIS M) : Ci L 11 zm_P_formes [rV 4, iV w] M (fun v M' => v = xFs (qYC M) w ∧ zSm (fun a => 161 ≤ a ∧ a < 174) M M' ∧ qIS M' ∧ qYC M' = qYC M) := by
  show wp L _ zm_P_formes 0 [rV 4, iV w] [] M _
  refine wp_iload_n (pc := 0) d_P_formes_0 rfl ?_
  refine wp_if_lt (tgt := 9) (pc := 1) d_P_formes_1 rfl (fun c1 => ?_) (fun c1 => ?_)
  · refine wp_bipush (pc := 9) d_P_formes_9 rfl ?_
    refine wp_ireturn (pc := 11) d_P_formes_11 rfl ?_
    exact ⟨_, rfl, by unfold xFs; rw [if_neg (by omega)], zSm.rf, h, rfl⟩
  · refine wp_iload_n (pc := 4) d_P_formes_4 rfl ?_
    refine wp_iconst (pc := 5) d_P_formes_5 rfl ?_
    refine wp_icmp_le (tgt := 12) (pc := 6) d_P_formes_6 rfl (fun c6 => ?_) (fun c6 => ?_)
    · refine wp_aload_n (pc := 12) d_P_formes_12 rfl ?_
      refine wp_iload_n (pc := 13) d_P_formes_13 rfl ?_
      refine wp_callV1i (pc := 14) d_P_formes_14 rfl rfl (zk_4 L) rfl rfl (c_P_dfs h) (fun x14 M14 h14 => ?_)
      refine wp_ireturn (pc := 17) d_P_formes_17 rfl ?_
      exact ⟨_, rfl, by unfold xFs; rw [if_pos (by omega)]; exact h14.1, h14.2.1, h14.2.2.1, h14.2.2.2.1⟩
    · refine wp_bipush (pc := 9) d_P_formes_9 rfl ?_
      refine wp_ireturn (pc := 11) d_P_formes_11 rfl ?_
      exact ⟨_, rfl, by unfold xFs; rw [if_neg (by omega)], zSm.rf, h, rfl⟩
theorem c_P_order (h : qIS M) : Ci L 4 zm_P_order [rV 4, iV x] M (fun v M' => v = xOd (qYC M) x ∧ zSm (fun a => 161 ≤ a ∧ a < 174) M M' ∧ qIS M' ∧ qYC M' = qYC M) := by
  show wp L _ zm_P_order 0 [rV 4, iV x] [] M _
  refine wp_aload_n (pc := 0) d_P_order_0 rfl ?_
  refine wp_getR (pc := 1) d_P_order_1 rfl (zk_4 L) zx_4_4 ?_
  refine wp_aload_n (pc := 4) d_P_order_4 rfl ?_
  refine wp_getR (pc := 5) d_P_order_5 rfl (zk_4 L) zx_4_3 ?_
  refine wp_callV1v (pc := 8) d_P_order_8 rfl rfl (zk_161 L) rfl rfl (c_Ch_buildI h) (fun M8 h8 => ?_)
  obtain ⟨z1, z2, z3, z4, z5⟩ := h8
  have z6 : M8 147 2 = M 147 2 := z1 147 (by omega) 2
  refine wp_aload_n (pc := 11) d_P_order_11 rfl ?_
  refine wp_getR (pc := 12) d_P_order_12 rfl (zk_4 L) zx_4_4 ?_
  refine wp_iload_n (pc := 15) d_P_order_15 rfl ?_
  refine wp_callV1f (pc := 16) d_P_order_16 rfl rfl (zk_161 L) rfl rfl (c_Ch_hp z4) ?_
  refine wp_if_eq (tgt := 33) (pc := 19) d_P_order_19 rfl (fun c19 => ?_) (fun c19 => ?_)
  · have c19 := zb_eq0 c19
    refine wp_bipush (pc := 33) d_P_order_33 rfl ?_
    refine wp_ireturn (pc := 35) d_P_order_35 rfl ?_
    refine ⟨_, rfl, ?_, z1, z2, z3⟩
    unfold xOd
    first
    | rw [if_neg c19]
    | (rw [if_pos c19]; unfold vFa; rw [if_pos c19])
  · have c19 := zb_ne0 c19
    refine wp_aload_n (pc := 22) d_P_order_22 rfl ?_
    refine wp_getR (pc := 23) d_P_order_23 rfl (zk_4 L) zx_4_4 ?_
    refine wp_iload_n (pc := 26) d_P_order_26 rfl ?_
    refine wp_callV1f (pc := 27) d_P_order_27 rfl rfl (zk_161 L) rfl rfl (c_Ch_fa z4) ?_
    refine wp_goto (tgt := 35) (pc := 30) d_P_order_30 rfl ?_
    refine wp_ireturn (pc := 35) d_P_order_35 rfl ?_
    refine ⟨_, rfl, ?_, z1, z2, z3⟩
    unfold xOd
    first
    | rw [if_neg c19]
    | (rw [if_pos c19]; unfold vFa; rw [if_pos c19])
end ZPf
