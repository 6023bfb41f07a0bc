/-! the model's presses: the search for room -/
theorem vTry_s {g : Int → Option (Int → Int)} {m : Nat} {p : Int} {r : Int → Int} (h : g p = some r) : vTry g (m + 1) p = some r := by simp only [vTry]; rw [h]
theorem vTry_n {g : Int → Option (Int → Int)} {m : Nat} {p : Int} (h : g p = none) : vTry g (m + 1) p = vTry g m (p + 1) := by simp only [vTry]; rw [h]
/-- the same but for forme f -/
def mPx (M : zM) (Y : qYt) (f : Nat) (a : Int → Int) : Prop := ∀ g, g < 6 → ¬ g = f → (g < f → ((vS Y vAll).testBit g = true → M 192 g = a (g : Int)) ∧ ((vS Y vAll).testBit g = false → M 192 g = 0 ∧ a (g : Int) = -1)) ∧ (f ≤ g → M 192 g = -1)
theorem mPs.x {M : zM} {Y : qYt} {f : Nat} {a : Int → Int} (h : mPs M Y f a) : mPx M Y f a := fun g g6 _ => h g g6
theorem mPx.u {M : zM} {Y : qYt} {f : Nat} {a : Int → Int} {v : Int} (h : mPx M Y f a) : mPx (zU M 192 f v) Y f a := fun g g6 hne => by
  rw [zU_nk hne]; exact h g g6 hne
theorem mPx.no {M : zM} {Y : qYt} {f : Nat} {a : Int → Int} (h : mPx M Y f a) (hm : M 192 f = -1) : mPs M Y f a := fun g g6 => by
  by_cases e : g = f
  · rw [e]; exact ⟨fun z => absurd z (by omega), fun _ => hm⟩
  · exact h g g6 e
theorem mPx.on {M : zM} {Y : qYt} {f : Nat} {a : Int → Int} {p : Int} (h : mPx M Y f a) (hm : M 192 f = p) (hs : (vS Y vAll).testBit f = true) : mPs M Y (f + 1) (qPut a (f : Int) p) := fun g g6 => by
  by_cases e : g = f
  · rw [e]
    exact ⟨fun _ => ⟨fun _ => by rw [hm, qPut_eq], fun z => absurd (hs.symm.trans z) (by decide)⟩, fun z => absurd z (by omega)⟩
  · obtain ⟨h1, h2⟩ := h g g6 e
    rw [qPut_ne (by omega)]
    exact ⟨fun z => h1 (by omega), fun z => h2 (by omega)⟩
theorem mPx.un {M : zM} {Y : qYt} {f : Nat} {a : Int → Int} (h : mPx M Y f a) (hm : M 192 f = 0) (hs : (vS Y vAll).testBit f = false) : mPs M Y (f + 1) (qPut a (f : Int) (-1)) := fun g g6 => by
  by_cases e : g = f
  · rw [e]
    exact ⟨fun _ => ⟨fun z => absurd (hs.symm.trans z) (by decide), fun _ => ⟨hm, qPut_eq⟩⟩, fun z => absurd z (by omega)⟩
  · obtain ⟨h1, h2⟩ := h g g6 e
    rw [qPut_ne (by omega)]
    exact ⟨fun z => h1 (by omega), fun z => h2 (by omega)⟩
theorem mPs.back {M : zM} {Y : qYt} {f : Nat} {a : Int → Int} {p : Int} (h : mPs M Y (f + 1) (qPut a (f : Int) p)) : mPx M Y f a := fun g g6 hne => by
  obtain ⟨h1, h2⟩ := h g g6
  rw [qPut_ne (by omega)] at h1
  exact ⟨fun z => h1 (by omega), fun z => h2 (by omega)⟩
section ZM15
variable {L : Nat} {M : zM} {D : qDt} {Y : qYt} {S : Int → Bool} {A : Nat → Nat} {x y z w c p s i j : Int}
theorem fr_seen (h25 : M 174 25 = ((vS Y vAll : Nat) : Int)) {f kk : Nat} (hf : f < 6) {Qx : Option zV → zM → Prop} {u3 : zV} (hsn : (vS Y vAll).testBit f = true) {q : Int} (hq0 : M 192 f = q) (hqb : -1 ≤ q ∧ q < 100) (hq : wp L 2 zm_M_findsRoom 81 [rV 174, iV (kk : Int), iV (f : Int), u3] [] (zU M 192 f (q + 1)) Qx) : wp L 2 zm_M_findsRoom 23 [rV 174, iV (kk : Int), iV (f : Int), u3] [] M Qx := by
  have ef : ((f : Int)).toNat = f := by omega
  have hlt := vS_lt Y vAll
  refine wp_iload_n (pc := 23) d_M_findsRoom_23 rfl ?_
  refine wp_if_lt (tgt := 143) (pc := 24) d_M_findsRoom_24 rfl (fun c24 => ?_) (fun c24 => ?_)
  · exact absurd c24 (by omega)
  · refine wp_iload_n (pc := 27) d_M_findsRoom_27 rfl ?_
    refine wp_bipush (pc := 28) d_M_findsRoom_28 rfl ?_
    refine wp_icmp_ge (tgt := 143) (pc := 30) d_M_findsRoom_30 rfl (fun c30 => ?_) (fun c30 => ?_)
    · exact absurd c30 (by omega)
    · refine wp_aload_n (pc := 33) d_M_findsRoom_33 rfl ?_
      refine wp_getI (pc := 34) d_M_findsRoom_34 rfl (by decide) (zk_174 L) ?_
      rw [h25]
      refine wp_iload_n (pc := 37) d_M_findsRoom_37 rfl ?_
      refine wp_callS2f (pc := 38) d_M_findsRoom_38 rfl rfl rfl rfl rfl (c_M_has (by omega) (by omega)) ?_
      refine wp_if_ne (tgt := 71) (pc := 41) d_M_findsRoom_41 rfl (fun c41 => ?_) (fun c41 => ?_)
      · refine wp_aload_n (pc := 71) d_M_findsRoom_71 rfl ?_
        refine wp_getR (pc := 72) d_M_findsRoom_72 rfl (zk_174 L) zx_174_29 ?_
        refine wp_iload_n (pc := 75) d_M_findsRoom_75 rfl ?_
        refine wp_dup2 (pc := 76) d_M_findsRoom_76 rfl rfl ?_
        refine wp_iald (pc := 77) d_M_findsRoom_77 (zk_192 L) (by omega) (by omega) ?_
        rw [ef, hq0]
        refine wp_iconst (pc := 78) d_M_findsRoom_78 rfl ?_
        refine wp_iadd (pc := 79) d_M_findsRoom_79 (by omega) (by omega) ?_
        refine wp_iast (pc := 80) d_M_findsRoom_80 (zk_192 L) (by decide) (by omega) (by omega) ?_
        rw [ef]
        exact hq
      · exact absurd (qB_0 (Decidable.of_not_not c41)) (by rw [hsn]; decide)
theorem fr_un1 (h25 : M 174 25 = ((vS Y vAll : Nat) : Int)) {f kk : Nat} (hf : f < 6) {Qx : Option zV → zM → Prop} {u3 : zV} (hun : (vS Y vAll).testBit f = false) (h1 : M 192 f = -1) (hq : wp L 2 zm_M_findsRoom 23 [rV 174, iV (kk : Int), iV ((f : Int) + 1), u3] [] (zU M 192 f 0) Qx) : wp L 2 zm_M_findsRoom 23 [rV 174, iV (kk : Int), iV (f : Int), u3] [] M Qx := by
  have ef : ((f : Int)).toNat = f := by omega
  have hlt := vS_lt Y vAll
  refine wp_iload_n (pc := 23) d_M_findsRoom_23 rfl ?_
  refine wp_if_lt (tgt := 143) (pc := 24) d_M_findsRoom_24 rfl (fun c24 => ?_) (fun c24 => ?_)
  · exact absurd c24 (by omega)
  · refine wp_iload_n (pc := 27) d_M_findsRoom_27 rfl ?_
    refine wp_bipush (pc := 28) d_M_findsRoom_28 rfl ?_
    refine wp_icmp_ge (tgt := 143) (pc := 30) d_M_findsRoom_30 rfl (fun c30 => ?_) (fun c30 => ?_)
    · exact absurd c30 (by omega)
    · refine wp_aload_n (pc := 33) d_M_findsRoom_33 rfl ?_
      refine wp_getI (pc := 34) d_M_findsRoom_34 rfl (by decide) (zk_174 L) ?_
      rw [h25]
      refine wp_iload_n (pc := 37) d_M_findsRoom_37 rfl ?_
      refine wp_callS2f (pc := 38) d_M_findsRoom_38 rfl rfl rfl rfl rfl (c_M_has (by omega) (by omega)) ?_
      refine wp_if_ne (tgt := 71) (pc := 41) d_M_findsRoom_41 rfl (fun c41 => ?_) (fun c41 => ?_)
      · exact absurd (qB_1 c41) (by rw [hun]; decide)
      · refine wp_aload_n (pc := 44) d_M_findsRoom_44 rfl ?_
        refine wp_getR (pc := 45) d_M_findsRoom_45 rfl (zk_174 L) zx_174_29 ?_
        refine wp_iload_n (pc := 48) d_M_findsRoom_48 rfl ?_
        refine wp_iald (pc := 49) d_M_findsRoom_49 (zk_192 L) (by omega) (by omega) ?_
        rw [ef, h1]
        refine wp_iconst (pc := 50) d_M_findsRoom_50 rfl ?_
        refine wp_icmp_ne (tgt := 62) (pc := 51) d_M_findsRoom_51 rfl (fun c51 => ?_) (fun c51 => ?_)
        · exact absurd rfl c51
        · refine wp_aload_n (pc := 54) d_M_findsRoom_54 rfl ?_
          refine wp_iload_n (pc := 55) d_M_findsRoom_55 rfl ?_
          refine wp_callV1f (pc := 56) d_M_findsRoom_56 rfl rfl (zk_174 L) rfl rfl (c_M_goesOn hf) ?_
          refine wp_goto (tgt := 67) (pc := 59) d_M_findsRoom_59 rfl ?_
          refine wp_ist2 (pc := 67) d_M_findsRoom_67 rfl ?_
          refine wp_goto (tgt := 23) (pc := 68) d_M_findsRoom_68 rfl ?_
          rw [ef]
          exact hq
theorem fr_un2 (h25 : M 174 25 = ((vS Y vAll : Nat) : Int)) {f kk : Nat} (hf : f < 6) {Qx : Option zV → zM → Prop} {u3 : zV} (hun : (vS Y vAll).testBit f = false) (h1 : M 192 f = 0) (hq : wp L 2 zm_M_findsRoom 23 [rV 174, iV (kk : Int), iV ((f : Int) - 1), u3] [] (zU M 192 f (-1)) Qx) : wp L 2 zm_M_findsRoom 23 [rV 174, iV (kk : Int), iV (f : Int), u3] [] M Qx := by
  have ef : ((f : Int)).toNat = f := by omega
  have hlt := vS_lt Y vAll
  refine wp_iload_n (pc := 23) d_M_findsRoom_23 rfl ?_
  refine wp_if_lt (tgt := 143) (pc := 24) d_M_findsRoom_24 rfl (fun c24 => ?_) (fun c24 => ?_)
  · exact absurd c24 (by omega)
  · refine wp_iload_n (pc := 27) d_M_findsRoom_27 rfl ?_
    refine wp_bipush (pc := 28) d_M_findsRoom_28 rfl ?_
    refine wp_icmp_ge (tgt := 143) (pc := 30) d_M_findsRoom_30 rfl (fun c30 => ?_) (fun c30 => ?_)
    · exact absurd c30 (by omega)
    · refine wp_aload_n (pc := 33) d_M_findsRoom_33 rfl ?_
      refine wp_getI (pc := 34) d_M_findsRoom_34 rfl (by decide) (zk_174 L) ?_
      rw [h25]
      refine wp_iload_n (pc := 37) d_M_findsRoom_37 rfl ?_
      refine wp_callS2f (pc := 38) d_M_findsRoom_38 rfl rfl rfl rfl rfl (c_M_has (by omega) (by omega)) ?_
      refine wp_if_ne (tgt := 71) (pc := 41) d_M_findsRoom_41 rfl (fun c41 => ?_) (fun c41 => ?_)
      · exact absurd (qB_1 c41) (by rw [hun]; decide)
      · refine wp_aload_n (pc := 44) d_M_findsRoom_44 rfl ?_
        refine wp_getR (pc := 45) d_M_findsRoom_45 rfl (zk_174 L) zx_174_29 ?_
        refine wp_iload_n (pc := 48) d_M_findsRoom_48 rfl ?_
        refine wp_iald (pc := 49) d_M_findsRoom_49 (zk_192 L) (by omega) (by omega) ?_
        rw [ef, h1]
        refine wp_iconst (pc := 50) d_M_findsRoom_50 rfl ?_
        refine wp_icmp_ne (tgt := 62) (pc := 51) d_M_findsRoom_51 rfl (fun c51 => ?_) (fun c51 => ?_)
        · refine wp_aload_n (pc := 62) d_M_findsRoom_62 rfl ?_
          refine wp_iload_n (pc := 63) d_M_findsRoom_63 rfl ?_
          refine wp_callV1f (pc := 64) d_M_findsRoom_64 rfl rfl (zk_174 L) rfl rfl (c_M_goesBack hf) ?_
          refine wp_ist2 (pc := 67) d_M_findsRoom_67 rfl ?_
          refine wp_goto (tgt := 23) (pc := 68) d_M_findsRoom_68 rfl ?_
          rw [ef]
          exact hq
        · exact absurd (Decidable.of_not_not c51) (by decide)
theorem fr_81 (h25 : M 174 25 = ((vS Y vAll : Nat) : Int)) {f kk : Nat} (hf : f < 6) {Qx : Option zV → zM → Prop} {u3 : zV} (h93 : ∀ g, g < 6 → M 193 g = ((vC Y g : Nat) : Int)) {a : Int → Int} (hp : ∀ g, g < f → ((vS Y vAll).testBit g = true → M 192 g = a (g : Int)) ∧ ((vS Y vAll).testBit g = false → a (g : Int) = -1)) (p0 : 0 ≤ p) (pk : p ≤ kk) (hkk : kk ≤ 6) (hM : M 192 f = p) (k1 : p = kk → wp L 2 zm_M_findsRoom 23 [rV 174, iV (kk : Int), iV ((f : Int) - 1), u3] [] (zU M 192 f (-1)) Qx) (k2 : p < kk → vFit (vC Y) a f p = true → wp L 2 zm_M_findsRoom 23 [rV 174, iV (kk : Int), iV ((f : Int) + 1), u3] [] M Qx) (k3 : p < kk → vFit (vC Y) a f p = false → wp L 2 zm_M_findsRoom 81 [rV 174, iV (kk : Int), iV (f : Int), u3] [] (zU M 192 f (p + 1)) Qx) : wp L 2 zm_M_findsRoom 81 [rV 174, iV (kk : Int), iV (f : Int), u3] [] M Qx := by
  have ef : ((f : Int)).toNat = f := by omega
  have hlt := vS_lt Y vAll
  refine wp_aload_n (pc := 81) d_M_findsRoom_81 rfl ?_
  refine wp_getR (pc := 82) d_M_findsRoom_82 rfl (zk_174 L) zx_174_29 ?_
  refine wp_iload_n (pc := 85) d_M_findsRoom_85 rfl ?_
  refine wp_iald (pc := 86) d_M_findsRoom_86 (zk_192 L) (by omega) (by omega) ?_
  rw [ef, hM]
  refine wp_iload_n (pc := 87) d_M_findsRoom_87 rfl ?_
  refine wp_icmp_ge (tgt := 118) (pc := 88) d_M_findsRoom_88 rfl (fun c88 => ?_) (fun c88 => ?_)
  · refine wp_aload_n (pc := 118) d_M_findsRoom_118 rfl ?_
    refine wp_getR (pc := 119) d_M_findsRoom_119 rfl (zk_174 L) zx_174_29 ?_
    refine wp_iload_n (pc := 122) d_M_findsRoom_122 rfl ?_
    refine wp_iald (pc := 123) d_M_findsRoom_123 (zk_192 L) (by omega) (by omega) ?_
    rw [ef, hM]
    refine wp_iload_n (pc := 124) d_M_findsRoom_124 rfl ?_
    refine wp_icmp_ge (tgt := 134) (pc := 125) d_M_findsRoom_125 rfl (fun c125 => ?_) (fun c125 => ?_)
    · refine wp_aload_n (pc := 134) d_M_findsRoom_134 rfl ?_
      refine wp_iload_n (pc := 135) d_M_findsRoom_135 rfl ?_
      refine wp_callV1f (pc := 136) d_M_findsRoom_136 rfl rfl (zk_174 L) rfl rfl (c_M_goesBack hf) ?_
      refine wp_ist2 (pc := 139) d_M_findsRoom_139 rfl ?_
      refine wp_goto (tgt := 23) (pc := 140) d_M_findsRoom_140 rfl ?_
      first
      | exact k2 (by omega) (qB_1 c102)
      | (rw [ef]; exact k1 (by omega))
      | (exfalso; omega)
    · refine wp_iload_n (pc := 128) d_M_findsRoom_128 rfl ?_
      refine wp_iconst (pc := 129) d_M_findsRoom_129 rfl ?_
      refine wp_iadd (pc := 130) d_M_findsRoom_130 (by omega) (by omega) ?_
      refine wp_goto (tgt := 139) (pc := 131) d_M_findsRoom_131 rfl ?_
      refine wp_ist2 (pc := 139) d_M_findsRoom_139 rfl ?_
      refine wp_goto (tgt := 23) (pc := 140) d_M_findsRoom_140 rfl ?_
      first
      | exact k2 (by omega) (qB_1 c102)
      | (rw [ef]; exact k1 (by omega))
      | (exfalso; omega)
  · refine wp_aload_n (pc := 91) d_M_findsRoom_91 rfl ?_
    refine wp_iload_n (pc := 92) d_M_findsRoom_92 rfl ?_
    refine wp_aload_n (pc := 93) d_M_findsRoom_93 rfl ?_
    refine wp_getR (pc := 94) d_M_findsRoom_94 rfl (zk_174 L) zx_174_29 ?_
    refine wp_iload_n (pc := 97) d_M_findsRoom_97 rfl ?_
    refine wp_iald (pc := 98) d_M_findsRoom_98 (zk_192 L) (by omega) (by omega) ?_
    rw [ef, hM]
    refine wp_callV2f (pc := 99) d_M_findsRoom_99 rfl rfl (zk_174 L) rfl rfl (c_M_mbo h25 h93 hf hp p0) ?_
    refine wp_if_ne (tgt := 118) (pc := 102) d_M_findsRoom_102 rfl (fun c102 => ?_) (fun c102 => ?_)
    · refine wp_aload_n (pc := 118) d_M_findsRoom_118 rfl ?_
      refine wp_getR (pc := 119) d_M_findsRoom_119 rfl (zk_174 L) zx_174_29 ?_
      refine wp_iload_n (pc := 122) d_M_findsRoom_122 rfl ?_
      refine wp_iald (pc := 123) d_M_findsRoom_123 (zk_192 L) (by omega) (by omega) ?_
      rw [ef, hM]
      refine wp_iload_n (pc := 124) d_M_findsRoom_124 rfl ?_
      refine wp_icmp_ge (tgt := 134) (pc := 125) d_M_findsRoom_125 rfl (fun c125 => ?_) (fun c125 => ?_)
      · refine wp_aload_n (pc := 134) d_M_findsRoom_134 rfl ?_
        refine wp_iload_n (pc := 135) d_M_findsRoom_135 rfl ?_
        refine wp_callV1f (pc := 136) d_M_findsRoom_136 rfl rfl (zk_174 L) rfl rfl (c_M_goesBack hf) ?_
        refine wp_ist2 (pc := 139) d_M_findsRoom_139 rfl ?_
        refine wp_goto (tgt := 23) (pc := 140) d_M_findsRoom_140 rfl ?_
        first
        | exact k2 (by omega) (qB_1 c102)
        | (rw [ef]; exact k1 (by omega))
        | (exfalso; omega)
      · refine wp_iload_n (pc := 128) d_M_findsRoom_128 rfl ?_
        refine wp_iconst (pc := 129) d_M_findsRoom_129 rfl ?_
        refine wp_iadd (pc := 130) d_M_findsRoom_130 (by omega) (by omega) ?_
        refine wp_goto (tgt := 139) (pc := 131) d_M_findsRoom_131 rfl ?_
        refine wp_ist2 (pc := 139) d_M_findsRoom_139 rfl ?_
        refine wp_goto (tgt := 23) (pc := 140) d_M_findsRoom_140 rfl ?_
        first
        | exact k2 (by omega) (qB_1 c102)
        | (rw [ef]; exact k1 (by omega))
        | (exfalso; omega)
    · refine wp_aload_n (pc := 105) d_M_findsRoom_105 rfl ?_
      refine wp_getR (pc := 106) d_M_findsRoom_106 rfl (zk_174 L) zx_174_29 ?_
      refine wp_iload_n (pc := 109) d_M_findsRoom_109 rfl ?_
      refine wp_dup2 (pc := 110) d_M_findsRoom_110 rfl rfl ?_
      refine wp_iald (pc := 111) d_M_findsRoom_111 (zk_192 L) (by omega) (by omega) ?_
      rw [ef, hM]
      refine wp_iconst (pc := 112) d_M_findsRoom_112 rfl ?_
      refine wp_iadd (pc := 113) d_M_findsRoom_113 (by omega) (by omega) ?_
      refine wp_iast (pc := 114) d_M_findsRoom_114 (zk_192 L) (by decide) (by omega) (by omega) ?_
      refine wp_goto (tgt := 81) (pc := 115) d_M_findsRoom_115 rfl ?_
      rw [ef]
      exact k3 (by omega) (qB_0 (Decidable.of_not_not c102))
theorem fr_end1 {kk : Nat} {Qx : Option zV → zM → Prop} {u3 : zV} (hq : Qx (some (iV 1)) M) : wp L 2 zm_M_findsRoom 23 [rV 174, iV (kk : Int), iV 6, u3] [] M Qx := by
  refine wp_iload_n (pc := 23) d_M_findsRoom_23 rfl ?_
  refine wp_if_lt (tgt := 143) (pc := 24) d_M_findsRoom_24 rfl (fun c24 => ?_) (fun c24 => ?_)
  · exact absurd c24 (by decide)
  · refine wp_iload_n (pc := 27) d_M_findsRoom_27 rfl ?_
    refine wp_bipush (pc := 28) d_M_findsRoom_28 rfl ?_
    refine wp_icmp_ge (tgt := 143) (pc := 30) d_M_findsRoom_30 rfl (fun c30 => ?_) (fun c30 => ?_)
    · refine wp_iload_n (pc := 143) d_M_findsRoom_143 rfl ?_
      refine wp_bipush (pc := 144) d_M_findsRoom_144 rfl ?_
      refine wp_icmp_ne (tgt := 153) (pc := 146) d_M_findsRoom_146 rfl (fun c146 => ?_) (fun c146 => ?_)
      · exact absurd rfl c146
      · refine wp_iconst (pc := 149) d_M_findsRoom_149 rfl ?_
        refine wp_goto (tgt := 154) (pc := 150) d_M_findsRoom_150 rfl ?_
        refine wp_zreturn (pc := 154) d_M_findsRoom_154 rfl (by omega) ?_
        exact hq
    · exact absurd (Int.le_refl 6) c30
theorem fr_end0 {kk : Nat} {Qx : Option zV → zM → Prop} {u3 : zV} (hq : Qx (some (iV 0)) M) : wp L 2 zm_M_findsRoom 23 [rV 174, iV (kk : Int), iV (-1), u3] [] M Qx := by
  refine wp_iload_n (pc := 23) d_M_findsRoom_23 rfl ?_
  refine wp_if_lt (tgt := 143) (pc := 24) d_M_findsRoom_24 rfl (fun c24 => ?_) (fun c24 => ?_)
  · refine wp_iload_n (pc := 143) d_M_findsRoom_143 rfl ?_
    refine wp_bipush (pc := 144) d_M_findsRoom_144 rfl ?_
    refine wp_icmp_ne (tgt := 153) (pc := 146) d_M_findsRoom_146 rfl (fun c146 => ?_) (fun c146 => ?_)
    · refine wp_iconst (pc := 153) d_M_findsRoom_153 rfl ?_
      refine wp_zreturn (pc := 154) d_M_findsRoom_154 rfl (by omega) ?_
      exact hq
    · exact absurd (Decidable.of_not_not c146) (by decide)
  · exact absurd (by decide) c24
/-- from forme f on: room is found, or there is none -/
theorem fr_rec {M0 : zM} (h25 : M0 174 25 = ((vS Y vAll : Nat) : Int)) (h93 : ∀ g, g < 6 → M0 193 g = ((vC Y g : Nat) : Int)) (hi : qYi Y) {kk : Nat} (hkk : kk ≤ 6) {Qx : Option zV → zM → Prop} {u3 : zV} : ∀ (n f : Nat) (a : Int → Int) (M : zM), f + n = 6 → mF (fun a k => a = 192) M0 M → mPs M Y f a →
    (∀ r M', vAs (vT Y) (vC Y) kk n f a = some r → mF (fun a k => a = 192) M0 M' → mPs M' Y 6 r → wp L 2 zm_M_findsRoom 23 [rV 174, iV (kk : Int), iV 6, u3] [] M' Qx) →
    (vAs (vT Y) (vC Y) kk n f a = none → ∀ M', mF (fun a k => a = 192) M0 M' → mPs M' Y f a → wp L 2 zm_M_findsRoom 23 [rV 174, iV (kk : Int), iV ((f : Int) - 1), u3] [] M' Qx) → wp L 2 zm_M_findsRoom 23 [rV 174, iV (kk : Int), iV (f : Int), u3] [] M Qx := by
  intro n
  induction n with
  | zero =>
    intro f a M hf hm hp hs _
    have e : f = 6 := by omega
    subst e
    exact hs a M rfl hm hp
  | succ n ih =>
    intro f a M hf hm hp hs hfl
    have f6 : f < 6 := by omega
    have q25 : ∀ M', mF (fun a k => a = 192) M0 M' → M' 174 25 = ((vS Y vAll : Nat) : Int) := fun M' h => (h 174 25 (by decide)).trans h25
    have q93 : ∀ M', mF (fun a k => a = 192) M0 M' → ∀ g, g < 6 → M' 193 g = ((vC Y g : Nat) : Int) := fun M' h g g6 => (h 193 g (by omega)).trans (h93 g g6)
    have e1 : ((f + 1 : Nat) : Int) = (f : Int) + 1 := by omega
    have e2 : (f : Int) + 1 - 1 = (f : Int) := by omega
    cases hsn : (vS Y vAll).testBit f with
    | false =>
      have hT : vT Y f = 0 := Decidable.of_not_not (of_decide_eq_false ((vS_T hi f6).symm.trans hsn))
      have eA : vAs (vT Y) (vC Y) kk (n + 1) f a = vAs (vT Y) (vC Y) kk n (f + 1) (qPut a (f : Int) (-1)) := by simp only [vAs]; rw [if_pos hT]
      rw [eA] at hs hfl
      refine fr_un1 (q25 M hm) f6 hsn ((hp f f6).2 (Nat.le_refl _)) ?_
      have h := ih (f + 1) (qPut a (f : Int) (-1)) (zU M 192 f 0) (by omega) (hm.u rfl) (hp.x.u.un zU_eq hsn) hs (fun hn M' hm' hp' => by
        rw [e1, e2]
        have q := ((hp' f f6).1 (by omega)).2 hsn
        exact fr_un2 (q25 M' hm') f6 hsn q.1 (hfl hn _ (hm'.u rfl) (hp'.back.u.no zU_eq)))
      rw [e1] at h
      exact h
    | true =>
      have hT : ¬ vT Y f = 0 := of_decide_eq_true ((vS_T hi f6).symm.trans hsn)
      have eA : vAs (vT Y) (vC Y) kk (n + 1) f a = vTry (fun p => if vFit (vC Y) a f p = true then vAs (vT Y) (vC Y) kk n (f + 1) (qPut a (f : Int) p) else none) kk 0 := by simp only [vAs]; rw [if_neg hT]
      rw [eA] at hs hfl
      have key : ∀ (w : Nat) (p : Int) (M : zM), p + w = kk → 0 ≤ p → mF (fun a k => a = 192) M0 M → mPx M Y f a → M 192 f = p →
          (∀ r M', vTry (fun p => if vFit (vC Y) a f p = true then vAs (vT Y) (vC Y) kk n (f + 1) (qPut a (f : Int) p) else none) w p = some r → mF (fun a k => a = 192) M0 M' → mPs M' Y 6 r → wp L 2 zm_M_findsRoom 23 [rV 174, iV (kk : Int), iV 6, u3] [] M' Qx) →
          (vTry (fun p => if vFit (vC Y) a f p = true then vAs (vT Y) (vC Y) kk n (f + 1) (qPut a (f : Int) p) else none) w p = none → ∀ M', mF (fun a k => a = 192) M0 M' → mPs M' Y f a → wp L 2 zm_M_findsRoom 23 [rV 174, iV (kk : Int), iV ((f : Int) - 1), u3] [] M' Qx) → wp L 2 zm_M_findsRoom 81 [rV 174, iV (kk : Int), iV (f : Int), u3] [] M Qx := by
        intro w
        induction w with
        | zero =>
          intro p M hpw p0 hm hx hM hs hfl
          exact fr_81 (q25 M hm) f6 (q93 M hm) (fun g hg => ⟨((hx g (by omega) (by omega)).1 hg).1, fun z => (((hx g (by omega) (by omega)).1 hg).2 z).2⟩) p0 (by omega) hkk hM (fun _ => hfl rfl _ (hm.u rfl) (hx.u.no zU_eq)) (fun z => absurd z (by omega)) (fun z => absurd z (by omega))
        | succ w ihw =>
          intro p M hpw p0 hm hx hM hs hfl
          refine fr_81 (q25 M hm) f6 (q93 M hm) (fun g hg => ⟨((hx g (by omega) (by omega)).1 hg).1, fun z => (((hx g (by omega) (by omega)).1 hg).2 z).2⟩) p0 (by omega) hkk hM (fun z => absurd z (by omega)) (fun _ hfit => ?_) (fun _ hfit => ?_)
          · have h := ih (f + 1) (qPut a (f : Int) p) M (by omega) hm (hx.on hM hsn) (fun r M' hr hm' hp' => hs r M' (vTry_s (by rw [if_pos hfit]; exact hr)) hm' hp') (fun hn M' hm' hp' => by
              rw [e1, e2]
              have q := ((hp' f f6).1 (by omega)).1 hsn
              rw [qPut_eq] at q
              refine fr_seen (q25 M' hm') f6 hsn q (by omega) ?_
              have et : vTry (fun p => if vFit (vC Y) a f p = true then vAs (vT Y) (vC Y) kk n (f + 1) (qPut a (f : Int) p) else none) (w + 1) p = vTry (fun p => if vFit (vC Y) a f p = true then vAs (vT Y) (vC Y) kk n (f + 1) (qPut a (f : Int) p) else none) w (p + 1) := vTry_n (by rw [if_pos hfit]; exact hn)
              rw [et] at hs hfl
              exact ihw (p + 1) _ (by omega) (by omega) (hm'.u rfl) hp'.back.u zU_eq hs hfl)
            rw [e1] at h
            exact h
          · have et : vTry (fun p => if vFit (vC Y) a f p = true then vAs (vT Y) (vC Y) kk n (f + 1) (qPut a (f : Int) p) else none) (w + 1) p = vTry (fun p => if vFit (vC Y) a f p = true then vAs (vT Y) (vC Y) kk n (f + 1) (qPut a (f : Int) p) else none) w (p + 1) := vTry_n (by rw [hfit]; rfl)
            rw [et] at hs hfl
            exact ihw (p + 1) _ (by omega) (by omega) (hm.u rfl) hx.u zU_eq hs hfl
      refine fr_seen (q25 M hm) f6 hsn ((hp f f6).2 (Nat.le_refl _)) (by omega) ?_
      exact key kk 0 _ (by omega) (by omega) (hm.u rfl) hp.x.u zU_eq hs hfl
theorem lp_M_fr {M0 : zM} (h25 : M0 174 25 = ((vS Y vAll : Nat) : Int)) (h93 : ∀ g, g < 6 → M0 193 g = ((vC Y g : Nat) : Int)) (hi : qYi Y) {kk : Nat} (hkk : kk ≤ 6) : ∀ (n9 : Nat) (k : Nat) (M : zM), 6 - (k : Int) < n9 → (k ≤ 6) → (mF (fun a k => a = 192) M0 M) → (∀ g, g < k → M 192 g = -1) → wp L 2 zm_M_findsRoom 4 [rV 174, iV (kk : Int), iV 0, iV k] [] M (fun r M' => ∃ z, r = some (iV z) ∧ (mF (fun a k => a = 192) M0 M' ∧ ((z = 1 ∧ ∃ r, vPs Y kk = some r ∧ mPs M' Y 6 r) ∨ (z = 0 ∧ vPs Y kk = none)))) := by
  intro n9
  induction n9 with
  | zero =>
    intro k  M  h9 g0 g3 g4
    exact absurd h9 (by omega)
  | succ n9 ih =>
    intro k  M  h9 g0 g3 g4
    refine wp_iload_n (pc := 4) d_M_findsRoom_4 rfl ?_
    refine wp_bipush (pc := 5) d_M_findsRoom_5 rfl ?_
    refine wp_icmp_ge (tgt := 23) (pc := 7) d_M_findsRoom_7 rfl (fun c7 => ?_) (fun c7 => ?_)
    · exact fr_rec h25 h93 hi hkk 6 0 (fun _ => -1) M rfl g3 (fun g g6 => ⟨fun z => absurd z (by omega), fun _ => g4 g (by omega)⟩) (fun r M' hr hm hp => fr_end1 ⟨_, rfl, hm, Or.inl ⟨rfl, r, hr, hp⟩⟩) (fun hn M' hm hp => fr_end0 ⟨_, rfl, hm, Or.inr ⟨rfl, hn⟩⟩)
    · refine wp_aload_n (pc := 10) d_M_findsRoom_10 rfl ?_
      refine wp_getR (pc := 11) d_M_findsRoom_11 rfl (zk_174 L) zx_174_29 ?_
      refine wp_iload_n (pc := 14) d_M_findsRoom_14 rfl ?_
      refine wp_iconst (pc := 15) d_M_findsRoom_15 rfl ?_
      refine wp_iast (pc := 16) d_M_findsRoom_16 (zk_192 L) (by decide) (by omega) (by omega) ?_
      refine wp_iinc3 (pc := 17) d_M_findsRoom_17 rfl (by omega) (by omega) ?_
      refine wp_goto (tgt := 4) (pc := 20) d_M_findsRoom_20 rfl ?_
      refine ih (k + 1) _ (by omega) (by omega) (g3.u rfl) (fun g hg => ?_)
      by_cases e : g = ((k : Int)).toNat
      · rw [e, zU_eq]
      · rw [zU_nk e]; exact g4 g (by omega)
theorem c_M_findsRoom (h25 : M 174 25 = ((vS Y vAll : Nat) : Int)) (h93 : ∀ g, g < 6 → M 193 g = ((vC Y g : Nat) : Int)) (hi : qYi Y) {kk : Nat} (hkk : kk ≤ 6) : wpc L 2 zm_M_findsRoom [rV 174, iV (kk : Int)] M (fun r M' => ∃ z, r = some (iV z) ∧ (mF (fun a k => a = 192) M M' ∧ ((z = 1 ∧ ∃ r, vPs Y kk = some r ∧ mPs M' Y 6 r) ∨ (z = 0 ∧ vPs Y kk = none)))) := by
  show wp L _ zm_M_findsRoom 0 [rV 174, iV (kk : Int), uV, uV] [] M _
  refine wp_iconst (pc := 0) d_M_findsRoom_0 rfl ?_
  refine wp_ist2 (pc := 1) d_M_findsRoom_1 rfl ?_
  refine wp_iconst (pc := 2) d_M_findsRoom_2 rfl ?_
  refine wp_ist3 (pc := 3) d_M_findsRoom_3 rfl ?_
  exact lp_M_fr (M0 := M) h25 h93 hi hkk 100 0 M (by omega) (by omega) mF.rf (fun g hg => absurd hg (by omega))
theorem Ci_of {d : Nat} {m : zD} {as : List zV} {P : Int → zM → Prop} (h : wpc L d m as M (fun r M' => ∃ z, r = some (iV z) ∧ P z M')) : Ci L d m as M P := h
abbrev mPz (a k : Nat) : Prop := (190 ≤ a ∧ a < 194) ∨ a = 174 ∧ (k = 25 ∨ k = 28)
theorem lp_M_lp2 {M0 : zM} (hy : mY M0 Y) (hi : qYi Y) : ∀ (n9 : Nat) (t : Nat) (M : zM) (u1 : zV), 7 - (t : Int) < n9 → (t ≤ 6) → (M 174 28 = (t : Int)) → (∀ q, q < t → (vPs Y q).isSome = false) → (mF mPz M0 M) → (M 174 25 = ((vS Y vAll : Nat) : Int)) → (∀ g, g < 6 → M 193 g = ((vC Y g : Nat) : Int)) → wp L 3 zm_M_layPresses 38 [rV 174, u1] [] M (fun r M' => r = none ∧ (mF mPz M0 M' ∧ M' 174 25 = ((vS Y vAll : Nat) : Int) ∧ M' 174 28 = ((vNum Y : Nat) : Int) ∧ ∃ r, vPs Y (vNum Y) = some r ∧ mPs M' Y 6 r)) := by
  intro n9
  induction n9 with
  | zero =>
    intro t  M  u1  h9 g0 g1 g2 g3 g5 g6
    exact absurd h9 (by omega)
  | succ n9 ih =>
    intro t  M  u1  h9 g0 g1 g2 g3 g5 g6
    refine wp_aload_n (pc := 38) d_M_layPresses_38 rfl ?_
    refine wp_aload_n (pc := 39) d_M_layPresses_39 rfl ?_
    refine wp_getI (pc := 40) d_M_layPresses_40 rfl (by decide) (zk_174 L) ?_
    rw [g1]
    refine wp_callV1i (pc := 43) d_M_layPresses_43 rfl rfl (zk_174 L) rfl rfl (Ci_of (c_M_findsRoom g5 g6 hi g0)) (fun x43 M43 h43 => ?_)
    refine wp_if_ne (tgt := 62) (pc := 46) d_M_layPresses_46 rfl (fun c46 => ?_) (fun c46 => ?_)
    · refine wp_return_ (pc := 62) d_M_layPresses_62 rfl ?_
      rcases h43.2 with ⟨_, r, h1, h2⟩ | ⟨z, _⟩
      · have hv : vNum Y = t := vNum_at Y (by rw [h1]; rfl) g2
        rw [hv]
        exact ⟨rfl, g3.tr (h43.1.up (fun a k z => by omega)), (h43.1 174 25 (by decide)).trans g5, (h43.1 174 28 (by decide)).trans g1, r, h1, h2⟩
      · exact absurd z (by omega)
    · refine wp_aload_n (pc := 49) d_M_layPresses_49 rfl ?_
      refine wp_dup (pc := 50) d_M_layPresses_50 rfl ?_
      refine wp_getI (pc := 51) d_M_layPresses_51 rfl (by decide) (zk_174 L) ?_
      rw [h43.1 174 28 (by decide), g1]
      refine wp_iconst (pc := 54) d_M_layPresses_54 rfl ?_
      refine wp_iadd (pc := 55) d_M_layPresses_55 (by omega) (by omega) ?_
      refine wp_putI (pc := 56) d_M_layPresses_56 rfl (zk_174 L) (by decide) ?_
      refine wp_goto (tgt := 38) (pc := 59) d_M_layPresses_59 rfl ?_
      have hn : vPs Y t = none := by
        rcases h43.2 with ⟨z, _⟩ | ⟨_, z⟩
        · omega
        · exact z
      have ht : t < 6 := by
        by_cases e : t < 6
        · exact e
        · have := vPs_6 Y
          rw [show 6 = t by omega, hn] at this
          exact absurd this (by decide)
      have k1 : mF (fun a k => a = 192 ∨ a = 174 ∧ k = 28) M (zU M43 174 28 ((t : Int) + 1)) := (h43.1.up (fun a k z => Or.inl z)).u (Or.inr ⟨rfl, rfl⟩)
      refine ih (t + 1) _ _ (by omega) (by omega) (by rw [zU_eq]; omega) (fun q hq => ?_) (g3.tr (k1.up (fun a k z => by omega))) ((k1 174 25 (by omega)).trans g5) (fun g g6' => (k1 193 g (by omega)).trans (g6 g g6'))
      by_cases e : q = t
      · rw [e, hn]; rfl
      · exact g2 q (by omega)
theorem lp_M_lp1 {M0 : zM} (hy : mY M0 Y) (hi : qYi Y) : ∀ (n9 : Nat) (k : Nat) (M : zM), 6 - (k : Int) < n9 → (k ≤ 6) → (mF mPz M0 M) → (M 174 25 = ((vS Y vAll : Nat) : Int)) → (∀ g, g < k → M 193 g = ((vC Y g : Nat) : Int)) → wp L 3 zm_M_layPresses 10 [rV 174, iV k] [] M (fun r M' => r = none ∧ (mF mPz M0 M' ∧ M' 174 25 = ((vS Y vAll : Nat) : Int) ∧ M' 174 28 = ((vNum Y : Nat) : Int) ∧ ∃ r, vPs Y (vNum Y) = some r ∧ mPs M' Y 6 r)) := by
  intro n9
  induction n9 with
  | zero =>
    intro k  M  h9 g0 g3 g5 g6
    exact absurd h9 (by omega)
  | succ n9 ih =>
    intro k  M  h9 g0 g3 g5 g6
    have hyM : mY M Y := hy.keep g3 (by omega) (by omega)
    refine wp_iload_n (pc := 10) d_M_layPresses_10 rfl ?_
    refine wp_bipush (pc := 11) d_M_layPresses_11 rfl ?_
    refine wp_icmp_ge (tgt := 33) (pc := 13) d_M_layPresses_13 rfl (fun c13 => ?_) (fun c13 => ?_)
    · refine wp_aload_n (pc := 33) d_M_layPresses_33 rfl ?_
      refine wp_iconst (pc := 34) d_M_layPresses_34 rfl ?_
      refine wp_putI (pc := 35) d_M_layPresses_35 rfl (zk_174 L) (by decide) ?_
      exact lp_M_lp2 hy hi 100 0 _ _ (by omega) (by omega) zU_eq (fun q hq => absurd hq (by omega)) (g3.u (by omega)) (by rw [zU_nk (by decide)]; exact g5) (fun g g6' => by rw [zU_na (by decide)]; exact g6 g (by omega))
    · refine wp_aload_n (pc := 16) d_M_layPresses_16 rfl ?_
      refine wp_getR (pc := 17) d_M_layPresses_17 rfl (zk_174 L) zx_174_30 ?_
      refine wp_iload_n (pc := 20) d_M_layPresses_20 rfl ?_
      refine wp_aload_n (pc := 21) d_M_layPresses_21 rfl ?_
      refine wp_iload_n (pc := 22) d_M_layPresses_22 rfl ?_
      refine wp_callV1f (pc := 23) d_M_layPresses_23 rfl rfl (zk_174 L) rfl rfl (c_M_tog hyM hi g5 (by omega)) ?_
      refine wp_iast (pc := 26) d_M_layPresses_26 (zk_193 L) (by decide) (by omega) (by omega) ?_
      refine wp_iinc1 (pc := 27) d_M_layPresses_27 rfl (by omega) (by omega) ?_
      refine wp_goto (tgt := 10) (pc := 30) d_M_layPresses_30 rfl ?_
      refine ih (k + 1) _ (by omega) (by omega) (g3.u (by omega)) (by rw [zU_na (by decide)]; exact g5) (fun g hg => ?_)
      by_cases e : g = ((k : Int)).toNat
      · rw [e, zU_eq, show ((k : Int)).toNat = k by omega]
      · rw [zU_nk e]; exact g6 g (by omega)
theorem c_M_layPresses (hy : mY M Y) (hi : qYi Y) : wpc L 3 zm_M_layPresses [rV 174] M (fun r M' => r = none ∧ (mF mPz M M' ∧ M' 174 25 = ((vS Y vAll : Nat) : Int) ∧ M' 174 28 = ((vNum Y : Nat) : Int) ∧ ∃ r, vPs Y (vNum Y) = some r ∧ mPs M' Y 6 r)) := by
  show wp L _ zm_M_layPresses 0 [rV 174, uV] [] M _
  have h12 := hi.1
  have hp : 2 ^ Y.1.toNat ≤ 2 ^ 12 := Nat.pow_le_pow_right (by decide) (by omega)
  refine wp_aload_n (pc := 0) d_M_layPresses_0 rfl ?_
  refine wp_aload_n (pc := 1) d_M_layPresses_1 rfl ?_
  refine wp_callV0f (pc := 2) d_M_layPresses_2 rfl rfl (zk_174 L) rfl rfl (c_M_allSightings hy hi) ?_
  refine wp_callV1v (pc := 5) d_M_layPresses_5 rfl rfl (zk_174 L) rfl rfl (Cv_of (c_M_layAhead (S := vAll) hy hi (by omega) vAll_bit)) (fun M5 h5 => ?_)
  obtain ⟨a1, a2⟩ := h5
  have hy1 : mY M5 Y := hy.keep a1 (by omega) (by omega)
  have e25 := a2.1
  have hlt := vS_lt Y vAll
  refine wp_iconst (pc := 8) d_M_layPresses_8 rfl ?_
  refine wp_ist1 (pc := 9) d_M_layPresses_9 rfl ?_
  refine wp_mono (lp_M_lp1 (M0 := M5) hy1 hi 100 0 M5 (by omega) (by omega) mF.rf e25 (fun g hg => absurd hg (by omega))) (fun r M' hr => ⟨hr.1, (a1.up (fun a k z => by omega)).tr hr.2.1, hr.2.2⟩)
theorem c_M_pressNow (hy : mY M Y) (hi : qYi Y) {f : Nat} (hf : f < 6) : Ci L 4 zm_M_pressNow [rV 174, iV (f : Int)] M (fun v M' => v = vPo2 Y (f : Int) ∧ mF mPz M M') := by
  show wp L _ zm_M_pressNow 0 [rV 174, iV (f : Int)] [] M _
  refine wp_aload_n (pc := 0) d_M_pressNow_0 rfl ?_
  refine wp_callV0v (pc := 1) d_M_pressNow_1 rfl rfl (zk_174 L) rfl rfl (Cv_of (c_M_layPresses hy hi)) (fun M1 h1 => ?_)
  obtain ⟨a1, a2, a3, r, a4, a5⟩ := h1
  have hlt := vS_lt Y vAll
  obtain ⟨q1, q2⟩ := (a5 f hf).1 hf
  have ef : ((f : Int)).toNat = f := by omega
  have ev : vPo2 Y (f : Int) = r (f : Int) := by unfold vPo2; rw [a4]; rfl
  refine wp_aload_n (pc := 4) d_M_pressNow_4 rfl ?_
  refine wp_getI (pc := 5) d_M_pressNow_5 rfl (by decide) (zk_174 L) ?_
  rw [a2]
  refine wp_iload_n (pc := 8) d_M_pressNow_8 rfl ?_
  refine wp_callS2f (pc := 9) d_M_pressNow_9 rfl rfl rfl rfl rfl (c_M_has (by omega) (by omega)) ?_
  refine wp_if_eq (tgt := 24) (pc := 12) d_M_pressNow_12 rfl (fun c12 => ?_) (fun c12 => ?_)
  · refine wp_iconst (pc := 24) d_M_pressNow_24 rfl ?_
    refine wp_ireturn (pc := 25) d_M_pressNow_25 rfl ?_
    first
    | exact ⟨_, rfl, by rw [ev]; exact q1 (qB_1 c12), a1⟩
    | exact ⟨_, rfl, by rw [ev]; exact (q2 (qB_0 c12)).2.symm, a1⟩
  · refine wp_aload_n (pc := 15) d_M_pressNow_15 rfl ?_
    refine wp_getR (pc := 16) d_M_pressNow_16 rfl (zk_174 L) zx_174_29 ?_
    refine wp_iload_n (pc := 19) d_M_pressNow_19 rfl ?_
    refine wp_iald (pc := 20) d_M_pressNow_20 (zk_192 L) (by omega) (by omega) ?_
    rw [ef]
    refine wp_goto (tgt := 25) (pc := 21) d_M_pressNow_21 rfl ?_
    refine wp_ireturn (pc := 25) d_M_pressNow_25 rfl ?_
    first
    | exact ⟨_, rfl, by rw [ev]; exact q1 (qB_1 c12), a1⟩
    | exact ⟨_, rfl, by rw [ev]; exact (q2 (qB_0 c12)).2.symm, a1⟩
theorem c_M_pressesNow (hy : mY M Y) (hi : qYi Y) : Ci L 4 zm_M_pressesNow [rV 174] M (fun v M' => v = ((vNum Y : Nat) : Int) ∧ mF mPz M M') := by
  show wp L _ zm_M_pressesNow 0 [rV 174] [] M _
  refine wp_aload_n (pc := 0) d_M_pressesNow_0 rfl ?_
  refine wp_callV0v (pc := 1) d_M_pressesNow_1 rfl rfl (zk_174 L) rfl rfl (Cv_of (c_M_layPresses hy hi)) (fun M1 h1 => ?_)
  obtain ⟨a1, a2, a3, a4⟩ := h1
  refine wp_aload_n (pc := 4) d_M_pressesNow_4 rfl ?_
  refine wp_getI (pc := 5) d_M_pressesNow_5 rfl (by decide) (zk_174 L) ?_
  refine wp_ireturn (pc := 8) d_M_pressesNow_8 rfl ?_
  exact ⟨_, rfl, a3, a1⟩
theorem c_M_formeNow (hy : mY M Y) (hi : qYi Y) {f : Nat} (hf : f < 6) (w0 : 0 ≤ w) (w4 : w ≤ 4) : Ci L 6 zm_M_formeNow [rV 174, iV (f : Int), iV w] M (fun v M' => v = vFm Y (f : Int) w ∧ mF mPz M M') := by
  show wp L _ zm_M_formeNow 0 [rV 174, iV (f : Int), iV w] [] M _
  have h12 := hi.1
  have hp : 2 ^ Y.1.toNat ≤ 2 ^ 12 := Nat.pow_le_pow_right (by decide) (by omega)
  have ef : ((f : Int)).toNat = f := by omega
  refine wp_aload_n (pc := 0) d_M_formeNow_0 rfl ?_
  refine wp_aload_n (pc := 1) d_M_formeNow_1 rfl ?_
  refine wp_callV0f (pc := 2) d_M_formeNow_2 rfl rfl (zk_174 L) rfl rfl (c_M_allSightings hy hi) ?_
  refine wp_callV1v (pc := 5) d_M_formeNow_5 rfl rfl (zk_174 L) rfl rfl (Cv_of (c_M_layAhead (S := vAll) hy hi (by omega) vAll_bit)) (fun M5 h5 => ?_)
  obtain ⟨a1, a2⟩ := h5
  have hy1 : mY M5 Y := hy.keep a1 (by omega) (by omega)
  have e25 := a2.1
  have hlt := vS_lt Y vAll
  refine wp_iload_n (pc := 8) d_M_formeNow_8 rfl ?_
  rcases zsw4 0 w with c9 | c9 | c9 | c9 | c9
  · refine wp_tableO (tgt := 65) (pc := 9) d_M_formeNow_9 (by omega) rfl ?_
    refine wp_aload_n (pc := 65) d_M_formeNow_65 rfl ?_
    refine wp_iload_n (pc := 66) d_M_formeNow_66 rfl ?_
    refine wp_callV1i (pc := 67) d_M_formeNow_67 rfl rfl (zk_174 L) rfl rfl (c_M_pressNow hy1 hi hf) (fun x67 M67 h67 => ?_)
    refine wp_ireturn (pc := 70) d_M_formeNow_70 rfl ?_
    refine ⟨_, rfl, ?_, (a1.up (fun a k z => by omega)).tr h67.2⟩
    unfold vFm
    rw [if_neg (show ¬ w = 0 by omega)]
    rw [if_neg (show ¬ w = 1 by omega)]
    rw [if_neg (show ¬ w = 2 by omega)]
    rw [if_neg (show ¬ w = 3 by omega)]
    exact h67.1
  · refine wp_tableI (tgt := 40) (off := 31) (pc := 9) d_M_formeNow_9 (by omega) (by omega) (by rw [c9]; rfl) rfl ?_
    refine wp_aload_n (pc := 40) d_M_formeNow_40 rfl ?_
    refine wp_iload_n (pc := 41) d_M_formeNow_41 rfl ?_
    refine wp_callV1f (pc := 42) d_M_formeNow_42 rfl rfl (zk_174 L) rfl rfl (c_M_onForme hy1 hi) ?_
    refine wp_ireturn (pc := 45) d_M_formeNow_45 rfl ?_
    refine ⟨_, rfl, ?_, a1.up (fun a k z => by omega)⟩
    unfold vFm
    rw [if_pos (show w = 0 by omega)]
    rw [ef]
  · refine wp_tableI (tgt := 46) (off := 37) (pc := 9) d_M_formeNow_9 (by omega) (by omega) (by rw [c9]; rfl) rfl ?_
    refine wp_aload_n (pc := 46) d_M_formeNow_46 rfl ?_
    refine wp_getR (pc := 47) d_M_formeNow_47 rfl (zk_174 L) zx_174_26 ?_
    refine wp_iload_n (pc := 50) d_M_formeNow_50 rfl ?_
    refine wp_iald (pc := 51) d_M_formeNow_51 (zk_190 L) (by omega) (by omega) ?_
    rw [ef, a2.2 f hf]
    refine wp_ireturn (pc := 52) d_M_formeNow_52 rfl ?_
    refine ⟨_, rfl, ?_, a1.up (fun a k z => by omega)⟩
    unfold vFm
    rw [if_neg (show ¬ w = 0 by omega)]
    rw [if_pos (show w = 1 by omega)]
    rw [ef]
  · refine wp_tableI (tgt := 53) (off := 44) (pc := 9) d_M_formeNow_9 (by omega) (by omega) (by rw [c9]; rfl) rfl ?_
    refine wp_aload_n (pc := 53) d_M_formeNow_53 rfl ?_
    refine wp_iload_n (pc := 54) d_M_formeNow_54 rfl ?_
    refine wp_callV1f (pc := 55) d_M_formeNow_55 rfl rfl (zk_174 L) rfl rfl (c_M_tog hy1 hi e25 hf) ?_
    refine wp_ireturn (pc := 58) d_M_formeNow_58 rfl ?_
    refine ⟨_, rfl, ?_, a1.up (fun a k z => by omega)⟩
    unfold vFm
    rw [if_neg (show ¬ w = 0 by omega)]
    rw [if_neg (show ¬ w = 1 by omega)]
    rw [if_pos (show w = 2 by omega)]
    rw [ef]
  · refine wp_tableI (tgt := 59) (off := 50) (pc := 9) d_M_formeNow_9 (by omega) (by omega) (by rw [c9]; rfl) rfl ?_
    refine wp_aload_n (pc := 59) d_M_formeNow_59 rfl ?_
    refine wp_iload_n (pc := 60) d_M_formeNow_60 rfl ?_
    refine wp_callV1i (pc := 61) d_M_formeNow_61 rfl rfl (zk_174 L) rfl rfl (c_M_placeOf hy1 hi (by omega)) (fun x61 M61 h61 => ?_)
    refine wp_ireturn (pc := 64) d_M_formeNow_64 rfl ?_
    refine ⟨_, rfl, ?_, (a1.up (fun a k z => by omega)).tr (h61.2.up (fun a k z => by omega))⟩
    unfold vFm
    rw [if_neg (show ¬ w = 0 by omega)]
    rw [if_neg (show ¬ w = 1 by omega)]
    rw [if_neg (show ¬ w = 2 by omega)]
    rw [if_pos (show w = 3 by omega)]
    exact h61.1
theorem c_M_forme (hy : mY M Y) (hi : qYi Y) : Ci L 7 zm_M_forme [rV 174, iV x, iV w] M (fun v M' => v = xFm Y x w ∧ mF mPq M M') := by
  show wp L _ zm_M_forme 0 [rV 174, iV x, iV w] [] M _
  refine wp_iload_n (pc := 0) d_M_forme_0 rfl ?_
  refine wp_iconst (pc := 1) d_M_forme_1 rfl ?_
  refine wp_iconst (pc := 2) d_M_forme_2 rfl ?_
  refine wp_callS3f (pc := 3) d_M_forme_3 rfl rfl rfl rfl rfl c_M_within ?_
  refine wp_if_ne (tgt := 12) (pc := 6) d_M_forme_6 rfl (fun c6 => ?_) (fun c6 => ?_)
  · have c6 := zb_ne0 c6
    refine wp_iload_n (pc := 12) d_M_forme_12 rfl ?_
    refine wp_iconst (pc := 13) d_M_forme_13 rfl ?_
    refine wp_iconst (pc := 14) d_M_forme_14 rfl ?_
    refine wp_callS3f (pc := 15) d_M_forme_15 rfl rfl rfl rfl rfl c_M_within ?_
    refine wp_if_eq (tgt := 30) (pc := 18) d_M_forme_18 rfl (fun c18 => ?_) (fun c18 => ?_)
    · have c18 := zb_eq0 c18
      refine wp_bipush (pc := 30) d_M_forme_30 rfl ?_
      refine wp_ireturn (pc := 32) d_M_forme_32 rfl ?_
      first
      | exact ⟨_, rfl, by unfold xFm; rw [if_pos (by omega), if_pos (by omega)]; exact h24.1, h24.2.up (fun a k z => by omega)⟩
      | exact ⟨_, rfl, by unfold xFm; rw [if_pos (by omega), if_neg (by omega)], mF.rf⟩
    · have c18 := zb_ne0 c18
      obtain ⟨f, rfl⟩ : ∃ f : Nat, x = (f : Int) := ⟨x.toNat, by omega⟩
      refine wp_aload_n (pc := 21) d_M_forme_21 rfl ?_
      refine wp_iload_n (pc := 22) d_M_forme_22 rfl ?_
      refine wp_iload_n (pc := 23) d_M_forme_23 rfl ?_
      refine wp_callV2i (pc := 24) d_M_forme_24 rfl rfl (zk_174 L) rfl rfl (c_M_formeNow (f := f) hy hi (by omega) c18.1 c18.2) (fun x24 M24 h24 => ?_)
      refine wp_goto (tgt := 32) (pc := 27) d_M_forme_27 rfl ?_
      refine wp_ireturn (pc := 32) d_M_forme_32 rfl ?_
      first
      | exact ⟨_, rfl, by unfold xFm; rw [if_pos (by omega), if_pos (by omega)]; exact h24.1, h24.2.up (fun a k z => by omega)⟩
      | exact ⟨_, rfl, by unfold xFm; rw [if_pos (by omega), if_neg (by omega)], mF.rf⟩
  · have c6 := zb_eq0 (Decidable.of_not_not c6)
    refine wp_bipush (pc := 9) d_M_forme_9 rfl ?_
    refine wp_ireturn (pc := 11) d_M_forme_11 rfl ?_
    exact ⟨_, rfl, by unfold xFm; rw [if_neg (by omega)], mF.rf⟩
theorem vSe_lt (ok : Nat → Bool) (n : Int) {N : Nat} (h0 : 0 < N) : ∀ t, t ≤ N → (vSe ok n t).2 < N := by
  intro t
  induction t with
  | zero => intro _; exact h0
  | succ t ih =>
    intro ht
    simp only [vSe]
    split
    · exact ht
    · exact ih (by omega)
theorem vFt_2 {Y : qYt} (hi : qYi Y) : vFt Y < 2 ^ Y.1.toNat := vSe_lt _ _ (Nat.pow_pos (by decide)) _ (Nat.le_refl _)
theorem c_M_formesNow (hy : mY M Y) (hi : qYi Y) (w0 : 0 ≤ w) (w5 : w ≤ 5) : Ci L 5 zm_M_formesNow [rV 174, iV w] M (fun v M' => v = vFs Y w ∧ mF mPz M M') := by
  show wp L _ zm_M_formesNow 0 [rV 174, iV w, uV] [] M _
  have h12 := hi.1
  have hp : 2 ^ Y.1.toNat ≤ 2 ^ 12 := Nat.pow_le_pow_right (by decide) (by omega)
  have hft := vFt_lt hi
  refine wp_aload_n (pc := 0) d_M_formesNow_0 rfl ?_
  refine wp_aload_n (pc := 1) d_M_formesNow_1 rfl ?_
  refine wp_callV0f (pc := 2) d_M_formesNow_2 rfl rfl (zk_174 L) rfl rfl (c_M_allSightings hy hi) ?_
  refine wp_callV1i (pc := 5) d_M_formesNow_5 rfl rfl (zk_174 L) rfl rfl (c_M_orders (S := vAll) hy hi (by omega) vAll_bit) (fun x5 M5 h5 => ?_)
  obtain ⟨b1, b2, b3⟩ := h5
  have hy1 : mY M5 Y := hy.keep b2 (by omega) (by omega)
  have e25 := b3.1.1
  have hlt := vS_lt Y vAll
  have hs6 := vPc_6 _ hlt
  refine wp_ist2 (pc := 8) d_M_formesNow_8 rfl ?_
  refine wp_iload_n (pc := 9) d_M_formesNow_9 rfl ?_
  rcases zsw5 0 w with c10 | c10 | c10 | c10 | c10 | c10
  · refine wp_tableO (tgt := 72) (pc := 10) d_M_formesNow_10 (by omega) rfl ?_
    refine wp_aload_n (pc := 72) d_M_formesNow_72 rfl ?_
    refine wp_callV0f (pc := 73) d_M_formesNow_73 rfl rfl (zk_174 L) rfl rfl (c_M_typesSeen hy1 hi) ?_
    refine wp_ireturn (pc := 76) d_M_formesNow_76 rfl ?_
    refine ⟨_, rfl, ?_, b2.up (fun a k z => by omega)⟩
    unfold vFs
    rw [if_neg (show ¬ w = 0 by omega)]
    rw [if_neg (show ¬ w = 1 by omega)]
    rw [if_neg (show ¬ w = 2 by omega)]
    rw [if_neg (show ¬ w = 3 by omega)]
    rw [if_neg (show ¬ w = 4 by omega)]
  · refine wp_tableI (tgt := 44) (off := 34) (pc := 10) d_M_formesNow_10 (by omega) (by omega) (by rw [c10]; rfl) rfl ?_
    refine wp_aload_n (pc := 44) d_M_formesNow_44 rfl ?_
    refine wp_getI (pc := 45) d_M_formesNow_45 rfl (by decide) (zk_174 L) ?_
    rw [e25]
    refine wp_callS1f (pc := 48) d_M_formesNow_48 rfl rfl rfl rfl rfl (c_M_many (by omega)) ?_
    refine wp_ireturn (pc := 51) d_M_formesNow_51 rfl ?_
    refine ⟨_, rfl, ?_, b2.up (fun a k z => by omega)⟩
    unfold vFs
    rw [if_pos (show w = 0 by omega)]
    omega
  · refine wp_tableI (tgt := 52) (off := 42) (pc := 10) d_M_formesNow_10 (by omega) (by omega) (by rw [c10]; rfl) rfl ?_
    refine wp_iload_n (pc := 52) d_M_formesNow_52 rfl ?_
    refine wp_ireturn (pc := 53) d_M_formesNow_53 rfl ?_
    refine ⟨_, rfl, ?_, b2.up (fun a k z => by omega)⟩
    unfold vFs
    rw [if_neg (show ¬ w = 0 by omega)]
    rw [if_pos (show w = 1 by omega)]
    exact b1
  · refine wp_tableI (tgt := 54) (off := 44) (pc := 10) d_M_formesNow_10 (by omega) (by omega) (by rw [c10]; rfl) rfl ?_
    refine wp_aload_n (pc := 54) d_M_formesNow_54 rfl ?_
    refine wp_callV0i (pc := 55) d_M_formesNow_55 rfl rfl (zk_174 L) rfl rfl (c_M_faultNow hy1 hi) (fun x55 M55 h55 => ?_)
    obtain ⟨d1, d2, d3⟩ := h55
    rw [d1]
    refine wp_callS1f (pc := 58) d_M_formesNow_58 rfl rfl rfl rfl rfl (c_M_many (by omega)) ?_
    refine wp_ireturn (pc := 61) d_M_formesNow_61 rfl ?_
    refine ⟨_, rfl, ?_, (b2.up (fun a k z => by omega)).tr (d2.up (fun a k z => by omega))⟩
    unfold vFs
    rw [if_neg (show ¬ w = 0 by omega)]
    rw [if_neg (show ¬ w = 1 by omega)]
    rw [if_pos (show w = 2 by omega)]
    exact vPc_12 (vFt_2 hi) (by omega)
  · refine wp_tableI (tgt := 62) (off := 52) (pc := 10) d_M_formesNow_10 (by omega) (by omega) (by rw [c10]; rfl) rfl ?_
    refine wp_aload_n (pc := 62) d_M_formesNow_62 rfl ?_
    refine wp_callV0i (pc := 63) d_M_formesNow_63 rfl rfl (zk_174 L) rfl rfl (c_M_faultNow hy1 hi) (fun x63 M63 h63 => ?_)
    obtain ⟨d1, d2, d3⟩ := h63
    refine wp_ireturn (pc := 66) d_M_formesNow_66 rfl ?_
    refine ⟨_, rfl, ?_, (b2.up (fun a k z => by omega)).tr (d2.up (fun a k z => by omega))⟩
    unfold vFs
    rw [if_neg (show ¬ w = 0 by omega)]
    rw [if_neg (show ¬ w = 1 by omega)]
    rw [if_neg (show ¬ w = 2 by omega)]
    rw [if_pos (show w = 3 by omega)]
    exact d1
  · refine wp_tableI (tgt := 67) (off := 57) (pc := 10) d_M_formesNow_10 (by omega) (by omega) (by rw [c10]; rfl) rfl ?_
    refine wp_aload_n (pc := 67) d_M_formesNow_67 rfl ?_
    refine wp_callV0i (pc := 68) d_M_formesNow_68 rfl rfl (zk_174 L) rfl rfl (c_M_pressesNow hy1 hi) (fun x68 M68 h68 => ?_)
    refine wp_ireturn (pc := 71) d_M_formesNow_71 rfl ?_
    refine ⟨_, rfl, ?_, (b2.up (fun a k z => by omega)).tr h68.2⟩
    unfold vFs
    rw [if_neg (show ¬ w = 0 by omega)]
    rw [if_neg (show ¬ w = 1 by omega)]
    rw [if_neg (show ¬ w = 2 by omega)]
    rw [if_neg (show ¬ w = 3 by omega)]
    rw [if_pos (show w = 4 by omega)]
    exact h68.1
theorem c_M_formes (hy : mY M Y) (hi : qYi Y) : Ci L 6 zm_M_formes [rV 174, iV w] M (fun v M' => v = xFs Y w ∧ mF mPq M M') := by
  show wp L _ zm_M_formes 0 [rV 174, iV w] [] M _
  refine wp_iload_n (pc := 0) d_M_formes_0 rfl ?_
  refine wp_iconst (pc := 1) d_M_formes_1 rfl ?_
  refine wp_iconst (pc := 2) d_M_formes_2 rfl ?_
  refine wp_callS3f (pc := 3) d_M_formes_3 rfl rfl rfl rfl rfl c_M_within ?_
  refine wp_if_eq (tgt := 17) (pc := 6) d_M_formes_6 rfl (fun c6 => ?_) (fun c6 => ?_)
  · have c6 := zb_eq0 c6
    refine wp_bipush (pc := 17) d_M_formes_17 rfl ?_
    refine wp_ireturn (pc := 19) d_M_formes_19 rfl ?_
    first
    | exact ⟨_, rfl, by unfold xFs; rw [if_pos (by omega)]; exact h11.1, h11.2.up (fun a k z => by omega)⟩
    | exact ⟨_, rfl, by unfold xFs; rw [if_neg (by omega)], mF.rf⟩
  · have c6 := zb_ne0 c6
    refine wp_aload_n (pc := 9) d_M_formes_9 rfl ?_
    refine wp_iload_n (pc := 10) d_M_formes_10 rfl ?_
    refine wp_callV1i (pc := 11) d_M_formes_11 rfl rfl (zk_174 L) rfl rfl (c_M_formesNow hy hi c6.1 c6.2) (fun x11 M11 h11 => ?_)
    refine wp_goto (tgt := 19) (pc := 14) d_M_formes_14 rfl ?_
    refine wp_ireturn (pc := 19) d_M_formes_19 rfl ?_
    first
    | exact ⟨_, rfl, by unfold xFs; rw [if_pos (by omega)]; exact h11.1, h11.2.up (fun a k z => by omega)⟩
    | exact ⟨_, rfl, by unfold xFs; rw [if_neg (by omega)], mF.rf⟩
end ZM15
section ZM16
variable {L : Nat} {M : zM} {D : qDt} {Y : qYt} {g : qPt} {x y z w c p s i j : Int}
theorem c_M_howMany (h : mH M D) (hy : mY M Y) (hg : mG M g) : Cf L 0 zm_M_howMany [rV 174, iV w] M (iV (xCt D Y g (M 174 6) (M 174 12) w)) M := by
  show wp L _ zm_M_howMany 0 [rV 174, iV w] [] M _
  refine wp_iload_n (pc := 0) d_M_howMany_0 rfl ?_
  rcases zsw6 0 w with c1 | c1 | c1 | c1 | c1 | c1 | c1
  · refine wp_tableO (tgt := 70) (pc := 1) d_M_howMany_1 (by omega) rfl ?_
    refine wp_bipush (pc := 70) d_M_howMany_70 rfl ?_
    refine wp_ireturn (pc := 72) d_M_howMany_72 rfl ?_
    refine ⟨?_, rfl⟩
    unfold xCt
    rw [if_neg (show ¬ w = 0 by omega)]
    rw [if_neg (show ¬ w = 1 by omega)]
    rw [if_neg (show ¬ w = 2 by omega)]
    rw [if_neg (show ¬ w = 3 by omega)]
    rw [if_neg (show ¬ w = 4 by omega)]
    rw [if_neg (show ¬ w = 5 by omega)]
  · refine wp_tableI (tgt := 40) (off := 39) (pc := 1) d_M_howMany_1 (by omega) (by omega) (by rw [c1]; rfl) rfl ?_
    refine wp_aload_n (pc := 40) d_M_howMany_40 rfl ?_
    refine wp_getI (pc := 41) d_M_howMany_41 rfl (by decide) (zk_174 L) ?_
    rw [h.1]
    refine wp_ireturn (pc := 44) d_M_howMany_44 rfl ?_
    refine ⟨?_, rfl⟩
    unfold xCt
    rw [if_pos (show w = 0 by omega)]
  · refine wp_tableI (tgt := 45) (off := 44) (pc := 1) d_M_howMany_1 (by omega) (by omega) (by rw [c1]; rfl) rfl ?_
    refine wp_aload_n (pc := 45) d_M_howMany_45 rfl ?_
    refine wp_getI (pc := 46) d_M_howMany_46 rfl (by decide) (zk_174 L) ?_
    rw [hy.1]
    refine wp_ireturn (pc := 49) d_M_howMany_49 rfl ?_
    refine ⟨?_, rfl⟩
    unfold xCt
    rw [if_neg (show ¬ w = 0 by omega)]
    rw [if_pos (show w = 1 by omega)]
  · refine wp_tableI (tgt := 50) (off := 49) (pc := 1) d_M_howMany_1 (by omega) (by omega) (by rw [c1]; rfl) rfl ?_
    refine wp_aload_n (pc := 50) d_M_howMany_50 rfl ?_
    refine wp_getI (pc := 51) d_M_howMany_51 rfl (by decide) (zk_174 L) ?_
    rw [hg.1]
    refine wp_ireturn (pc := 54) d_M_howMany_54 rfl ?_
    refine ⟨?_, rfl⟩
    unfold xCt
    rw [if_neg (show ¬ w = 0 by omega)]
    rw [if_neg (show ¬ w = 1 by omega)]
    rw [if_pos (show w = 2 by omega)]
  · refine wp_tableI (tgt := 55) (off := 54) (pc := 1) d_M_howMany_1 (by omega) (by omega) (by rw [c1]; rfl) rfl ?_
    refine wp_aload_n (pc := 55) d_M_howMany_55 rfl ?_
    refine wp_getI (pc := 56) d_M_howMany_56 rfl (by decide) (zk_174 L) ?_
    rw [h.2.1]
    refine wp_ireturn (pc := 59) d_M_howMany_59 rfl ?_
    refine ⟨?_, rfl⟩
    unfold xCt
    rw [if_neg (show ¬ w = 0 by omega)]
    rw [if_neg (show ¬ w = 1 by omega)]
    rw [if_neg (show ¬ w = 2 by omega)]
    rw [if_pos (show w = 3 by omega)]
  · refine wp_tableI (tgt := 60) (off := 59) (pc := 1) d_M_howMany_1 (by omega) (by omega) (by rw [c1]; rfl) rfl ?_
    refine wp_aload_n (pc := 60) d_M_howMany_60 rfl ?_
    refine wp_getI (pc := 61) d_M_howMany_61 rfl (by decide) (zk_174 L) ?_
    refine wp_ireturn (pc := 64) d_M_howMany_64 rfl ?_
    refine ⟨?_, rfl⟩
    unfold xCt
    rw [if_neg (show ¬ w = 0 by omega)]
    rw [if_neg (show ¬ w = 1 by omega)]
    rw [if_neg (show ¬ w = 2 by omega)]
    rw [if_neg (show ¬ w = 3 by omega)]
    rw [if_pos (show w = 4 by omega)]
  · refine wp_tableI (tgt := 65) (off := 64) (pc := 1) d_M_howMany_1 (by omega) (by omega) (by rw [c1]; rfl) rfl ?_
    refine wp_aload_n (pc := 65) d_M_howMany_65 rfl ?_
    refine wp_getI (pc := 66) d_M_howMany_66 rfl (by decide) (zk_174 L) ?_
    refine wp_ireturn (pc := 69) d_M_howMany_69 rfl ?_
    refine ⟨?_, rfl⟩
    unfold xCt
    rw [if_neg (show ¬ w = 0 by omega)]
    rw [if_neg (show ¬ w = 1 by omega)]
    rw [if_neg (show ¬ w = 2 by omega)]
    rw [if_neg (show ¬ w = 3 by omega)]
    rw [if_neg (show ¬ w = 4 by omega)]
    rw [if_pos (show w = 5 by omega)]
theorem c_M_count (h : mH M D) (hy : mY M Y) (hg : mG M g) : Cf L 1 zm_M_count [rV 174, iV w] M (iV (xCt D Y g (M 174 6) (M 174 12) w)) M := by
  show wp L _ zm_M_count 0 [rV 174, iV w] [] M _
  refine wp_aload_n (pc := 0) d_M_count_0 rfl ?_
  refine wp_iload_n (pc := 1) d_M_count_1 rfl ?_
  refine wp_callV1f (pc := 2) d_M_count_2 rfl rfl (zk_174 L) rfl rfl (c_M_howMany h hy hg) ?_
  refine wp_ireturn (pc := 5) d_M_count_5 rfl ?_
  exact ⟨rfl, rfl⟩
end ZM16
