/-! the model's alignments, on: what they tell; readings -/
abbrev mPq (a k : Nat) : Prop := (182 ≤ a ∧ a < 194) ∨ a = 174 ∧ (k = 14 ∨ k = 16 ∨ k = 17 ∨ k = 20 ∨ k = 25 ∨ k = 28 ∨ k = 31 ∨ k = 1031)
/-- ways that meet -/
theorem zcut {L d pc : Nat} {m : zD} {ls st : List zV} {M : zM} {Q : Option zV → zM → Prop} {pc' : Nat} {α : Type} (P : α → Prop) (ls' st' : α → List zV) (M' : α → zM) (h1 : ∀ v, P v → wp L d m pc' (ls' v) (st' v) (M' v) Q) (h2 : (∀ v, P v → wp L d m pc' (ls' v) (st' v) (M' v) Q) → wp L d m pc ls st M Q) : wp L d m pc ls st M Q := h2 h1
theorem zKp_c (x y : Int) : (zKp x y = 2 ∧ zKc (zKp x y) = 0) ∨ (zKp x y = 3 ∧ zKc (zKp x y) = 1) ∨ (zKp x y = 4 ∧ zKc (zKp x y) = 3) := by
  rcases zKp_in x y with h | h | h
  · left; rw [h]; decide
  · right; left; rw [h]; decide
  · right; right; rw [h]; decide
section ZM4
variable {L : Nat} {M : zM} {D : qDt} {Y : qYt} {g : qPt} {x y z w c p s i j : Int}
theorem lp_M_stepsOf (h : mH M D) (hd : mDi D) (x0 : 0 ≤ x) (x1 : x < D.2.2.2) (y0 : 0 ≤ y) (y1 : y < D.2.2.2) (hc : mCl M D x y) (he : uIn D x y) : ∀ (n9 : Nat) (k : Nat) (i : Int) (j : Int) (v : Int) (u6 : zV) (u7 : zV), (uK D x y : Int) - k < n9 → (k ≤ uK D x y) → (i = (qPs (D.1 x) (D.1 y) (D.2.1 x) (D.2.1 y) D.2.2.1 k).1) → (j = (qPs (D.1 x) (D.1 y) (D.2.1 x) (D.2.1 y) D.2.2.1 k).2) → (v = qCt (D.1 x) (D.1 y) (D.2.1 x) (D.2.1 y) D.2.2.1 w k) → wp L 2 zm_M_stepsOf 10 [rV 174, iV w, iV i, iV j, iV v, iV k, u6, u7] [] M (fun r M' => r = some (iV (qCt (D.1 x) (D.1 y) (D.2.1 x) (D.2.1 y) D.2.2.1 w (uK D x y))) ∧ M' = M) := by
  intro n9
  induction n9 with
  | zero =>
    intro k  i  j  v  u6  u7  h9 g0 g1 g2 g3
    have hd1 := hd.1
    have hd2 := hd.2.1
    have lx := hd.l x0 x1
    have ly := hd.l y0 y1
    have e16 := hc.1
    have e17 := hc.2.1
    obtain ⟨e14, hen, hK, hst⟩ := hc.2.2.2.1 he
    exact absurd h9 (by omega)
  | succ n9 ih =>
    intro k  i  j  v  u6  u7  h9 g0 g1 g2 g3
    have hd1 := hd.1
    have hd2 := hd.2.1
    have lx := hd.l x0 x1
    have ly := hd.l y0 y1
    have e16 := hc.1
    have e17 := hc.2.1
    obtain ⟨e14, hen, hK, hst⟩ := hc.2.2.2.1 he
    have hv := qCt_nn (f := D.1 x) (g := D.1 y) (n1 := D.2.1 x) (n2 := D.2.1 y) (b := D.2.2.1) w k
    refine wp_iload (pc := 10) d_M_stepsOf_10 rfl ?_
    refine wp_aload_n (pc := 12) d_M_stepsOf_12 rfl ?_
    refine wp_getI (pc := 13) d_M_stepsOf_13 rfl (by decide) (zk_174 L) ?_
    refine wp_icmp_ge (tgt := 169) (pc := 16) d_M_stepsOf_16 rfl (fun c16 => ?_) (fun c16 => ?_)
    · refine wp_iload (pc := 169) d_M_stepsOf_169 rfl ?_
      refine wp_ireturn (pc := 171) d_M_stepsOf_171 rfl ?_
      refine ⟨?_, rfl⟩
      rw [g3, show k = uK D x y by omega]
    · have hps := qPs_ok (f := D.1 x) (g := D.1 y) he lx.2 ly.2 (by omega) (by omega) hd2.1 k (fun t ht => hen.2 t (by omega))
      rw [← g1, ← g2] at hps
      have hne := hen.2 k (by omega)
      rw [← g1, ← g2] at hne
      have hdk := qDc_ok (f := D.1 x) (g := D.1 y) he lx.2 ly.2 hps.1 hps.2.2.1 hps.2.1 hps.2.2.2.1 hps.2.2.2.2.1 hps.2.2.2.2.2.1 hne
      have est : qSt (D.1 x) (D.1 y) (D.2.1 x) (D.2.1 y) D.2.2.1 k = qDc (D.1 x) (D.1 y) (D.2.1 x) (D.2.1 y) D.2.2.1 i j := by unfold qSt; rw [← g1, ← g2]
      rw [← est] at hdk
      have hpn := qPs_st (D.1 x) (D.1 y) (D.2.1 x) (D.2.1 y) D.2.2.1 k
      rw [← g1, ← g2] at hpn
      have es : M 183 ((k : Int)).toNat = qSt (D.1 x) (D.1 y) (D.2.1 x) (D.2.1 y) D.2.2.1 k := by rw [show ((k : Int)).toNat = k by omega]; exact hst k (by omega)
      have hkd : qKd (D.1 x) (D.1 y) (D.2.1 x) (D.2.1 y) D.2.2.1 k = if qSt (D.1 x) (D.1 y) (D.2.1 x) (D.2.1 y) D.2.2.1 k = 0 then zKp (D.1 x i) (D.1 y j) else if qSt (D.1 x) (D.1 y) (D.2.1 x) (D.2.1 y) D.2.2.1 k = 1 then 5 else 6 := by unfold qKd; rw [← g1, ← g2]
      have hkc := zKp_c (D.1 x i) (D.1 y j)
      refine zcut (pc' := 54) (fun (v54 : Int) => (qSt (D.1 x) (D.1 y) (D.2.1 x) (D.2.1 y) D.2.2.1 k = 0 → v54 = zKc (zKp (D.1 x i) (D.1 y j))) ∧ (¬ qSt (D.1 x) (D.1 y) (D.2.1 x) (D.2.1 y) D.2.2.1 k = 0 → v54 = -1)) (fun (v54 : Int) => [rV 174, iV w, iV i, iV j, iV v, iV (k : Int), u6, u7]) (fun (v54 : Int) => [iV v54]) (fun (v54 : Int) => M) ?_ (fun K54 => ?_)
      · intro v54 h54
        show wp L _ zm_M_stepsOf 54 [rV 174, iV w, iV i, iV j, iV v, iV (k : Int), u6, u7] [iV v54] (M) _
        refine wp_ist6 (pc := 54) d_M_stepsOf_54 rfl ?_
        refine zcut (pc' := 107) (fun (v107 : Int) => v107 = qKd (D.1 x) (D.1 y) (D.2.1 x) (D.2.1 y) D.2.2.1 k) (fun (v107 : Int) => [rV 174, iV w, iV i, iV j, iV v, iV (k : Int), iV v54, u7]) (fun (v107 : Int) => [iV v107]) (fun (v107 : Int) => M) ?_ (fun K107 => ?_)
        · intro v107 h107
          show wp L _ zm_M_stepsOf 107 [rV 174, iV w, iV i, iV j, iV v, iV (k : Int), iV v54, u7] [iV v107] (M) _
          refine wp_ist7 (pc := 107) d_M_stepsOf_107 rfl ?_
          refine zcut (pc' := 122) (fun (v122 : Int) => v122 = if qKd (D.1 x) (D.1 y) (D.2.1 x) (D.2.1 y) D.2.2.1 k = w then 1 else 0) (fun (v122 : Int) => [rV 174, iV w, iV i, iV j, iV v, iV (k : Int), iV v54, iV v107]) (fun (v122 : Int) => [iV v122, iV v]) (fun (v122 : Int) => M) ?_ (fun K122 => ?_)
          · intro v122 h122
            show wp L _ zm_M_stepsOf 122 [rV 174, iV w, iV i, iV j, iV v, iV (k : Int), iV v54, iV v107] [iV v122, iV v] (M) _
            have hv2 : v122 = 0 ∨ v122 = 1 := by rw [h122]; split <;> omega
            refine wp_iadd (pc := 122) d_M_stepsOf_122 (by omega) (by omega) ?_
            refine wp_ist4 (pc := 123) d_M_stepsOf_123 rfl ?_
            refine zcut (pc' := 142) (fun (v142 : Int) => v142 = if qSt (D.1 x) (D.1 y) (D.2.1 x) (D.2.1 y) D.2.2.1 k = 2 then 0 else 1) (fun (v142 : Int) => [rV 174, iV w, iV i, iV j, iV (v + v122), iV (k : Int), iV v54, iV v107]) (fun (v142 : Int) => [iV v142, iV i]) (fun (v142 : Int) => M) ?_ (fun K142 => ?_)
            · intro v142 h142
              show wp L _ zm_M_stepsOf 142 [rV 174, iV w, iV i, iV j, iV (v + v122), iV (k : Int), iV v54, iV v107] [iV v142, iV i] (M) _
              have hv3 : v142 = 0 ∨ v142 = 1 := by rw [h142]; split <;> omega
              refine wp_iadd (pc := 142) d_M_stepsOf_142 (by omega) (by omega) ?_
              refine wp_ist2 (pc := 143) d_M_stepsOf_143 rfl ?_
              refine zcut (pc' := 161) (fun (v161 : Int) => v161 = if qSt (D.1 x) (D.1 y) (D.2.1 x) (D.2.1 y) D.2.2.1 k = 1 then 0 else 1) (fun (v161 : Int) => [rV 174, iV w, iV (i + v142), iV j, iV (v + v122), iV (k : Int), iV v54, iV v107]) (fun (v161 : Int) => [iV v161, iV j]) (fun (v161 : Int) => M) ?_ (fun K161 => ?_)
              · intro v161 h161
                show wp L _ zm_M_stepsOf 161 [rV 174, iV w, iV (i + v142), iV j, iV (v + v122), iV (k : Int), iV v54, iV v107] [iV v161, iV j] (M) _
                have hv4 : v161 = 0 ∨ v161 = 1 := by rw [h161]; split <;> omega
                refine wp_iadd (pc := 161) d_M_stepsOf_161 (by omega) (by omega) ?_
                refine wp_ist3 (pc := 162) d_M_stepsOf_162 rfl ?_
                refine wp_iinc5 (pc := 163) d_M_stepsOf_163 rfl (by omega) (by omega) ?_
                refine wp_goto (tgt := 10) (pc := 166) d_M_stepsOf_166 rfl ?_
                refine ih (k + 1) _ _ _ _ _ (by omega) (by omega) ?_ ?_ ?_
                · rw [hpn.1, h142]
                · rw [hpn.2, h161]
                · rw [g3, h122]; rfl
              · refine wp_iload_n (pc := 144) d_M_stepsOf_144 rfl ?_
                refine wp_aload_n (pc := 145) d_M_stepsOf_145 rfl ?_
                refine wp_getR (pc := 146) d_M_stepsOf_146 rfl (zk_174 L) zx_174_15 ?_
                refine wp_iload (pc := 149) d_M_stepsOf_149 rfl ?_
                refine wp_iald (pc := 151) d_M_stepsOf_151 (zk_183 L) (by omega) (by omega) ?_
                rw [es]
                refine wp_iconst (pc := 152) d_M_stepsOf_152 rfl ?_
                refine wp_icmp_ne (tgt := 160) (pc := 153) d_M_stepsOf_153 rfl (fun c153 => ?_) (fun c153 => ?_)
                · refine wp_iconst (pc := 160) d_M_stepsOf_160 rfl ?_
                  exact K161 _ (by first | rw [if_pos (by omega)] | rw [if_neg (by omega)])
                · refine wp_iconst (pc := 156) d_M_stepsOf_156 rfl ?_
                  refine wp_goto (tgt := 161) (pc := 157) d_M_stepsOf_157 rfl ?_
                  exact K161 _ (by first | rw [if_pos (by omega)] | rw [if_neg (by omega)])
            · refine wp_iload_n (pc := 125) d_M_stepsOf_125 rfl ?_
              refine wp_aload_n (pc := 126) d_M_stepsOf_126 rfl ?_
              refine wp_getR (pc := 127) d_M_stepsOf_127 rfl (zk_174 L) zx_174_15 ?_
              refine wp_iload (pc := 130) d_M_stepsOf_130 rfl ?_
              refine wp_iald (pc := 132) d_M_stepsOf_132 (zk_183 L) (by omega) (by omega) ?_
              rw [es]
              refine wp_iconst (pc := 133) d_M_stepsOf_133 rfl ?_
              refine wp_icmp_ne (tgt := 141) (pc := 134) d_M_stepsOf_134 rfl (fun c134 => ?_) (fun c134 => ?_)
              · refine wp_iconst (pc := 141) d_M_stepsOf_141 rfl ?_
                exact K142 _ (by first | rw [if_pos (by omega)] | rw [if_neg (by omega)])
              · refine wp_iconst (pc := 137) d_M_stepsOf_137 rfl ?_
                refine wp_goto (tgt := 142) (pc := 138) d_M_stepsOf_138 rfl ?_
                exact K142 _ (by first | rw [if_pos (by omega)] | rw [if_neg (by omega)])
          · refine wp_iload (pc := 109) d_M_stepsOf_109 rfl ?_
            refine wp_iload (pc := 111) d_M_stepsOf_111 rfl ?_
            refine wp_iload_n (pc := 113) d_M_stepsOf_113 rfl ?_
            refine wp_icmp_ne (tgt := 121) (pc := 114) d_M_stepsOf_114 rfl (fun c114 => ?_) (fun c114 => ?_)
            · refine wp_iconst (pc := 121) d_M_stepsOf_121 rfl ?_
              exact K122 _ (by first | rw [if_pos (by omega)] | rw [if_neg (by omega)])
            · refine wp_iconst (pc := 117) d_M_stepsOf_117 rfl ?_
              refine wp_goto (tgt := 122) (pc := 118) d_M_stepsOf_118 rfl ?_
              exact K122 _ (by first | rw [if_pos (by omega)] | rw [if_neg (by omega)])
        · refine wp_aload_n (pc := 56) d_M_stepsOf_56 rfl ?_
          refine wp_getR (pc := 57) d_M_stepsOf_57 rfl (zk_174 L) zx_174_15 ?_
          refine wp_iload (pc := 60) d_M_stepsOf_60 rfl ?_
          refine wp_iald (pc := 62) d_M_stepsOf_62 (zk_183 L) (by omega) (by omega) ?_
          rw [es]
          refine wp_iconst (pc := 63) d_M_stepsOf_63 rfl ?_
          refine wp_icmp_ne (tgt := 71) (pc := 64) d_M_stepsOf_64 rfl (fun c64 => ?_) (fun c64 => ?_)
          · refine wp_aload_n (pc := 71) d_M_stepsOf_71 rfl ?_
            refine wp_getR (pc := 72) d_M_stepsOf_72 rfl (zk_174 L) zx_174_15 ?_
            refine wp_iload (pc := 75) d_M_stepsOf_75 rfl ?_
            refine wp_iald (pc := 77) d_M_stepsOf_77 (zk_183 L) (by omega) (by omega) ?_
            rw [es]
            refine wp_iconst (pc := 78) d_M_stepsOf_78 rfl ?_
            refine wp_icmp_ne (tgt := 87) (pc := 79) d_M_stepsOf_79 rfl (fun c79 => ?_) (fun c79 => ?_)
            · refine wp_iload (pc := 87) d_M_stepsOf_87 rfl ?_
              refine wp_if_ne (tgt := 96) (pc := 89) d_M_stepsOf_89 rfl (fun c89 => ?_) (fun c89 => ?_)
              · refine wp_iload (pc := 96) d_M_stepsOf_96 rfl ?_
                refine wp_iconst (pc := 98) d_M_stepsOf_98 rfl ?_
                refine wp_icmp_ne (tgt := 106) (pc := 99) d_M_stepsOf_99 rfl (fun c99 => ?_) (fun c99 => ?_)
                · refine wp_iconst (pc := 106) d_M_stepsOf_106 rfl ?_
                  refine K107 _ ?_
                  rw [hkd]
                  first
                  | rw [if_neg (by omega), if_pos (by omega)]
                  | rw [if_neg (by omega), if_neg (by omega)]
                  | (rw [if_pos (by omega)]; omega)
                · refine wp_iconst (pc := 102) d_M_stepsOf_102 rfl ?_
                  refine wp_goto (tgt := 107) (pc := 103) d_M_stepsOf_103 rfl ?_
                  refine K107 _ ?_
                  rw [hkd]
                  first
                  | rw [if_neg (by omega), if_pos (by omega)]
                  | rw [if_neg (by omega), if_neg (by omega)]
                  | (rw [if_pos (by omega)]; omega)
              · refine wp_iconst (pc := 92) d_M_stepsOf_92 rfl ?_
                refine wp_goto (tgt := 107) (pc := 93) d_M_stepsOf_93 rfl ?_
                refine K107 _ ?_
                rw [hkd]
                first
                | rw [if_neg (by omega), if_pos (by omega)]
                | rw [if_neg (by omega), if_neg (by omega)]
                | (rw [if_pos (by omega)]; omega)
            · refine wp_bipush (pc := 82) d_M_stepsOf_82 rfl ?_
              refine wp_goto (tgt := 107) (pc := 84) d_M_stepsOf_84 rfl ?_
              refine K107 _ ?_
              rw [hkd]
              first
              | rw [if_neg (by omega), if_pos (by omega)]
              | rw [if_neg (by omega), if_neg (by omega)]
              | (rw [if_pos (by omega)]; omega)
          · refine wp_iconst (pc := 67) d_M_stepsOf_67 rfl ?_
            refine wp_goto (tgt := 107) (pc := 68) d_M_stepsOf_68 rfl ?_
            refine K107 _ ?_
            rw [hkd]
            first
            | rw [if_neg (by omega), if_pos (by omega)]
            | rw [if_neg (by omega), if_neg (by omega)]
            | (rw [if_pos (by omega)]; omega)
      · refine wp_aload_n (pc := 19) d_M_stepsOf_19 rfl ?_
        refine wp_getR (pc := 20) d_M_stepsOf_20 rfl (zk_174 L) zx_174_15 ?_
        refine wp_iload (pc := 23) d_M_stepsOf_23 rfl ?_
        refine wp_iald (pc := 25) d_M_stepsOf_25 (zk_183 L) (by omega) (by omega) ?_
        rw [es]
        refine wp_if_ne (tgt := 53) (pc := 26) d_M_stepsOf_26 rfl (fun c26 => ?_) (fun c26 => ?_)
        · refine wp_iconst (pc := 53) d_M_stepsOf_53 rfl ?_
          first
          | exact K54 _ ⟨fun _ => rfl, fun z => absurd z (by omega)⟩
          | exact K54 _ ⟨fun z => absurd z (by omega), fun _ => rfl⟩
        · refine wp_aload_n (pc := 29) d_M_stepsOf_29 rfl ?_
          refine wp_aload_n (pc := 30) d_M_stepsOf_30 rfl ?_
          refine wp_getI (pc := 31) d_M_stepsOf_31 rfl (by decide) (zk_174 L) ?_
          rw [e16]
          refine wp_iload_n (pc := 34) d_M_stepsOf_34 rfl ?_
          refine wp_callV2f (pc := 35) d_M_stepsOf_35 rfl rfl (zk_174 L) rfl rfl (c_M_letterAt h hd x0 x1 (by omega) (by omega)) ?_
          refine wp_aload_n (pc := 38) d_M_stepsOf_38 rfl ?_
          refine wp_aload_n (pc := 39) d_M_stepsOf_39 rfl ?_
          refine wp_getI (pc := 40) d_M_stepsOf_40 rfl (by decide) (zk_174 L) ?_
          rw [e17]
          refine wp_iload_n (pc := 43) d_M_stepsOf_43 rfl ?_
          refine wp_callV2f (pc := 44) d_M_stepsOf_44 rfl rfl (zk_174 L) rfl rfl (c_M_letterAt h hd y0 y1 (by omega) (by omega)) ?_
          refine wp_callS2f (pc := 47) d_M_stepsOf_47 rfl rfl rfl rfl rfl (c_M_pairCost ((hd.2.2 x x0 x1).2 i (by omega) (by omega)) ((hd.2.2 y y0 y1).2 j (by omega) (by omega))) ?_
          refine wp_goto (tgt := 54) (pc := 50) d_M_stepsOf_50 rfl ?_
          first
          | exact K54 _ ⟨fun _ => rfl, fun z => absurd z (by omega)⟩
          | exact K54 _ ⟨fun z => absurd z (by omega), fun _ => rfl⟩
theorem c_M_stepsOf (h : mH M D) (hd : mDi D) (x0 : 0 ≤ x) (x1 : x < D.2.2.2) (y0 : 0 ≤ y) (y1 : y < D.2.2.2) (hc : mCl M D x y) (he : uIn D x y) : Cf L 2 zm_M_stepsOf [rV 174, iV w] M (iV (qCt (D.1 x) (D.1 y) (D.2.1 x) (D.2.1 y) D.2.2.1 w (uK D x y))) M := by
  show wp L _ zm_M_stepsOf 0 [rV 174, iV w, uV, uV, uV, uV, uV, uV] [] M _
  have hd1 := hd.1
  have hd2 := hd.2.1
  have lx := hd.l x0 x1
  have ly := hd.l y0 y1
  have e16 := hc.1
  have e17 := hc.2.1
  obtain ⟨e14, hen, hK, hst⟩ := hc.2.2.2.1 he
  refine wp_iconst (pc := 0) d_M_stepsOf_0 rfl ?_
  refine wp_ist2 (pc := 1) d_M_stepsOf_1 rfl ?_
  refine wp_iconst (pc := 2) d_M_stepsOf_2 rfl ?_
  refine wp_ist3 (pc := 3) d_M_stepsOf_3 rfl ?_
  refine wp_iconst (pc := 4) d_M_stepsOf_4 rfl ?_
  refine wp_ist4 (pc := 5) d_M_stepsOf_5 rfl ?_
  refine wp_iconst (pc := 7) d_M_stepsOf_7 rfl ?_
  refine wp_ist5 (pc := 8) d_M_stepsOf_8 rfl ?_
  exact lp_M_stepsOf h hd x0 x1 y0 y1 hc he 100 0 0 0 0 uV uV (by omega) (by omega) rfl rfl rfl
theorem c_M_collateNow (h : mH M D) (hd : mDi D) (x0 : 0 ≤ x) (x1 : x < D.2.2.2) (y0 : 0 ≤ y) (y1 : y < D.2.2.2) : Ci L 5 zm_M_collateNow [rV 174, iV x, iV y, iV w] M (fun z M' => z = uTa D x y w ∧ mF mPc1 M M' ∧ mCl M' D x y) := by
  show wp L _ zm_M_collateNow 0 [rV 174, iV x, iV y, iV w] [] M _
  refine wp_aload_n (pc := 0) d_M_collateNow_0 rfl ?_
  refine wp_iload_n (pc := 1) d_M_collateNow_1 rfl ?_
  refine wp_iload_n (pc := 2) d_M_collateNow_2 rfl ?_
  refine wp_callV2v (pc := 3) d_M_collateNow_3 rfl rfl (zk_174 L) rfl rfl (c_M_layCollation h hd x0 x1 y0 y1) (fun M3 h3 => ?_)
  obtain ⟨k1, hc⟩ := h3
  have h1 : mH M3 D := h.keep k1 (by omega) (by omega) (by omega)
  have lx := hd.l x0 x1
  have ly := hd.l y0 y1
  have hd2 := hd.2.1
  have hin := mVl_in (f := D.1 x) (g := D.1 y) (n1 := D.2.1 x) (n2 := D.2.1 y) (b := D.2.2.1) lx.2 ly.2 (by omega) (by omega) hd2.1
  have hsm := mVl_sm (f := D.1 x) (g := D.1 y) (n1 := D.2.1 x) (n2 := D.2.1 y) (b := D.2.2.1) lx.2 ly.2 (Int.le_refl 0) (Int.le_refl 0)
  have e0 := hc.2.2.1
  refine wp_aload_n (pc := 6) d_M_collateNow_6 rfl ?_
  refine wp_callV0f (pc := 7) d_M_collateNow_7 rfl rfl (zk_174 L) rfl rfl c_M_isCollated ?_
  rw [e0]
  refine wp_if_ne (tgt := 15) (pc := 10) d_M_collateNow_10 rfl (fun c10 => ?_) (fun c10 => ?_)
  · have c10 := zb_ne0 c10
    refine wp_iload_n (pc := 15) d_M_collateNow_15 rfl ?_
    refine wp_if_ne (tgt := 28) (pc := 16) d_M_collateNow_16 rfl (fun c16 => ?_) (fun c16 => ?_)
    · refine wp_iload_n (pc := 28) d_M_collateNow_28 rfl ?_
      refine wp_iconst (pc := 29) d_M_collateNow_29 rfl ?_
      refine wp_icmp_ne (tgt := 40) (pc := 30) d_M_collateNow_30 rfl (fun c30 => ?_) (fun c30 => ?_)
      · refine wp_aload_n (pc := 40) d_M_collateNow_40 rfl ?_
        refine wp_iload_n (pc := 41) d_M_collateNow_41 rfl ?_
        refine wp_callV1f (pc := 42) d_M_collateNow_42 rfl rfl (zk_174 L) rfl rfl (c_M_stepsOf h1 hd x0 x1 y0 y1 hc (hin.1 c10)) ?_
        refine wp_ireturn (pc := 45) d_M_collateNow_45 rfl ?_
        refine ⟨_, rfl, ?_, k1, hc⟩
        have hu := hin.1 c10
        unfold uTa
        rw [if_pos hu]
        first
        | (rw [if_pos (show w = 0 by omega), e0]; omega)
        | (rw [if_neg (show ¬ w = 0 by omega), if_pos (show w = 1 by omega)]; exact (hc.2.2.2.1 hu).1)
        | rw [if_neg (show ¬ w = 0 by omega), if_neg (show ¬ w = 1 by omega)]
      · refine wp_aload_n (pc := 33) d_M_collateNow_33 rfl ?_
        refine wp_getI (pc := 34) d_M_collateNow_34 rfl (by decide) (zk_174 L) ?_
        refine wp_goto (tgt := 45) (pc := 37) d_M_collateNow_37 rfl ?_
        refine wp_ireturn (pc := 45) d_M_collateNow_45 rfl ?_
        refine ⟨_, rfl, ?_, k1, hc⟩
        have hu := hin.1 c10
        unfold uTa
        rw [if_pos hu]
        first
        | (rw [if_pos (show w = 0 by omega), e0]; omega)
        | (rw [if_neg (show ¬ w = 0 by omega), if_pos (show w = 1 by omega)]; exact (hc.2.2.2.1 hu).1)
        | rw [if_neg (show ¬ w = 0 by omega), if_neg (show ¬ w = 1 by omega)]
    · refine wp_aload_n (pc := 19) d_M_collateNow_19 rfl ?_
      refine wp_getR (pc := 20) d_M_collateNow_20 rfl (zk_174 L) zx_174_13 ?_
      refine wp_iconst (pc := 23) d_M_collateNow_23 rfl ?_
      refine wp_ialdc 0 (pc := 24) d_M_collateNow_24 (zk_182 L) rfl rfl ?_
      refine wp_goto (tgt := 45) (pc := 25) d_M_collateNow_25 rfl ?_
      refine wp_ireturn (pc := 45) d_M_collateNow_45 rfl ?_
      refine ⟨_, rfl, ?_, k1, hc⟩
      have hu := hin.1 c10
      unfold uTa
      rw [if_pos hu]
      first
      | (rw [if_pos (show w = 0 by omega), e0]; omega)
      | (rw [if_neg (show ¬ w = 0 by omega), if_pos (show w = 1 by omega)]; exact (hc.2.2.2.1 hu).1)
      | rw [if_neg (show ¬ w = 0 by omega), if_neg (show ¬ w = 1 by omega)]
  · have c10 := zb_eq0 (Decidable.of_not_not c10)
    refine wp_iconst (pc := 13) d_M_collateNow_13 rfl ?_
    refine wp_ireturn (pc := 14) d_M_collateNow_14 rfl ?_
    exact ⟨_, rfl, by unfold uTa; rw [if_neg (fun z => c10 (hin.2 z))], k1, hc⟩
theorem c_M_collate (h : mH M D) (hd : mDi D) : Ci L 6 zm_M_collate [rV 174, iV x, iV y, iV w] M (fun z M' => z = xCo D x y w ∧ mF mPq M M') := by
  show wp L _ zm_M_collate 0 [rV 174, iV x, iV y, iV w] [] M _
  refine wp_aload_n (pc := 0) d_M_collate_0 rfl ?_
  refine wp_iload_n (pc := 1) d_M_collate_1 rfl ?_
  refine wp_callV1f (pc := 2) d_M_collate_2 rfl rfl (zk_174 L) rfl rfl (c_M_isCopy h hd) ?_
  refine wp_if_eq (tgt := 16) (pc := 5) d_M_collate_5 rfl (fun c5 => ?_) (fun c5 => ?_)
  · have c5 := zb_eq0 c5
    refine wp_bipush (pc := 16) d_M_collate_16 rfl ?_
    refine wp_ireturn (pc := 18) d_M_collate_18 rfl ?_
    exact ⟨_, rfl, by unfold xCo; rw [if_neg (by omega)], mF.rf⟩
  · have c5 := zb_ne0 c5
    refine wp_aload_n (pc := 8) d_M_collate_8 rfl ?_
    refine wp_iload_n (pc := 9) d_M_collate_9 rfl ?_
    refine wp_callV1f (pc := 10) d_M_collate_10 rfl rfl (zk_174 L) rfl rfl (c_M_isCopy h hd) ?_
    refine wp_if_ne (tgt := 19) (pc := 13) d_M_collate_13 rfl (fun c13 => ?_) (fun c13 => ?_)
    · have c13 := zb_ne0 c13
      refine wp_iload_n (pc := 19) d_M_collate_19 rfl ?_
      refine wp_iconst (pc := 20) d_M_collate_20 rfl ?_
      refine wp_bipush (pc := 21) d_M_collate_21 rfl ?_
      refine wp_callS3f (pc := 23) d_M_collate_23 rfl rfl rfl rfl rfl c_M_within ?_
      refine wp_if_eq (tgt := 39) (pc := 26) d_M_collate_26 rfl (fun c26 => ?_) (fun c26 => ?_)
      · have c26 := zb_eq0 c26
        refine wp_bipush (pc := 39) d_M_collate_39 rfl ?_
        refine wp_ireturn (pc := 41) d_M_collate_41 rfl ?_
        first
        | exact ⟨_, rfl, by unfold xCo; rw [if_pos (by omega), if_pos (by omega)]; exact h33.1, h33.2.1.up (fun a k z => by omega)⟩
        | exact ⟨_, rfl, by unfold xCo; rw [if_pos (by omega), if_neg (by omega)], mF.rf⟩
      · have c26 := zb_ne0 c26
        refine wp_aload_n (pc := 29) d_M_collate_29 rfl ?_
        refine wp_iload_n (pc := 30) d_M_collate_30 rfl ?_
        refine wp_iload_n (pc := 31) d_M_collate_31 rfl ?_
        refine wp_iload_n (pc := 32) d_M_collate_32 rfl ?_
        refine wp_callV3i (pc := 33) d_M_collate_33 rfl rfl (zk_174 L) rfl rfl (c_M_collateNow h hd c5.1 c5.2 c13.1 c13.2) (fun x33 M33 h33 => ?_)
        refine wp_goto (tgt := 41) (pc := 36) d_M_collate_36 rfl ?_
        refine wp_ireturn (pc := 41) d_M_collate_41 rfl ?_
        first
        | exact ⟨_, rfl, by unfold xCo; rw [if_pos (by omega), if_pos (by omega)]; exact h33.1, h33.2.1.up (fun a k z => by omega)⟩
        | exact ⟨_, rfl, by unfold xCo; rw [if_pos (by omega), if_neg (by omega)], mF.rf⟩
    · have c13 := zb_eq0 (Decidable.of_not_not c13)
      refine wp_bipush (pc := 16) d_M_collate_16 rfl ?_
      refine wp_ireturn (pc := 18) d_M_collate_18 rfl ?_
      exact ⟨_, rfl, by unfold xCo; rw [if_neg (by omega)], mF.rf⟩
theorem c_M_stepNow (h : mH M D) (hd : mDi D) (x0 : 0 ≤ x) (x1 : x < D.2.2.2) (y0 : 0 ≤ y) (y1 : y < D.2.2.2) : Ci L 5 zm_M_stepNow [rV 174, iV x, iV y, iV p] M (fun z M' => z = (if uIn D x y ∧ 0 ≤ p ∧ p < (uK D x y : Int) then qSt (D.1 x) (D.1 y) (D.2.1 x) (D.2.1 y) D.2.2.1 p.toNat else -101) ∧ mF mPc1 M M') := by
  show wp L _ zm_M_stepNow 0 [rV 174, iV x, iV y, iV p] [] M _
  refine wp_aload_n (pc := 0) d_M_stepNow_0 rfl ?_
  refine wp_iload_n (pc := 1) d_M_stepNow_1 rfl ?_
  refine wp_iload_n (pc := 2) d_M_stepNow_2 rfl ?_
  refine wp_callV2v (pc := 3) d_M_stepNow_3 rfl rfl (zk_174 L) rfl rfl (c_M_layCollation h hd x0 x1 y0 y1) (fun M3 h3 => ?_)
  obtain ⟨k1, hc⟩ := h3
  have h1 : mH M3 D := h.keep k1 (by omega) (by omega) (by omega)
  have lx := hd.l x0 x1
  have ly := hd.l y0 y1
  have hd2 := hd.2.1
  have hin := mVl_in (f := D.1 x) (g := D.1 y) (n1 := D.2.1 x) (n2 := D.2.1 y) (b := D.2.2.1) lx.2 ly.2 (by omega) (by omega) hd2.1
  have hsm := mVl_sm (f := D.1 x) (g := D.1 y) (n1 := D.2.1 x) (n2 := D.2.1 y) (b := D.2.2.1) lx.2 ly.2 (Int.le_refl 0) (Int.le_refl 0)
  have e0 := hc.2.2.1
  have hb14 : 0 ≤ M3 174 14 ∧ M3 174 14 ≤ 48 := by
    by_cases e : uIn D x y
    · have := hc.2.2.2.1 e; omega
    · have := hc.2.2.2.2 e; omega
  refine wp_iload_n (pc := 6) d_M_stepNow_6 rfl ?_
  refine wp_iconst (pc := 7) d_M_stepNow_7 rfl ?_
  refine wp_aload_n (pc := 8) d_M_stepNow_8 rfl ?_
  refine wp_getI (pc := 9) d_M_stepNow_9 rfl (by decide) (zk_174 L) ?_
  refine wp_iconst (pc := 12) d_M_stepNow_12 rfl ?_
  refine wp_isub (pc := 13) d_M_stepNow_13 (by omega) (by omega) ?_
  refine wp_callS3f (pc := 14) d_M_stepNow_14 rfl rfl rfl rfl rfl c_M_within ?_
  refine wp_if_eq (tgt := 29) (pc := 17) d_M_stepNow_17 rfl (fun c17 => ?_) (fun c17 => ?_)
  · have c17 := zb_eq0 c17
    refine wp_bipush (pc := 29) d_M_stepNow_29 rfl ?_
    refine wp_ireturn (pc := 31) d_M_stepNow_31 rfl ?_
    refine ⟨_, rfl, ?_, k1⟩
    by_cases e : uIn D x y
    · have hx := hc.2.2.2.1 e
      first
      | (rw [if_pos ⟨e, by omega⟩]; exact hx.2.2.2 p.toNat (by omega))
      | rw [if_neg (fun z => c17 (by omega))]
    · have hx := hc.2.2.2.2 e
      first
      | (exfalso; omega)
      | rw [if_neg (fun z => e z.1)]
  · have c17 := zb_ne0 c17
    refine wp_aload_n (pc := 20) d_M_stepNow_20 rfl ?_
    refine wp_getR (pc := 21) d_M_stepNow_21 rfl (zk_174 L) zx_174_15 ?_
    refine wp_iload_n (pc := 24) d_M_stepNow_24 rfl ?_
    refine wp_iald (pc := 25) d_M_stepNow_25 (zk_183 L) (by omega) (by omega) ?_
    refine wp_goto (tgt := 31) (pc := 26) d_M_stepNow_26 rfl ?_
    refine wp_ireturn (pc := 31) d_M_stepNow_31 rfl ?_
    refine ⟨_, rfl, ?_, k1⟩
    by_cases e : uIn D x y
    · have hx := hc.2.2.2.1 e
      first
      | (rw [if_pos ⟨e, by omega⟩]; exact hx.2.2.2 p.toNat (by omega))
      | rw [if_neg (fun z => c17 (by omega))]
    · have hx := hc.2.2.2.2 e
      first
      | (exfalso; omega)
      | rw [if_neg (fun z => e z.1)]
theorem c_M_step (h : mH M D) (hd : mDi D) : Ci L 6 zm_M_step [rV 174, iV x, iV y, iV p] M (fun z M' => z = xSp D x y p ∧ mF mPq M M') := by
  show wp L _ zm_M_step 0 [rV 174, iV x, iV y, iV p] [] M _
  refine wp_aload_n (pc := 0) d_M_step_0 rfl ?_
  refine wp_iload_n (pc := 1) d_M_step_1 rfl ?_
  refine wp_callV1f (pc := 2) d_M_step_2 rfl rfl (zk_174 L) rfl rfl (c_M_isCopy h hd) ?_
  refine wp_if_eq (tgt := 26) (pc := 5) d_M_step_5 rfl (fun c5 => ?_) (fun c5 => ?_)
  · have c5 := zb_eq0 c5
    refine wp_bipush (pc := 26) d_M_step_26 rfl ?_
    refine wp_ireturn (pc := 28) d_M_step_28 rfl ?_
    first
    | exact ⟨_, rfl, by unfold xSp; rw [if_pos (by omega)]; exact h20.1, h20.2.up (fun a k z => by omega)⟩
    | exact ⟨_, rfl, by unfold xSp; rw [if_neg (by omega)], mF.rf⟩
  · have c5 := zb_ne0 c5
    refine wp_aload_n (pc := 8) d_M_step_8 rfl ?_
    refine wp_iload_n (pc := 9) d_M_step_9 rfl ?_
    refine wp_callV1f (pc := 10) d_M_step_10 rfl rfl (zk_174 L) rfl rfl (c_M_isCopy h hd) ?_
    refine wp_if_eq (tgt := 26) (pc := 13) d_M_step_13 rfl (fun c13 => ?_) (fun c13 => ?_)
    · have c13 := zb_eq0 c13
      refine wp_bipush (pc := 26) d_M_step_26 rfl ?_
      refine wp_ireturn (pc := 28) d_M_step_28 rfl ?_
      first
      | exact ⟨_, rfl, by unfold xSp; rw [if_pos (by omega)]; exact h20.1, h20.2.up (fun a k z => by omega)⟩
      | exact ⟨_, rfl, by unfold xSp; rw [if_neg (by omega)], mF.rf⟩
    · have c13 := zb_ne0 c13
      refine wp_aload_n (pc := 16) d_M_step_16 rfl ?_
      refine wp_iload_n (pc := 17) d_M_step_17 rfl ?_
      refine wp_iload_n (pc := 18) d_M_step_18 rfl ?_
      refine wp_iload_n (pc := 19) d_M_step_19 rfl ?_
      refine wp_callV3i (pc := 20) d_M_step_20 rfl rfl (zk_174 L) rfl rfl (c_M_stepNow h hd c5.1 c5.2 c13.1 c13.2) (fun x20 M20 h20 => ?_)
      refine wp_goto (tgt := 28) (pc := 23) d_M_step_23 rfl ?_
      refine wp_ireturn (pc := 28) d_M_step_28 rfl ?_
      first
      | exact ⟨_, rfl, by unfold xSp; rw [if_pos (by omega)]; exact h20.1, h20.2.up (fun a k z => by omega)⟩
      | exact ⟨_, rfl, by unfold xSp; rw [if_neg (by omega)], mF.rf⟩
abbrev mPr (c : Int) (a k : Nat) : Prop := a = 182 ∨ a = 183 ∨ a = 174 ∧ (k = 14 ∨ k = 16 ∨ k = 17) ∨ a = 185 ∧ k = c.toNat ∨ a = 184 ∧ 24 * c.toNat ≤ k ∧ k < 24 * c.toNat + 24
theorem lp_M_layReading {M0 : zM} (h : mH M0 D) (hd : mDi D) (c0 : 0 ≤ c) (c1 : c < D.2.2.2) {K : Nat} (e14 : M0 174 14 = (K : Int)) (hst : ∀ q, q < K → M0 183 q = qSt (D.1 0) (D.1 c) (D.2.1 0) (D.2.1 c) D.2.2.1 q) (hK : K = 0 ∨ uIn D 0 c ∧ qEn (D.1 0) (D.1 c) (D.2.1 0) (D.2.1 c) D.2.2.1 K ∧ K ≤ 48) : ∀ (n9 : Nat) (k : Nat) (i : Int) (j : Int) (M : zM), (K : Int) - k < n9 → (k ≤ K) → (i = (qPs (D.1 0) (D.1 c) (D.2.1 0) (D.2.1 c) D.2.2.1 k).1) → (j = (qPs (D.1 0) (D.1 c) (D.2.1 0) (D.2.1 c) D.2.2.1 k).2) → (mF (mPr c) M0 M) → (∀ p : Int, 0 ≤ p → p < i → M 184 (24 * c + p).toNat = qRf (D.1 0) (D.1 c) (D.2.1 0) (D.2.1 c) D.2.2.1 k p) → (∀ a k, ¬ a = 184 → M a k = M0 a k) → wp L 1 zm_M_layReading 31 [rV 174, iV c, iV i, iV j, iV k] [] M (fun r M' => r = none ∧ (mF (mPr c) M0 M' ∧ (∀ p : Int, 0 ≤ p → p < (qPs (D.1 0) (D.1 c) (D.2.1 0) (D.2.1 c) D.2.2.1 K).1 → M' 184 (24 * c + p).toNat = qRf (D.1 0) (D.1 c) (D.2.1 0) (D.2.1 c) D.2.2.1 K p) ∧ ∀ a k, ¬ a = 184 → M' a k = M0 a k)) := by
  intro n9
  induction n9 with
  | zero =>
    intro k  i  j  M  h9 g0 g1 g2 g3 g4 g5
    have hd1 := hd.1
    have hd2 := hd.2.1
    have lx := hd.l (Int.le_refl 0) (show 0 < D.2.2.2 by omega)
    have ly := hd.l c0 c1
    exact absurd h9 (by omega)
  | succ n9 ih =>
    intro k  i  j  M  h9 g0 g1 g2 g3 g4 g5
    have hd1 := hd.1
    have hd2 := hd.2.1
    have lx := hd.l (Int.le_refl 0) (show 0 < D.2.2.2 by omega)
    have ly := hd.l c0 c1
    have m14 : M 174 14 = (K : Int) := (g5 174 14 (by omega)).trans e14
    have hM : mH M D := h.keep g3 (by omega) (by omega) (by omega)
    refine wp_iload (pc := 31) d_M_layReading_31 rfl ?_
    refine wp_aload_n (pc := 33) d_M_layReading_33 rfl ?_
    refine wp_getI (pc := 34) d_M_layReading_34 rfl (by decide) (zk_174 L) ?_
    refine wp_icmp_ge (tgt := 110) (pc := 37) d_M_layReading_37 rfl (fun c37 => ?_) (fun c37 => ?_)
    · refine wp_return_ (pc := 110) d_M_layReading_110 rfl ?_
      have ek : k = K := by omega
      subst ek
      rw [← g1]
      exact ⟨rfl, g3, g4, g5⟩
    · obtain ⟨he, hen, hK48⟩ := hK.resolve_left (by omega)
      have hps := qPs_ok (f := D.1 0) (g := D.1 c) he lx.2 ly.2 (by omega) (by omega) hd2.1 k (fun t ht => hen.2 t (by omega))
      rw [← g1, ← g2] at hps
      have hne := hen.2 k (by omega)
      rw [← g1, ← g2] at hne
      have hdk := qDc_ok (f := D.1 0) (g := D.1 c) he lx.2 ly.2 hps.1 hps.2.2.1 hps.2.1 hps.2.2.2.1 hps.2.2.2.2.1 hps.2.2.2.2.2.1 hne
      have est : qSt (D.1 0) (D.1 c) (D.2.1 0) (D.2.1 c) D.2.2.1 k = qDc (D.1 0) (D.1 c) (D.2.1 0) (D.2.1 c) D.2.2.1 i j := by unfold qSt; rw [← g1, ← g2]
      rw [← est] at hdk
      have hpn := qPs_st (D.1 0) (D.1 c) (D.2.1 0) (D.2.1 c) D.2.2.1 k
      rw [← g1, ← g2] at hpn
      have es : M 183 ((k : Int)).toNat = qSt (D.1 0) (D.1 c) (D.2.1 0) (D.2.1 c) D.2.2.1 k := by rw [g5 183 _ (by omega), show ((k : Int)).toNat = k by omega]; exact hst k (by omega)
      have hrf : ∀ p : Int, qRf (D.1 0) (D.1 c) (D.2.1 0) (D.2.1 c) D.2.2.1 (k + 1) p = if ¬ qSt (D.1 0) (D.1 c) (D.2.1 0) (D.2.1 c) D.2.2.1 k = 2 ∧ p = i then (if qSt (D.1 0) (D.1 c) (D.2.1 0) (D.2.1 c) D.2.2.1 k = 0 then D.1 c j else -1) else qRf (D.1 0) (D.1 c) (D.2.1 0) (D.2.1 c) D.2.2.1 k p := fun p => by rw [qRf, ← g1, ← g2]
      refine wp_aload_n (pc := 40) d_M_layReading_40 rfl ?_
      refine wp_getR (pc := 41) d_M_layReading_41 rfl (zk_174 L) zx_174_15 ?_
      refine wp_iload (pc := 44) d_M_layReading_44 rfl ?_
      refine wp_iald (pc := 46) d_M_layReading_46 (zk_183 L) (by omega) (by omega) ?_
      rw [es]
      refine wp_iconst (pc := 47) d_M_layReading_47 rfl ?_
      refine wp_icmp_eq (tgt := 85) (pc := 48) d_M_layReading_48 rfl (fun c48 => ?_) (fun c48 => ?_)
      · refine wp_iload_n (pc := 85) d_M_layReading_85 rfl ?_
        refine wp_aload_n (pc := 86) d_M_layReading_86 rfl ?_
        refine wp_getR (pc := 87) d_M_layReading_87 rfl (zk_174 L) zx_174_15 ?_
        refine wp_iload (pc := 90) d_M_layReading_90 rfl ?_
        refine wp_iald (pc := 92) d_M_layReading_92 (zk_183 L) (by omega) (by omega) ?_
        refine wp_iconst (pc := 93) d_M_layReading_93 rfl ?_
        refine wp_icmp_ne (tgt := 101) (pc := 94) d_M_layReading_94 rfl (fun c94 => ?_) (fun c94 => ?_)
        · refine wp_iconst (pc := 101) d_M_layReading_101 rfl ?_
          refine wp_iadd (pc := 102) d_M_layReading_102 (by omega) (by omega) ?_
          refine wp_ist3 (pc := 103) d_M_layReading_103 rfl ?_
          refine wp_iinc4 (pc := 104) d_M_layReading_104 rfl (by omega) (by omega) ?_
          refine wp_goto (tgt := 31) (pc := 107) d_M_layReading_107 rfl ?_
          first
          | (refine ih (k + 1) _ _ _ (by omega) (by omega) ?_ ?_ (g3.u (by omega)) (fun p p0 p1 => ?_) (fun a q ha => by rw [zU_na ha]; exact g5 a q ha)
             · rw [hpn.1, if_neg (by omega)]
             · rw [hpn.2]
               rw [zU_na (by decide), es] at c94
               first | rw [if_pos (by omega)] | rw [if_neg (by omega)]
             · rw [hrf]
               by_cases e : p = i
               · rw [e, zU_eq, if_pos ⟨by omega, rfl⟩]
                 first | rw [if_pos (by omega)] | rw [if_neg (by omega)]
               · rw [zU_nk (by omega), if_neg (fun z => e z.2)]
                 exact g4 p p0 (by omega))
          | (refine ih (k + 1) _ _ _ (by omega) (by omega) ?_ ?_ g3 (fun p p0 p1 => ?_) g5
             · rw [hpn.1, if_pos (by omega), Int.add_zero]
             · rw [hpn.2]
               rw [es] at c94
               first | (exfalso; omega) | rw [if_neg (by omega)]
             · rw [hrf, if_neg (by omega)]
               exact g4 p p0 p1)
          | (rw [es] at c94; exfalso; omega)
          | (rw [zU_na (by decide), es] at c94; exfalso; omega)
        · refine wp_iconst (pc := 97) d_M_layReading_97 rfl ?_
          refine wp_goto (tgt := 102) (pc := 98) d_M_layReading_98 rfl ?_
          refine wp_iadd (pc := 102) d_M_layReading_102 (by omega) (by omega) ?_
          refine wp_ist3 (pc := 103) d_M_layReading_103 rfl ?_
          refine wp_iinc4 (pc := 104) d_M_layReading_104 rfl (by omega) (by omega) ?_
          refine wp_goto (tgt := 31) (pc := 107) d_M_layReading_107 rfl ?_
          first
          | (refine ih (k + 1) _ _ _ (by omega) (by omega) ?_ ?_ (g3.u (by omega)) (fun p p0 p1 => ?_) (fun a q ha => by rw [zU_na ha]; exact g5 a q ha)
             · rw [hpn.1, if_neg (by omega)]
             · rw [hpn.2]
               rw [zU_na (by decide), es] at c94
               first | rw [if_pos (by omega)] | rw [if_neg (by omega)]
             · rw [hrf]
               by_cases e : p = i
               · rw [e, zU_eq, if_pos ⟨by omega, rfl⟩]
                 first | rw [if_pos (by omega)] | rw [if_neg (by omega)]
               · rw [zU_nk (by omega), if_neg (fun z => e z.2)]
                 exact g4 p p0 (by omega))
          | (refine ih (k + 1) _ _ _ (by omega) (by omega) ?_ ?_ g3 (fun p p0 p1 => ?_) g5
             · rw [hpn.1, if_pos (by omega), Int.add_zero]
             · rw [hpn.2]
               rw [es] at c94
               first | (exfalso; omega) | rw [if_neg (by omega)]
             · rw [hrf, if_neg (by omega)]
               exact g4 p p0 p1)
          | (rw [es] at c94; exfalso; omega)
          | (rw [zU_na (by decide), es] at c94; exfalso; omega)
      · refine wp_aload_n (pc := 51) d_M_layReading_51 rfl ?_
        refine wp_getR (pc := 52) d_M_layReading_52 rfl (zk_174 L) zx_174_18 ?_
        refine wp_bipush (pc := 55) d_M_layReading_55 rfl ?_
        refine wp_iload_n (pc := 57) d_M_layReading_57 rfl ?_
        refine wp_imul (pc := 58) d_M_layReading_58 (by omega) (by omega) ?_
        refine wp_iload_n (pc := 59) d_M_layReading_59 rfl ?_
        refine wp_iadd (pc := 60) d_M_layReading_60 (by omega) (by omega) ?_
        refine wp_aload_n (pc := 61) d_M_layReading_61 rfl ?_
        refine wp_getR (pc := 62) d_M_layReading_62 rfl (zk_174 L) zx_174_15 ?_
        refine wp_iload (pc := 65) d_M_layReading_65 rfl ?_
        refine wp_iald (pc := 67) d_M_layReading_67 (zk_183 L) (by omega) (by omega) ?_
        rw [es]
        refine wp_if_ne (tgt := 80) (pc := 68) d_M_layReading_68 rfl (fun c68 => ?_) (fun c68 => ?_)
        · refine wp_iconst (pc := 80) d_M_layReading_80 rfl ?_
          refine wp_iast (pc := 81) d_M_layReading_81 (zk_184 L) (by decide) (by omega) (by omega) ?_
          refine wp_iinc2 (pc := 82) d_M_layReading_82 rfl (by omega) (by omega) ?_
          refine wp_iload_n (pc := 85) d_M_layReading_85 rfl ?_
          refine wp_aload_n (pc := 86) d_M_layReading_86 rfl ?_
          refine wp_getR (pc := 87) d_M_layReading_87 rfl (zk_174 L) zx_174_15 ?_
          refine wp_iload (pc := 90) d_M_layReading_90 rfl ?_
          refine wp_iald (pc := 92) d_M_layReading_92 (zk_183 L) (by omega) (by omega) ?_
          refine wp_iconst (pc := 93) d_M_layReading_93 rfl ?_
          refine wp_icmp_ne (tgt := 101) (pc := 94) d_M_layReading_94 rfl (fun c94 => ?_) (fun c94 => ?_)
          · refine wp_iconst (pc := 101) d_M_layReading_101 rfl ?_
            refine wp_iadd (pc := 102) d_M_layReading_102 (by omega) (by omega) ?_
            refine wp_ist3 (pc := 103) d_M_layReading_103 rfl ?_
            refine wp_iinc4 (pc := 104) d_M_layReading_104 rfl (by omega) (by omega) ?_
            refine wp_goto (tgt := 31) (pc := 107) d_M_layReading_107 rfl ?_
            first
            | (refine ih (k + 1) _ _ _ (by omega) (by omega) ?_ ?_ (g3.u (by omega)) (fun p p0 p1 => ?_) (fun a q ha => by rw [zU_na ha]; exact g5 a q ha)
               · rw [hpn.1, if_neg (by omega)]
               · rw [hpn.2]
                 rw [zU_na (by decide), es] at c94
                 first | rw [if_pos (by omega)] | rw [if_neg (by omega)]
               · rw [hrf]
                 by_cases e : p = i
                 · rw [e, zU_eq, if_pos ⟨by omega, rfl⟩]
                   first | rw [if_pos (by omega)] | rw [if_neg (by omega)]
                 · rw [zU_nk (by omega), if_neg (fun z => e z.2)]
                   exact g4 p p0 (by omega))
            | (refine ih (k + 1) _ _ _ (by omega) (by omega) ?_ ?_ g3 (fun p p0 p1 => ?_) g5
               · rw [hpn.1, if_pos (by omega), Int.add_zero]
               · rw [hpn.2]
                 rw [es] at c94
                 first | (exfalso; omega) | rw [if_neg (by omega)]
               · rw [hrf, if_neg (by omega)]
                 exact g4 p p0 p1)
            | (rw [es] at c94; exfalso; omega)
            | (rw [zU_na (by decide), es] at c94; exfalso; omega)
          · refine wp_iconst (pc := 97) d_M_layReading_97 rfl ?_
            refine wp_goto (tgt := 102) (pc := 98) d_M_layReading_98 rfl ?_
            refine wp_iadd (pc := 102) d_M_layReading_102 (by omega) (by omega) ?_
            refine wp_ist3 (pc := 103) d_M_layReading_103 rfl ?_
            refine wp_iinc4 (pc := 104) d_M_layReading_104 rfl (by omega) (by omega) ?_
            refine wp_goto (tgt := 31) (pc := 107) d_M_layReading_107 rfl ?_
            first
            | (refine ih (k + 1) _ _ _ (by omega) (by omega) ?_ ?_ (g3.u (by omega)) (fun p p0 p1 => ?_) (fun a q ha => by rw [zU_na ha]; exact g5 a q ha)
               · rw [hpn.1, if_neg (by omega)]
               · rw [hpn.2]
                 rw [zU_na (by decide), es] at c94
                 first | rw [if_pos (by omega)] | rw [if_neg (by omega)]
               · rw [hrf]
                 by_cases e : p = i
                 · rw [e, zU_eq, if_pos ⟨by omega, rfl⟩]
                   first | rw [if_pos (by omega)] | rw [if_neg (by omega)]
                 · rw [zU_nk (by omega), if_neg (fun z => e z.2)]
                   exact g4 p p0 (by omega))
            | (refine ih (k + 1) _ _ _ (by omega) (by omega) ?_ ?_ g3 (fun p p0 p1 => ?_) g5
               · rw [hpn.1, if_pos (by omega), Int.add_zero]
               · rw [hpn.2]
                 rw [es] at c94
                 first | (exfalso; omega) | rw [if_neg (by omega)]
               · rw [hrf, if_neg (by omega)]
                 exact g4 p p0 p1)
            | (rw [es] at c94; exfalso; omega)
            | (rw [zU_na (by decide), es] at c94; exfalso; omega)
        · refine wp_aload_n (pc := 71) d_M_layReading_71 rfl ?_
          refine wp_iload_n (pc := 72) d_M_layReading_72 rfl ?_
          refine wp_iload_n (pc := 73) d_M_layReading_73 rfl ?_
          refine wp_callV2f (pc := 74) d_M_layReading_74 rfl rfl (zk_174 L) rfl rfl (c_M_letterAt hM hd c0 c1 (by omega) (by omega)) ?_
          refine wp_goto (tgt := 81) (pc := 77) d_M_layReading_77 rfl ?_
          refine wp_iast (pc := 81) d_M_layReading_81 (zk_184 L) (by decide) (by omega) (by omega) ?_
          refine wp_iinc2 (pc := 82) d_M_layReading_82 rfl (by omega) (by omega) ?_
          refine wp_iload_n (pc := 85) d_M_layReading_85 rfl ?_
          refine wp_aload_n (pc := 86) d_M_layReading_86 rfl ?_
          refine wp_getR (pc := 87) d_M_layReading_87 rfl (zk_174 L) zx_174_15 ?_
          refine wp_iload (pc := 90) d_M_layReading_90 rfl ?_
          refine wp_iald (pc := 92) d_M_layReading_92 (zk_183 L) (by omega) (by omega) ?_
          refine wp_iconst (pc := 93) d_M_layReading_93 rfl ?_
          refine wp_icmp_ne (tgt := 101) (pc := 94) d_M_layReading_94 rfl (fun c94 => ?_) (fun c94 => ?_)
          · refine wp_iconst (pc := 101) d_M_layReading_101 rfl ?_
            refine wp_iadd (pc := 102) d_M_layReading_102 (by omega) (by omega) ?_
            refine wp_ist3 (pc := 103) d_M_layReading_103 rfl ?_
            refine wp_iinc4 (pc := 104) d_M_layReading_104 rfl (by omega) (by omega) ?_
            refine wp_goto (tgt := 31) (pc := 107) d_M_layReading_107 rfl ?_
            first
            | (refine ih (k + 1) _ _ _ (by omega) (by omega) ?_ ?_ (g3.u (by omega)) (fun p p0 p1 => ?_) (fun a q ha => by rw [zU_na ha]; exact g5 a q ha)
               · rw [hpn.1, if_neg (by omega)]
               · rw [hpn.2]
                 rw [zU_na (by decide), es] at c94
                 first | rw [if_pos (by omega)] | rw [if_neg (by omega)]
               · rw [hrf]
                 by_cases e : p = i
                 · rw [e, zU_eq, if_pos ⟨by omega, rfl⟩]
                   first | rw [if_pos (by omega)] | rw [if_neg (by omega)]
                 · rw [zU_nk (by omega), if_neg (fun z => e z.2)]
                   exact g4 p p0 (by omega))
            | (refine ih (k + 1) _ _ _ (by omega) (by omega) ?_ ?_ g3 (fun p p0 p1 => ?_) g5
               · rw [hpn.1, if_pos (by omega), Int.add_zero]
               · rw [hpn.2]
                 rw [es] at c94
                 first | (exfalso; omega) | rw [if_neg (by omega)]
               · rw [hrf, if_neg (by omega)]
                 exact g4 p p0 p1)
            | (rw [es] at c94; exfalso; omega)
            | (rw [zU_na (by decide), es] at c94; exfalso; omega)
          · refine wp_iconst (pc := 97) d_M_layReading_97 rfl ?_
            refine wp_goto (tgt := 102) (pc := 98) d_M_layReading_98 rfl ?_
            refine wp_iadd (pc := 102) d_M_layReading_102 (by omega) (by omega) ?_
            refine wp_ist3 (pc := 103) d_M_layReading_103 rfl ?_
            refine wp_iinc4 (pc := 104) d_M_layReading_104 rfl (by omega) (by omega) ?_
            refine wp_goto (tgt := 31) (pc := 107) d_M_layReading_107 rfl ?_
            first
            | (refine ih (k + 1) _ _ _ (by omega) (by omega) ?_ ?_ (g3.u (by omega)) (fun p p0 p1 => ?_) (fun a q ha => by rw [zU_na ha]; exact g5 a q ha)
               · rw [hpn.1, if_neg (by omega)]
               · rw [hpn.2]
                 rw [zU_na (by decide), es] at c94
                 first | rw [if_pos (by omega)] | rw [if_neg (by omega)]
               · rw [hrf]
                 by_cases e : p = i
                 · rw [e, zU_eq, if_pos ⟨by omega, rfl⟩]
                   first | rw [if_pos (by omega)] | rw [if_neg (by omega)]
                 · rw [zU_nk (by omega), if_neg (fun z => e z.2)]
                   exact g4 p p0 (by omega))
            | (refine ih (k + 1) _ _ _ (by omega) (by omega) ?_ ?_ g3 (fun p p0 p1 => ?_) g5
               · rw [hpn.1, if_pos (by omega), Int.add_zero]
               · rw [hpn.2]
                 rw [es] at c94
                 first | (exfalso; omega) | rw [if_neg (by omega)]
               · rw [hrf, if_neg (by omega)]
                 exact g4 p p0 p1)
            | (rw [es] at c94; exfalso; omega)
            | (rw [zU_na (by decide), es] at c94; exfalso; omega)
theorem c_M_layReading (h : mH M D) (hd : mDi D) (c0 : 0 ≤ c) (c1 : c < D.2.2.2) : Cv L 5 zm_M_layReading [rV 174, iV c] M (fun M' => mF (mPr c) M M' ∧ mCl M' D 0 c ∧ M' 185 c.toNat = (if uIn D 0 c then 0 else 1) ∧ (uIn D 0 c → ∀ p : Int, 0 ≤ p → p < uPl D → M' 184 (24 * c + p).toNat = uRd D c p)) := by
  show wp L _ zm_M_layReading 0 [rV 174, iV c, uV, uV, uV] [] M _
  have hd1 := hd.1
  have hd2 := hd.2.1
  have lx := hd.l (Int.le_refl 0) (show 0 < D.2.2.2 by omega)
  have ly := hd.l c0 c1
  refine wp_aload_n (pc := 0) d_M_layReading_0 rfl ?_
  refine wp_iconst (pc := 1) d_M_layReading_1 rfl ?_
  refine wp_iload_n (pc := 2) d_M_layReading_2 rfl ?_
  refine wp_callV2v (pc := 3) d_M_layReading_3 rfl rfl (zk_174 L) rfl rfl (c_M_layCollation h hd (Int.le_refl 0) (by omega) c0 c1) (fun M3 h3 => ?_)
  obtain ⟨k1, hc⟩ := h3
  have h1 : mH M3 D := h.keep k1 (by omega) (by omega) (by omega)
  have hin := mVl_in (f := D.1 0) (g := D.1 c) (n1 := D.2.1 0) (n2 := D.2.1 c) (b := D.2.2.1) lx.2 ly.2 (by omega) (by omega) hd2.1
  have e0 := hc.2.2.1
  refine wp_aload_n (pc := 6) d_M_layReading_6 rfl ?_
  refine wp_getR (pc := 7) d_M_layReading_7 rfl (zk_174 L) zx_174_19 ?_
  refine wp_iload_n (pc := 10) d_M_layReading_10 rfl ?_
  refine wp_aload_n (pc := 11) d_M_layReading_11 rfl ?_
  refine wp_callV0f (pc := 12) d_M_layReading_12 rfl rfl (zk_174 L) rfl rfl c_M_isCollated ?_
  rw [e0]
  refine wp_if_ne (tgt := 22) (pc := 15) d_M_layReading_15 rfl (fun c15 => ?_) (fun c15 => ?_)
  · have c15 := zb_ne0 c15
    refine wp_iconst (pc := 22) d_M_layReading_22 rfl ?_
    refine wp_bast (pc := 23) d_M_layReading_23 (zk_185 L) (by decide) (by omega) (by omega) (by omega) ?_
    refine wp_iconst (pc := 24) d_M_layReading_24 rfl ?_
    refine wp_ist2 (pc := 25) d_M_layReading_25 rfl ?_
    refine wp_iconst (pc := 26) d_M_layReading_26 rfl ?_
    refine wp_ist3 (pc := 27) d_M_layReading_27 rfl ?_
    refine wp_iconst (pc := 28) d_M_layReading_28 rfl ?_
    refine wp_ist4 (pc := 29) d_M_layReading_29 rfl ?_
    first
    | (have he : uIn D 0 c := hin.1 c15
       obtain ⟨y1, y2, y3, y4⟩ := hc.2.2.2.1 he
       have k2 : mF (mPr c) M3 (zU M3 185 c.toNat 0) := mF.rf.u (by omega)
       refine wp_deep (d := 1) (wp_mono (lp_M_layReading (M0 := zU M3 185 c.toNat 0) (K := uK D 0 c) (h1.keep k2 (by omega) (by omega) (by omega)) hd c0 c1 (by rw [zU_na (by decide)]; exact y1) (fun q hq => by rw [zU_na (by decide)]; exact y4 q hq) (Or.inr ⟨he, y2, y3⟩) 100 0 0 0 _ (by omega) (by omega) rfl rfl mF.rf (fun p p0 p1 => by omega) (fun _ _ _ => rfl)) (fun r M' hr => ?_)) (by omega)
       obtain ⟨z0, z1, z2, z3⟩ := hr
       have k3 : mF (fun a k => a = 184 ∨ a = 185) M3 M' := fun a k ha => (z3 a k (by omega)).trans (zU_na (by omega))
       refine ⟨z0, ((k1.up (fun a k z => by omega)).tr k2).tr z1, hc.keep k3 (fun a k z => by omega), ?_, fun _ p p0 p1 => ?_⟩
       · rw [if_pos he, z3 185 _ (by decide), zU_eq]
       · have hpl : uPl D = D.2.1 0 := if_pos (by omega)
         rw [z2 p p0 (by rw [y2.1.1]; omega)]
         exact (qRf_48 y2 y3 p).symm)
    | (have he : ¬ uIn D 0 c := fun z => c15 (hin.2 z)
       have y1 := hc.2.2.2.2 he
       have k2 : mF (mPr c) M3 (zU M3 185 c.toNat 1) := mF.rf.u (by omega)
       refine wp_deep (d := 1) (wp_mono (lp_M_layReading (M0 := zU M3 185 c.toNat 1) (K := 0) (h1.keep k2 (by omega) (by omega) (by omega)) hd c0 c1 (by rw [zU_na (by decide)]; exact y1) (fun q hq => absurd hq (by omega)) (Or.inl rfl) 100 0 0 0 _ (by omega) (by omega) rfl rfl mF.rf (fun p p0 p1 => by omega) (fun _ _ _ => rfl)) (fun r M' hr => ?_)) (by omega)
       obtain ⟨z0, z1, z2, z3⟩ := hr
       have k3 : mF (fun a k => a = 184 ∨ a = 185) M3 M' := fun a k ha => (z3 a k (by omega)).trans (zU_na (by omega))
       refine ⟨z0, ((k1.up (fun a k z => by omega)).tr k2).tr z1, hc.keep k3 (fun a k z => by omega), ?_, fun z => absurd z he⟩
       rw [if_neg he, z3 185 _ (by decide), zU_eq])
  · have c15 := zb_eq0 (Decidable.of_not_not c15)
    refine wp_iconst (pc := 18) d_M_layReading_18 rfl ?_
    refine wp_goto (tgt := 23) (pc := 19) d_M_layReading_19 rfl ?_
    refine wp_bast (pc := 23) d_M_layReading_23 (zk_185 L) (by decide) (by omega) (by omega) (by omega) ?_
    refine wp_iconst (pc := 24) d_M_layReading_24 rfl ?_
    refine wp_ist2 (pc := 25) d_M_layReading_25 rfl ?_
    refine wp_iconst (pc := 26) d_M_layReading_26 rfl ?_
    refine wp_ist3 (pc := 27) d_M_layReading_27 rfl ?_
    refine wp_iconst (pc := 28) d_M_layReading_28 rfl ?_
    refine wp_ist4 (pc := 29) d_M_layReading_29 rfl ?_
    first
    | (have he : uIn D 0 c := hin.1 c15
       obtain ⟨y1, y2, y3, y4⟩ := hc.2.2.2.1 he
       have k2 : mF (mPr c) M3 (zU M3 185 c.toNat 0) := mF.rf.u (by omega)
       refine wp_deep (d := 1) (wp_mono (lp_M_layReading (M0 := zU M3 185 c.toNat 0) (K := uK D 0 c) (h1.keep k2 (by omega) (by omega) (by omega)) hd c0 c1 (by rw [zU_na (by decide)]; exact y1) (fun q hq => by rw [zU_na (by decide)]; exact y4 q hq) (Or.inr ⟨he, y2, y3⟩) 100 0 0 0 _ (by omega) (by omega) rfl rfl mF.rf (fun p p0 p1 => by omega) (fun _ _ _ => rfl)) (fun r M' hr => ?_)) (by omega)
       obtain ⟨z0, z1, z2, z3⟩ := hr
       have k3 : mF (fun a k => a = 184 ∨ a = 185) M3 M' := fun a k ha => (z3 a k (by omega)).trans (zU_na (by omega))
       refine ⟨z0, ((k1.up (fun a k z => by omega)).tr k2).tr z1, hc.keep k3 (fun a k z => by omega), ?_, fun _ p p0 p1 => ?_⟩
       · rw [if_pos he, z3 185 _ (by decide), zU_eq]
       · have hpl : uPl D = D.2.1 0 := if_pos (by omega)
         rw [z2 p p0 (by rw [y2.1.1]; omega)]
         exact (qRf_48 y2 y3 p).symm)
    | (have he : ¬ uIn D 0 c := fun z => c15 (hin.2 z)
       have y1 := hc.2.2.2.2 he
       have k2 : mF (mPr c) M3 (zU M3 185 c.toNat 1) := mF.rf.u (by omega)
       refine wp_deep (d := 1) (wp_mono (lp_M_layReading (M0 := zU M3 185 c.toNat 1) (K := 0) (h1.keep k2 (by omega) (by omega) (by omega)) hd c0 c1 (by rw [zU_na (by decide)]; exact y1) (fun q hq => absurd hq (by omega)) (Or.inl rfl) 100 0 0 0 _ (by omega) (by omega) rfl rfl mF.rf (fun p p0 p1 => by omega) (fun _ _ _ => rfl)) (fun r M' hr => ?_)) (by omega)
       obtain ⟨z0, z1, z2, z3⟩ := hr
       have k3 : mF (fun a k => a = 184 ∨ a = 185) M3 M' := fun a k ha => (z3 a k (by omega)).trans (zU_na (by omega))
       refine ⟨z0, ((k1.up (fun a k z => by omega)).tr k2).tr z1, hc.keep k3 (fun a k z => by omega), ?_, fun z => absurd z he⟩
       rw [if_neg he, z3 185 _ (by decide), zU_eq])
theorem c_M_places (h : mH M D) (hd : mDi D) : Cf L 0 zm_M_places [rV 174] M (iV (uPl D)) M := by
  show wp L _ zm_M_places 0 [rV 174] [] M _
  have e2 := h.1
  have hd1 := hd.1
  refine wp_aload_n (pc := 0) d_M_places_0 rfl ?_
  refine wp_getI (pc := 1) d_M_places_1 rfl (by decide) (zk_174 L) ?_
  refine wp_if_le (tgt := 16) (pc := 4) d_M_places_4 rfl (fun c4 => ?_) (fun c4 => ?_)
  · refine wp_iconst (pc := 16) d_M_places_16 rfl ?_
    refine wp_ireturn (pc := 17) d_M_places_17 rfl ?_
    refine ⟨?_, rfl⟩
    unfold uPl
    first
    | (rw [if_pos (by omega)]; exact congrArg (fun v => some (iV v)) (h.2.2 0 (by decide) (by omega)).1)
    | rw [if_neg (by omega)]
  · refine wp_aload_n (pc := 7) d_M_places_7 rfl ?_
    refine wp_getR (pc := 8) d_M_places_8 rfl (zk_174 L) zx_174_3 ?_
    refine wp_iconst (pc := 11) d_M_places_11 rfl ?_
    refine wp_ialdc 0 (pc := 12) d_M_places_12 (zk_176 L) rfl rfl ?_
    refine wp_goto (tgt := 17) (pc := 13) d_M_places_13 rfl ?_
    refine wp_ireturn (pc := 17) d_M_places_17 rfl ?_
    refine ⟨?_, rfl⟩
    unfold uPl
    first
    | (rw [if_pos (by omega)]; exact congrArg (fun v => some (iV v)) (h.2.2 0 (by decide) (by omega)).1)
    | rw [if_neg (by omega)]
end ZM4
