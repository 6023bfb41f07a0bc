/-! what the model answers about copies and states -/
section ZM9
variable {L : Nat} {M : zM} {D : qDt} {Y : qYt} {g : qPt} {x y z w c p s i j : Int}
theorem c_M_tellState (h : mH M D) (hd : mDi D) (hs : mSt M D) (x0 : 0 ≤ x) (x1 : x < uN D) (w0 : 0 ≤ w) (w6 : w ≤ 6) : Cf L 3 zm_M_tellState [rV 174, iV x, iV w] M (iV (uDe D x w)) M := by
  show wp L _ zm_M_tellState 0 [rV 174, iV x, iV w] [] M _
  have hd1 := hd.1
  have hn := uN_m hd
  have hp := hd.pl
  have e20 : M 174 20 = uN D := hs.1.1
  have e2 := h.1
  have hx := uT_p hd x0 x1
  have hu := uT_u hd x0 x1
  obtain ⟨f1, f2, f3, f4⟩ := hs.1.f hd x0 x1
  obtain ⟨t1, t2⟩ := hs.2 x x0 x1
  refine wp_iload_n (pc := 0) d_M_tellState_0 rfl ?_
  rcases zsw6 0 w with c1 | c1 | c1 | c1 | c1 | c1 | c1
  · refine wp_tableO (tgt := 92) (pc := 1) d_M_tellState_1 (by omega) rfl ?_
    refine wp_aload_n (pc := 92) d_M_tellState_92 rfl ?_
    refine wp_getR (pc := 93) d_M_tellState_93 rfl (zk_174 L) zx_174_24 ?_
    refine wp_iload_n (pc := 96) d_M_tellState_96 rfl ?_
    refine wp_iald (pc := 97) d_M_tellState_97 (zk_189 L) (by omega) (by omega) ?_
    rw [t2]
    refine wp_ireturn (pc := 98) d_M_tellState_98 rfl ?_
    refine ⟨?_, rfl⟩
    unfold uDe
    rw [if_neg (show ¬ w = 0 by omega)]
    rw [if_neg (show ¬ w = 1 by omega)]
    rw [if_neg (show ¬ w = 2 by omega)]
    rw [if_neg (show ¬ w = 3 by omega)]
    rw [if_neg (show ¬ w = 4 by omega)]
    rw [if_neg (show ¬ w = 5 by omega)]
  · refine wp_tableI (tgt := 40) (off := 39) (pc := 1) d_M_tellState_1 (by omega) (by omega) (by rw [c1]; rfl) rfl ?_
    refine wp_aload_n (pc := 40) d_M_tellState_40 rfl ?_
    refine wp_getR (pc := 41) d_M_tellState_41 rfl (zk_174 L) zx_174_22 ?_
    refine wp_iload_n (pc := 44) d_M_tellState_44 rfl ?_
    refine wp_iald (pc := 45) d_M_tellState_45 (zk_187 L) (by omega) (by omega) ?_
    rw [f1]
    refine wp_ireturn (pc := 46) d_M_tellState_46 rfl ?_
    refine ⟨?_, rfl⟩
    unfold uDe
    rw [if_pos (show w = 0 by omega)]
  · refine wp_tableI (tgt := 47) (off := 46) (pc := 1) d_M_tellState_1 (by omega) (by omega) (by rw [c1]; rfl) rfl ?_
    refine wp_aload_n (pc := 47) d_M_tellState_47 rfl ?_
    refine wp_iload_n (pc := 48) d_M_tellState_48 rfl ?_
    refine wp_callV1f (pc := 49) d_M_tellState_49 rfl rfl (zk_174 L) rfl rfl (c_M_copiesIn h hd hs x0 x1) ?_
    refine wp_ireturn (pc := 52) d_M_tellState_52 rfl ?_
    refine ⟨?_, rfl⟩
    unfold uDe
    rw [if_neg (show ¬ w = 0 by omega)]
    rw [if_pos (show w = 1 by omega)]
  · refine wp_tableI (tgt := 53) (off := 52) (pc := 1) d_M_tellState_1 (by omega) (by omega) (by rw [c1]; rfl) rfl ?_
    refine wp_aload_n (pc := 53) d_M_tellState_53 rfl ?_
    refine wp_getR (pc := 54) d_M_tellState_54 rfl (zk_174 L) zx_174_23 ?_
    refine wp_iload_n (pc := 57) d_M_tellState_57 rfl ?_
    refine wp_iald (pc := 58) d_M_tellState_58 (zk_188 L) (by omega) (by omega) ?_
    rw [t1]
    refine wp_ireturn (pc := 59) d_M_tellState_59 rfl ?_
    refine ⟨?_, rfl⟩
    unfold uDe
    rw [if_neg (show ¬ w = 0 by omega)]
    rw [if_neg (show ¬ w = 1 by omega)]
    rw [if_pos (show w = 2 by omega)]
  · refine wp_tableI (tgt := 60) (off := 59) (pc := 1) d_M_tellState_1 (by omega) (by omega) (by rw [c1]; rfl) rfl ?_
    refine wp_iload_n (pc := 60) d_M_tellState_60 rfl ?_
    refine wp_if_ne (tgt := 68) (pc := 61) d_M_tellState_61 rfl (fun c61 => ?_) (fun c61 => ?_)
    · refine wp_aload_n (pc := 68) d_M_tellState_68 rfl ?_
      refine wp_iload_n (pc := 69) d_M_tellState_69 rfl ?_
      refine wp_aload_n (pc := 70) d_M_tellState_70 rfl ?_
      refine wp_getR (pc := 71) d_M_tellState_71 rfl (zk_174 L) zx_174_23 ?_
      refine wp_iload_n (pc := 74) d_M_tellState_74 rfl ?_
      refine wp_iald (pc := 75) d_M_tellState_75 (zk_188 L) (by omega) (by omega) ?_
      rw [t1]
      have hy := hx.2.2.2 c61
      refine wp_callV2f (pc := 76) d_M_tellState_76 rfl rfl (zk_174 L) rfl rfl (c_M_farNow h hd hs.1 x0 x1 (by omega) (by omega)) ?_
      refine wp_ireturn (pc := 79) d_M_tellState_79 rfl ?_
      refine ⟨?_, rfl⟩
      unfold uDe
      rw [if_neg (show ¬ w = 0 by omega)]
      rw [if_neg (show ¬ w = 1 by omega)]
      rw [if_neg (show ¬ w = 2 by omega)]
      rw [if_pos (show w = 3 by omega)]
      first
      | rw [hy.2.2]
      | rw [(hx.2.2.1 (by omega)).2]
    · refine wp_iconst (pc := 64) d_M_tellState_64 rfl ?_
      refine wp_goto (tgt := 79) (pc := 65) d_M_tellState_65 rfl ?_
      refine wp_ireturn (pc := 79) d_M_tellState_79 rfl ?_
      refine ⟨?_, rfl⟩
      unfold uDe
      rw [if_neg (show ¬ w = 0 by omega)]
      rw [if_neg (show ¬ w = 1 by omega)]
      rw [if_neg (show ¬ w = 2 by omega)]
      rw [if_pos (show w = 3 by omega)]
      first
      | rw [hy.2.2]
      | rw [(hx.2.2.1 (by omega)).2]
  · refine wp_tableI (tgt := 80) (off := 79) (pc := 1) d_M_tellState_1 (by omega) (by omega) (by rw [c1]; rfl) rfl ?_
    refine wp_aload_n (pc := 80) d_M_tellState_80 rfl ?_
    refine wp_iload_n (pc := 81) d_M_tellState_81 rfl ?_
    refine wp_callV1f (pc := 82) d_M_tellState_82 rfl rfl (zk_174 L) rfl rfl (c_M_above h hd hs x0 x1) ?_
    refine wp_ireturn (pc := 85) d_M_tellState_85 rfl ?_
    refine ⟨?_, rfl⟩
    unfold uDe
    rw [if_neg (show ¬ w = 0 by omega)]
    rw [if_neg (show ¬ w = 1 by omega)]
    rw [if_neg (show ¬ w = 2 by omega)]
    rw [if_neg (show ¬ w = 3 by omega)]
    rw [if_pos (show w = 4 by omega)]
  · refine wp_tableI (tgt := 86) (off := 85) (pc := 1) d_M_tellState_1 (by omega) (by omega) (by rw [c1]; rfl) rfl ?_
    refine wp_aload_n (pc := 86) d_M_tellState_86 rfl ?_
    refine wp_iload_n (pc := 87) d_M_tellState_87 rfl ?_
    refine wp_callV1f (pc := 88) d_M_tellState_88 rfl rfl (zk_174 L) rfl rfl (c_M_turnedMany h hd hs x0 x1) ?_
    refine wp_ireturn (pc := 91) d_M_tellState_91 rfl ?_
    refine ⟨?_, rfl⟩
    unfold uDe
    rw [if_neg (show ¬ w = 0 by omega)]
    rw [if_neg (show ¬ w = 1 by omega)]
    rw [if_neg (show ¬ w = 2 by omega)]
    rw [if_neg (show ¬ w = 3 by omega)]
    rw [if_neg (show ¬ w = 4 by omega)]
    rw [if_pos (show w = 5 by omega)]
theorem c_M_statesNow (h : mH M D) (hd : mDi D) (w0 : 0 ≤ w) (w5 : w ≤ 5) : Ci L 7 zm_M_statesNow [rV 174, iV w] M (fun z M' => z = uDa D w ∧ mF mPl M M' ∧ mSt M' D) := by
  show wp L _ zm_M_statesNow 0 [rV 174, iV w] [] M _
  refine wp_aload_n (pc := 0) d_M_statesNow_0 rfl ?_
  refine wp_callV0v (pc := 1) d_M_statesNow_1 rfl rfl (zk_174 L) rfl rfl (c_M_layStates h hd) (fun M1 h1 => ?_)
  obtain ⟨k1, hs⟩ := h1
  have h1 : mH M1 D := h.keep k1 (by omega) (by omega) (by omega)
  have hd1 := hd.1
  have hn := uN_m hd
  have hp := hd.pl
  have e20 : M1 174 20 = uN D := hs.1.1
  refine wp_iload_n (pc := 4) d_M_statesNow_4 rfl ?_
  rcases zsw5 0 w with c5 | c5 | c5 | c5 | c5 | c5
  · refine wp_tableO (tgt := 65) (pc := 5) d_M_statesNow_5 (by omega) rfl ?_
    refine wp_aload_n (pc := 65) d_M_statesNow_65 rfl ?_
    refine wp_callV0f (pc := 66) d_M_statesNow_66 rfl rfl (zk_174 L) rfl rfl (c_M_childless h1 hd hs) ?_
    refine wp_ireturn (pc := 69) d_M_statesNow_69 rfl ?_
    refine ⟨_, rfl, ?_, k1, hs⟩
    unfold uDa
    rw [if_neg (show ¬ w = 0 by omega)]
    rw [if_neg (show ¬ w = 1 by omega)]
    rw [if_neg (show ¬ w = 2 by omega)]
    rw [if_neg (show ¬ w = 3 by omega)]
    rw [if_neg (show ¬ w = 4 by omega)]
  · refine wp_tableI (tgt := 40) (off := 35) (pc := 5) d_M_statesNow_5 (by omega) (by omega) (by rw [c5]; rfl) rfl ?_
    refine wp_aload_n (pc := 40) d_M_statesNow_40 rfl ?_
    refine wp_getI (pc := 41) d_M_statesNow_41 rfl (by decide) (zk_174 L) ?_
    refine wp_ireturn (pc := 44) d_M_statesNow_44 rfl ?_
    refine ⟨_, rfl, ?_, k1, hs⟩
    unfold uDa
    rw [if_pos (show w = 0 by omega)]
    exact e20
  · refine wp_tableI (tgt := 45) (off := 40) (pc := 5) d_M_statesNow_5 (by omega) (by omega) (by rw [c5]; rfl) rfl ?_
    refine wp_aload_n (pc := 45) d_M_statesNow_45 rfl ?_
    refine wp_callV0f (pc := 46) d_M_statesNow_46 rfl rfl (zk_174 L) rfl rfl (c_M_outMany h1 hd hs) ?_
    refine wp_ireturn (pc := 49) d_M_statesNow_49 rfl ?_
    refine ⟨_, rfl, ?_, k1, hs⟩
    unfold uDa
    rw [if_neg (show ¬ w = 0 by omega)]
    rw [if_pos (show w = 1 by omega)]
  · refine wp_tableI (tgt := 50) (off := 45) (pc := 5) d_M_statesNow_5 (by omega) (by omega) (by rw [c5]; rfl) rfl ?_
    refine wp_aload_n (pc := 50) d_M_statesNow_50 rfl ?_
    refine wp_callV0f (pc := 51) d_M_statesNow_51 rfl rfl (zk_174 L) rfl rfl (c_M_changes h1 hd hs) ?_
    refine wp_ireturn (pc := 54) d_M_statesNow_54 rfl ?_
    refine ⟨_, rfl, ?_, k1, hs⟩
    unfold uDa
    rw [if_neg (show ¬ w = 0 by omega)]
    rw [if_neg (show ¬ w = 1 by omega)]
    rw [if_pos (show w = 2 by omega)]
  · refine wp_tableI (tgt := 55) (off := 50) (pc := 5) d_M_statesNow_5 (by omega) (by omega) (by rw [c5]; rfl) rfl ?_
    refine wp_aload_n (pc := 55) d_M_statesNow_55 rfl ?_
    refine wp_callV0f (pc := 56) d_M_statesNow_56 rfl rfl (zk_174 L) rfl rfl (c_M_unlikePlaces h1 hd hs) ?_
    refine wp_ireturn (pc := 59) d_M_statesNow_59 rfl ?_
    refine ⟨_, rfl, ?_, k1, hs⟩
    unfold uDa
    rw [if_neg (show ¬ w = 0 by omega)]
    rw [if_neg (show ¬ w = 1 by omega)]
    rw [if_neg (show ¬ w = 2 by omega)]
    rw [if_pos (show w = 3 by omega)]
  · refine wp_tableI (tgt := 60) (off := 55) (pc := 5) d_M_statesNow_5 (by omega) (by omega) (by rw [c5]; rfl) rfl ?_
    refine wp_aload_n (pc := 60) d_M_statesNow_60 rfl ?_
    refine wp_callV0f (pc := 61) d_M_statesNow_61 rfl rfl (zk_174 L) rfl rfl (c_M_turnedAll h1 hd hs) ?_
    refine wp_ireturn (pc := 64) d_M_statesNow_64 rfl ?_
    refine ⟨_, rfl, ?_, k1, hs⟩
    unfold uDa
    rw [if_neg (show ¬ w = 0 by omega)]
    rw [if_neg (show ¬ w = 1 by omega)]
    rw [if_neg (show ¬ w = 2 by omega)]
    rw [if_neg (show ¬ w = 3 by omega)]
    rw [if_pos (show w = 4 by omega)]
theorem c_M_states (h : mH M D) (hd : mDi D) : Ci L 8 zm_M_states [rV 174, iV w] M (fun z M' => z = xSs D w ∧ mF mPq M M') := by
  show wp L _ zm_M_states 0 [rV 174, iV w] [] M _
  refine wp_iload_n (pc := 0) d_M_states_0 rfl ?_
  refine wp_iconst (pc := 1) d_M_states_1 rfl ?_
  refine wp_iconst (pc := 2) d_M_states_2 rfl ?_
  refine wp_callS3f (pc := 3) d_M_states_3 rfl rfl rfl rfl rfl c_M_within ?_
  refine wp_if_eq (tgt := 17) (pc := 6) d_M_states_6 rfl (fun c6 => ?_) (fun c6 => ?_)
  · have c6 := zb_eq0 c6
    refine wp_bipush (pc := 17) d_M_states_17 rfl ?_
    refine wp_ireturn (pc := 19) d_M_states_19 rfl ?_
    first
    | exact ⟨_, rfl, by unfold xSs; rw [if_pos c6]; exact h11.1, h11.2.1.up (fun a k z => by omega)⟩
    | exact ⟨_, rfl, by unfold xSs; rw [if_neg c6], mF.rf⟩
  · have c6 := zb_ne0 c6
    refine wp_aload_n (pc := 9) d_M_states_9 rfl ?_
    refine wp_iload_n (pc := 10) d_M_states_10 rfl ?_
    refine wp_callV1i (pc := 11) d_M_states_11 rfl rfl (zk_174 L) rfl rfl (c_M_statesNow h hd c6.1 c6.2) (fun x11 M11 h11 => ?_)
    refine wp_goto (tgt := 19) (pc := 14) d_M_states_14 rfl ?_
    refine wp_ireturn (pc := 19) d_M_states_19 rfl ?_
    first
    | exact ⟨_, rfl, by unfold xSs; rw [if_pos c6]; exact h11.1, h11.2.1.up (fun a k z => by omega)⟩
    | exact ⟨_, rfl, by unfold xSs; rw [if_neg c6], mF.rf⟩
theorem c_M_copyNow (h : mH M D) (hd : mDi D) (c0 : 0 ≤ c) (c1 : c < D.2.2.2) (w0 : 0 ≤ w) (w4 : w ≤ 4) : Ci L 7 zm_M_copyNow [rV 174, iV c, iV w] M (fun z M' => z = uCp D c w ∧ mF mPl M M' ∧ mSt M' D) := by
  show wp L _ zm_M_copyNow 0 [rV 174, iV c, iV w] [] M _
  refine wp_aload_n (pc := 0) d_M_copyNow_0 rfl ?_
  refine wp_callV0v (pc := 1) d_M_copyNow_1 rfl rfl (zk_174 L) rfl rfl (c_M_layStates h hd) (fun M1 h1 => ?_)
  obtain ⟨k1, hs⟩ := h1
  have h1 : mH M1 D := h.keep k1 (by omega) (by omega) (by omega)
  have hd1 := hd.1
  have hn := uN_m hd
  have hp := hd.pl
  have e20 : M1 174 20 = uN D := hs.1.1
  have hc := hs.1.2.2.1 c c0 (by omega)
  refine wp_iload_n (pc := 4) d_M_copyNow_4 rfl ?_
  refine wp_if_ne (tgt := 15) (pc := 5) d_M_copyNow_5 rfl (fun c5 => ?_) (fun c5 => ?_)
  · refine wp_aload_n (pc := 15) d_M_copyNow_15 rfl ?_
    refine wp_getR (pc := 16) d_M_copyNow_16 rfl (zk_174 L) zx_174_19 ?_
    refine wp_iload_n (pc := 19) d_M_copyNow_19 rfl ?_
    refine wp_bald (pc := 20) d_M_copyNow_20 (zk_185 L) (by omega) (by omega) ?_
    rw [hc.2]
    refine wp_if_eq (tgt := 26) (pc := 21) d_M_copyNow_21 rfl (fun c21 => ?_) (fun c21 => ?_)
    · have c21 := zc_eq0 c21
      refine wp_iload_n (pc := 26) d_M_copyNow_26 rfl ?_
      refine wp_iconst (pc := 27) d_M_copyNow_27 rfl ?_
      refine wp_icmp_ne (tgt := 40) (pc := 28) d_M_copyNow_28 rfl (fun c28 => ?_) (fun c28 => ?_)
      · refine wp_iload_n (pc := 40) d_M_copyNow_40 rfl ?_
        refine wp_iconst (pc := 41) d_M_copyNow_41 rfl ?_
        refine wp_icmp_ne (tgt := 53) (pc := 42) d_M_copyNow_42 rfl (fun c42 => ?_) (fun c42 => ?_)
        · refine wp_iload_n (pc := 53) d_M_copyNow_53 rfl ?_
          refine wp_iconst (pc := 54) d_M_copyNow_54 rfl ?_
          refine wp_icmp_ne (tgt := 66) (pc := 55) d_M_copyNow_55 rfl (fun c55 => ?_) (fun c55 => ?_)
          · refine wp_aload_n (pc := 66) d_M_copyNow_66 rfl ?_
            refine wp_iload_n (pc := 67) d_M_copyNow_67 rfl ?_
            refine wp_callV1f (pc := 68) d_M_copyNow_68 rfl rfl (zk_174 L) rfl rfl (c_M_otherReadings h1 hd hs c0 c1 c21) ?_
            refine wp_ireturn (pc := 71) d_M_copyNow_71 rfl ?_
            have cz : ¬ ¬ uIn D 0 c := fun z => z c21
            first
            | exact ⟨_, rfl, by unfold uCp; rw [if_neg (by omega), if_neg cz, if_pos (by omega)]; exact hc.1, k1, hs⟩
            | exact ⟨_, rfl, by unfold uCp; rw [if_neg (by omega), if_neg cz, if_neg (by omega), if_pos (by omega)]; exact h47.1, k1.tr (h47.2.up (fun a k z => by omega)), hs.keep hd h47.2 (by omega) (by omega)⟩
            | exact ⟨_, rfl, by unfold uCp; rw [if_neg (by omega), if_neg cz, if_neg (by omega), if_neg (by omega), if_pos (by omega)]; exact h60.1, k1.tr (h60.2.up (fun a k z => by omega)), hs.keep hd h60.2 (by omega) (by omega)⟩
            | exact ⟨_, rfl, by unfold uCp; rw [if_neg (by omega), if_neg cz, if_neg (by omega), if_neg (by omega), if_neg (by omega)], k1, hs⟩
          · refine wp_aload_n (pc := 58) d_M_copyNow_58 rfl ?_
            refine wp_iload_n (pc := 59) d_M_copyNow_59 rfl ?_
            refine wp_callV1i (pc := 60) d_M_copyNow_60 rfl rfl (zk_174 L) rfl rfl (c_M_moreOf h1 hd c0 c1 c21) (fun x60 M60 h60 => ?_)
            refine wp_goto (tgt := 71) (pc := 63) d_M_copyNow_63 rfl ?_
            refine wp_ireturn (pc := 71) d_M_copyNow_71 rfl ?_
            have cz : ¬ ¬ uIn D 0 c := fun z => z c21
            first
            | exact ⟨_, rfl, by unfold uCp; rw [if_neg (by omega), if_neg cz, if_pos (by omega)]; exact hc.1, k1, hs⟩
            | exact ⟨_, rfl, by unfold uCp; rw [if_neg (by omega), if_neg cz, if_neg (by omega), if_pos (by omega)]; exact h47.1, k1.tr (h47.2.up (fun a k z => by omega)), hs.keep hd h47.2 (by omega) (by omega)⟩
            | exact ⟨_, rfl, by unfold uCp; rw [if_neg (by omega), if_neg cz, if_neg (by omega), if_neg (by omega), if_pos (by omega)]; exact h60.1, k1.tr (h60.2.up (fun a k z => by omega)), hs.keep hd h60.2 (by omega) (by omega)⟩
            | exact ⟨_, rfl, by unfold uCp; rw [if_neg (by omega), if_neg cz, if_neg (by omega), if_neg (by omega), if_neg (by omega)], k1, hs⟩
        · refine wp_aload_n (pc := 45) d_M_copyNow_45 rfl ?_
          refine wp_iload_n (pc := 46) d_M_copyNow_46 rfl ?_
          refine wp_callV1i (pc := 47) d_M_copyNow_47 rfl rfl (zk_174 L) rfl rfl (c_M_costOf h1 hd c0 c1 c21) (fun x47 M47 h47 => ?_)
          refine wp_goto (tgt := 71) (pc := 50) d_M_copyNow_50 rfl ?_
          refine wp_ireturn (pc := 71) d_M_copyNow_71 rfl ?_
          have cz : ¬ ¬ uIn D 0 c := fun z => z c21
          first
          | exact ⟨_, rfl, by unfold uCp; rw [if_neg (by omega), if_neg cz, if_pos (by omega)]; exact hc.1, k1, hs⟩
          | exact ⟨_, rfl, by unfold uCp; rw [if_neg (by omega), if_neg cz, if_neg (by omega), if_pos (by omega)]; exact h47.1, k1.tr (h47.2.up (fun a k z => by omega)), hs.keep hd h47.2 (by omega) (by omega)⟩
          | exact ⟨_, rfl, by unfold uCp; rw [if_neg (by omega), if_neg cz, if_neg (by omega), if_neg (by omega), if_pos (by omega)]; exact h60.1, k1.tr (h60.2.up (fun a k z => by omega)), hs.keep hd h60.2 (by omega) (by omega)⟩
          | exact ⟨_, rfl, by unfold uCp; rw [if_neg (by omega), if_neg cz, if_neg (by omega), if_neg (by omega), if_neg (by omega)], k1, hs⟩
      · refine wp_aload_n (pc := 31) d_M_copyNow_31 rfl ?_
        refine wp_getR (pc := 32) d_M_copyNow_32 rfl (zk_174 L) zx_174_21 ?_
        refine wp_iload_n (pc := 35) d_M_copyNow_35 rfl ?_
        refine wp_iald (pc := 36) d_M_copyNow_36 (zk_186 L) (by omega) (by omega) ?_
        refine wp_goto (tgt := 71) (pc := 37) d_M_copyNow_37 rfl ?_
        refine wp_ireturn (pc := 71) d_M_copyNow_71 rfl ?_
        have cz : ¬ ¬ uIn D 0 c := fun z => z c21
        first
        | exact ⟨_, rfl, by unfold uCp; rw [if_neg (by omega), if_neg cz, if_pos (by omega)]; exact hc.1, k1, hs⟩
        | exact ⟨_, rfl, by unfold uCp; rw [if_neg (by omega), if_neg cz, if_neg (by omega), if_pos (by omega)]; exact h47.1, k1.tr (h47.2.up (fun a k z => by omega)), hs.keep hd h47.2 (by omega) (by omega)⟩
        | exact ⟨_, rfl, by unfold uCp; rw [if_neg (by omega), if_neg cz, if_neg (by omega), if_neg (by omega), if_pos (by omega)]; exact h60.1, k1.tr (h60.2.up (fun a k z => by omega)), hs.keep hd h60.2 (by omega) (by omega)⟩
        | exact ⟨_, rfl, by unfold uCp; rw [if_neg (by omega), if_neg cz, if_neg (by omega), if_neg (by omega), if_neg (by omega)], k1, hs⟩
    · have c21 := zc_ne0 c21
      refine wp_iconst (pc := 24) d_M_copyNow_24 rfl ?_
      refine wp_ireturn (pc := 25) d_M_copyNow_25 rfl ?_
      exact ⟨_, rfl, by unfold uCp; rw [if_neg (by omega), if_pos c21], k1, hs⟩
  · refine wp_aload_n (pc := 8) d_M_copyNow_8 rfl ?_
    refine wp_getR (pc := 9) d_M_copyNow_9 rfl (zk_174 L) zx_174_3 ?_
    refine wp_iload_n (pc := 12) d_M_copyNow_12 rfl ?_
    refine wp_iald (pc := 13) d_M_copyNow_13 (zk_176 L) (by omega) (by omega) ?_
    refine wp_ireturn (pc := 14) d_M_copyNow_14 rfl ?_
    exact ⟨_, rfl, by unfold uCp; rw [if_pos (by omega)]; exact (h1.2.2 c c0 c1).1, k1, hs⟩
theorem c_M_of (h : mH M D) (hd : mDi D) : Ci L 8 zm_M_of [rV 174, iV c, iV w] M (fun z M' => z = xOf D c w ∧ mF mPq M M') := by
  show wp L _ zm_M_of 0 [rV 174, iV c, iV w] [] M _
  refine wp_aload_n (pc := 0) d_M_of_0 rfl ?_
  refine wp_iload_n (pc := 1) d_M_of_1 rfl ?_
  refine wp_callV1f (pc := 2) d_M_of_2 rfl rfl (zk_174 L) rfl rfl (c_M_isCopy h hd) ?_
  refine wp_if_ne (tgt := 11) (pc := 5) d_M_of_5 rfl (fun c5 => ?_) (fun c5 => ?_)
  · have c5 := zb_ne0 c5
    refine wp_iload_n (pc := 11) d_M_of_11 rfl ?_
    refine wp_iconst (pc := 12) d_M_of_12 rfl ?_
    refine wp_iconst (pc := 13) d_M_of_13 rfl ?_
    refine wp_callS3f (pc := 14) d_M_of_14 rfl rfl rfl rfl rfl c_M_within ?_
    refine wp_if_eq (tgt := 29) (pc := 17) d_M_of_17 rfl (fun c17 => ?_) (fun c17 => ?_)
    · have c17 := zb_eq0 c17
      refine wp_bipush (pc := 29) d_M_of_29 rfl ?_
      refine wp_ireturn (pc := 31) d_M_of_31 rfl ?_
      first
      | exact ⟨_, rfl, by unfold xOf; rw [if_pos c5, if_pos c17]; exact h23.1, h23.2.1.up (fun a k z => by omega)⟩
      | exact ⟨_, rfl, by unfold xOf; rw [if_pos c5, if_neg c17], mF.rf⟩
    · have c17 := zb_ne0 c17
      refine wp_aload_n (pc := 20) d_M_of_20 rfl ?_
      refine wp_iload_n (pc := 21) d_M_of_21 rfl ?_
      refine wp_iload_n (pc := 22) d_M_of_22 rfl ?_
      refine wp_callV2i (pc := 23) d_M_of_23 rfl rfl (zk_174 L) rfl rfl (c_M_copyNow h hd c5.1 c5.2 c17.1 c17.2) (fun x23 M23 h23 => ?_)
      refine wp_goto (tgt := 31) (pc := 26) d_M_of_26 rfl ?_
      refine wp_ireturn (pc := 31) d_M_of_31 rfl ?_
      first
      | exact ⟨_, rfl, by unfold xOf; rw [if_pos c5, if_pos c17]; exact h23.1, h23.2.1.up (fun a k z => by omega)⟩
      | exact ⟨_, rfl, by unfold xOf; rw [if_pos c5, if_neg c17], mF.rf⟩
  · have c5 := zb_eq0 (Decidable.of_not_not c5)
    refine wp_bipush (pc := 8) d_M_of_8 rfl ?_
    refine wp_ireturn (pc := 10) d_M_of_10 rfl ?_
    exact ⟨_, rfl, by unfold xOf; rw [if_neg c5], mF.rf⟩
theorem c_M_sign (h : mH M D) (hd : mDi D) : Ci L 2 zm_M_sign [rV 174, iV c, iV p] M (fun z M' => z = xSg D c p ∧ M' = M) := by
  show wp L _ zm_M_sign 0 [rV 174, iV c, iV p] [] M _
  refine wp_aload_n (pc := 0) d_M_sign_0 rfl ?_
  refine wp_iload_n (pc := 1) d_M_sign_1 rfl ?_
  refine wp_callV1f (pc := 2) d_M_sign_2 rfl rfl (zk_174 L) rfl rfl (c_M_isCopy h hd) ?_
  refine wp_if_eq (tgt := 33) (pc := 5) d_M_sign_5 rfl (fun c5 => ?_) (fun c5 => ?_)
  · have c5 := zb_eq0 c5
    refine wp_bipush (pc := 33) d_M_sign_33 rfl ?_
    refine wp_ireturn (pc := 35) d_M_sign_35 rfl ?_
    first
    | exact ⟨_, rfl, by unfold xSg; rw [if_pos (by omega)], rfl⟩
    | exact ⟨_, rfl, by unfold xSg; rw [if_neg (by omega)], rfl⟩
  · have c5 := zb_ne0 c5
    have hd1 := hd.1
    have el := (h.2.2 c c5.1 c5.2).1
    have ll := hd.l c5.1 c5.2
    refine wp_iload_n (pc := 8) d_M_sign_8 rfl ?_
    refine wp_iconst (pc := 9) d_M_sign_9 rfl ?_
    refine wp_aload_n (pc := 10) d_M_sign_10 rfl ?_
    refine wp_getR (pc := 11) d_M_sign_11 rfl (zk_174 L) zx_174_3 ?_
    refine wp_iload_n (pc := 14) d_M_sign_14 rfl ?_
    refine wp_iald (pc := 15) d_M_sign_15 (zk_176 L) (by omega) (by omega) ?_
    rw [el]
    refine wp_iconst (pc := 16) d_M_sign_16 rfl ?_
    refine wp_isub (pc := 17) d_M_sign_17 (by omega) (by omega) ?_
    refine wp_callS3f (pc := 18) d_M_sign_18 rfl rfl rfl rfl rfl c_M_within ?_
    refine wp_if_eq (tgt := 33) (pc := 21) d_M_sign_21 rfl (fun c21 => ?_) (fun c21 => ?_)
    · have c21 := zb_eq0 c21
      refine wp_bipush (pc := 33) d_M_sign_33 rfl ?_
      refine wp_ireturn (pc := 35) d_M_sign_35 rfl ?_
      first
      | exact ⟨_, rfl, by unfold xSg; rw [if_pos (by omega)], rfl⟩
      | exact ⟨_, rfl, by unfold xSg; rw [if_neg (by omega)], rfl⟩
    · have c21 := zb_ne0 c21
      refine wp_aload_n (pc := 24) d_M_sign_24 rfl ?_
      refine wp_iload_n (pc := 25) d_M_sign_25 rfl ?_
      refine wp_iload_n (pc := 26) d_M_sign_26 rfl ?_
      refine wp_callV2f (pc := 27) d_M_sign_27 rfl rfl (zk_174 L) rfl rfl (c_M_letterAt h hd c5.1 c5.2 c21.1 (by omega)) ?_
      refine wp_goto (tgt := 35) (pc := 30) d_M_sign_30 rfl ?_
      refine wp_ireturn (pc := 35) d_M_sign_35 rfl ?_
      first
      | exact ⟨_, rfl, by unfold xSg; rw [if_pos (by omega)], rfl⟩
      | exact ⟨_, rfl, by unfold xSg; rw [if_neg (by omega)], rfl⟩
theorem c_M_reading (h : mH M D) (hd : mDi D) : Ci L 6 zm_M_reading [rV 174, iV c, iV p] M (fun z M' => z = xRd D c p ∧ mF mPq M M') := by
  show wp L _ zm_M_reading 0 [rV 174, iV c, iV p] [] M _
  refine wp_aload_n (pc := 0) d_M_reading_0 rfl ?_
  refine wp_iload_n (pc := 1) d_M_reading_1 rfl ?_
  refine wp_callV1f (pc := 2) d_M_reading_2 rfl rfl (zk_174 L) rfl rfl (c_M_isCopy h hd) ?_
  refine wp_if_eq (tgt := 22) (pc := 5) d_M_reading_5 rfl (fun c5 => ?_) (fun c5 => ?_)
  · have c5 := zb_eq0 c5
    refine wp_bipush (pc := 22) d_M_reading_22 rfl ?_
    refine wp_ireturn (pc := 24) d_M_reading_24 rfl ?_
    first
    | exact ⟨_, rfl, by unfold xRd; rw [if_neg (fun z => c19 (by omega))], mF.rf⟩
    | exact ⟨_, rfl, by unfold xRd; rw [if_neg (fun z => c5 z.1)], mF.rf⟩
  · have c5 := zb_ne0 c5
    have hd1 := hd.1
    have hp := hd.pl
    refine wp_iload_n (pc := 8) d_M_reading_8 rfl ?_
    refine wp_iconst (pc := 9) d_M_reading_9 rfl ?_
    refine wp_aload_n (pc := 10) d_M_reading_10 rfl ?_
    refine wp_callV0f (pc := 11) d_M_reading_11 rfl rfl (zk_174 L) rfl rfl (c_M_places h hd) ?_
    refine wp_iconst (pc := 14) d_M_reading_14 rfl ?_
    refine wp_isub (pc := 15) d_M_reading_15 (by omega) (by omega) ?_
    refine wp_callS3f (pc := 16) d_M_reading_16 rfl rfl rfl rfl rfl c_M_within ?_
    refine wp_if_ne (tgt := 25) (pc := 19) d_M_reading_19 rfl (fun c19 => ?_) (fun c19 => ?_)
    · have c19 := zb_ne0 c19
      refine wp_aload_n (pc := 25) d_M_reading_25 rfl ?_
      refine wp_iload_n (pc := 26) d_M_reading_26 rfl ?_
      refine wp_callV1v (pc := 27) d_M_reading_27 rfl rfl (zk_174 L) rfl rfl (c_M_layReading h hd c5.1 c5.2) (fun M27 h27 => ?_)
      obtain ⟨r1, r2, r3, r4⟩ := h27
      refine wp_aload_n (pc := 30) d_M_reading_30 rfl ?_
      refine wp_getR (pc := 31) d_M_reading_31 rfl (zk_174 L) zx_174_19 ?_
      refine wp_iload_n (pc := 34) d_M_reading_34 rfl ?_
      refine wp_bald (pc := 35) d_M_reading_35 (zk_185 L) (by omega) (by omega) ?_
      rw [r3]
      refine wp_if_eq (tgt := 44) (pc := 36) d_M_reading_36 rfl (fun c36 => ?_) (fun c36 => ?_)
      · have c36 := zc_eq0 c36
        refine wp_aload_n (pc := 44) d_M_reading_44 rfl ?_
        refine wp_getR (pc := 45) d_M_reading_45 rfl (zk_174 L) zx_174_18 ?_
        refine wp_bipush (pc := 48) d_M_reading_48 rfl ?_
        refine wp_iload_n (pc := 50) d_M_reading_50 rfl ?_
        refine wp_imul (pc := 51) d_M_reading_51 (by omega) (by omega) ?_
        refine wp_iload_n (pc := 52) d_M_reading_52 rfl ?_
        refine wp_iadd (pc := 53) d_M_reading_53 (by omega) (by omega) ?_
        refine wp_iald (pc := 54) d_M_reading_54 (zk_184 L) (by omega) (by omega) ?_
        refine wp_ireturn (pc := 55) d_M_reading_55 rfl ?_
        first
        | exact ⟨_, rfl, by unfold xRd; rw [if_pos ⟨c5, by omega⟩, if_neg c36], r1.up (fun a k z => by omega)⟩
        | exact ⟨_, rfl, by unfold xRd; rw [if_pos ⟨c5, by omega⟩, if_pos c36]; exact r4 c36 p (by omega) (by omega), r1.up (fun a k z => by omega)⟩
      · have c36 := zc_ne0 c36
        refine wp_bipush (pc := 39) d_M_reading_39 rfl ?_
        refine wp_goto (tgt := 55) (pc := 41) d_M_reading_41 rfl ?_
        refine wp_ireturn (pc := 55) d_M_reading_55 rfl ?_
        first
        | exact ⟨_, rfl, by unfold xRd; rw [if_pos ⟨c5, by omega⟩, if_neg c36], r1.up (fun a k z => by omega)⟩
        | exact ⟨_, rfl, by unfold xRd; rw [if_pos ⟨c5, by omega⟩, if_pos c36]; exact r4 c36 p (by omega) (by omega), r1.up (fun a k z => by omega)⟩
    · have c19 := zb_eq0 (Decidable.of_not_not c19)
      refine wp_bipush (pc := 22) d_M_reading_22 rfl ?_
      refine wp_ireturn (pc := 24) d_M_reading_24 rfl ?_
      first
      | exact ⟨_, rfl, by unfold xRd; rw [if_neg (fun z => c19 (by omega))], mF.rf⟩
      | exact ⟨_, rfl, by unfold xRd; rw [if_neg (fun z => c5 z.1)], mF.rf⟩
theorem c_M_stateNow (h : mH M D) (hd : mDi D) : Ci L 7 zm_M_stateNow [rV 174, iV s, iV w] M (fun z M' => z = xSe D s w ∧ mF mPq M M') := by
  show wp L _ zm_M_stateNow 0 [rV 174, iV s, iV w] [] M _
  refine wp_aload_n (pc := 0) d_M_stateNow_0 rfl ?_
  refine wp_callV0v (pc := 1) d_M_stateNow_1 rfl rfl (zk_174 L) rfl rfl (c_M_layStates h hd) (fun M1 h1 => ?_)
  obtain ⟨k1, hs⟩ := h1
  have h1 : mH M1 D := h.keep k1 (by omega) (by omega) (by omega)
  have hd1 := hd.1
  have hn := uN_m hd
  have hp := hd.pl
  have e20 : M1 174 20 = uN D := hs.1.1
  refine wp_iload_n (pc := 4) d_M_stateNow_4 rfl ?_
  refine wp_iconst (pc := 5) d_M_stateNow_5 rfl ?_
  refine wp_aload_n (pc := 6) d_M_stateNow_6 rfl ?_
  refine wp_getI (pc := 7) d_M_stateNow_7 rfl (by decide) (zk_174 L) ?_
  refine wp_iconst (pc := 10) d_M_stateNow_10 rfl ?_
  refine wp_isub (pc := 11) d_M_stateNow_11 (by omega) (by omega) ?_
  refine wp_callS3f (pc := 12) d_M_stateNow_12 rfl rfl rfl rfl rfl c_M_within ?_
  refine wp_if_ne (tgt := 21) (pc := 15) d_M_stateNow_15 rfl (fun c15 => ?_) (fun c15 => ?_)
  · have c15 := zb_ne0 c15
    refine wp_iload_n (pc := 21) d_M_stateNow_21 rfl ?_
    refine wp_iconst (pc := 22) d_M_stateNow_22 rfl ?_
    refine wp_bipush (pc := 23) d_M_stateNow_23 rfl ?_
    refine wp_callS3f (pc := 25) d_M_stateNow_25 rfl rfl rfl rfl rfl c_M_within ?_
    refine wp_if_eq (tgt := 40) (pc := 28) d_M_stateNow_28 rfl (fun c28 => ?_) (fun c28 => ?_)
    · have c28 := zb_eq0 c28
      refine wp_bipush (pc := 40) d_M_stateNow_40 rfl ?_
      refine wp_ireturn (pc := 42) d_M_stateNow_42 rfl ?_
      first
      | exact ⟨_, rfl, by unfold xSe; rw [if_pos (by omega), if_pos c28], k1.up (fun a k z => by omega)⟩
      | exact ⟨_, rfl, by unfold xSe; rw [if_pos (by omega), if_neg c28], k1.up (fun a k z => by omega)⟩
    · have c28 := zb_ne0 c28
      refine wp_aload_n (pc := 31) d_M_stateNow_31 rfl ?_
      refine wp_iload_n (pc := 32) d_M_stateNow_32 rfl ?_
      refine wp_iload_n (pc := 33) d_M_stateNow_33 rfl ?_
      refine wp_callV2f (pc := 34) d_M_stateNow_34 rfl rfl (zk_174 L) rfl rfl (c_M_tellState h1 hd hs (by omega) (by omega) c28.1 c28.2) ?_
      refine wp_goto (tgt := 42) (pc := 37) d_M_stateNow_37 rfl ?_
      refine wp_ireturn (pc := 42) d_M_stateNow_42 rfl ?_
      first
      | exact ⟨_, rfl, by unfold xSe; rw [if_pos (by omega), if_pos c28], k1.up (fun a k z => by omega)⟩
      | exact ⟨_, rfl, by unfold xSe; rw [if_pos (by omega), if_neg c28], k1.up (fun a k z => by omega)⟩
  · have c15 := zb_eq0 (Decidable.of_not_not c15)
    refine wp_bipush (pc := 18) d_M_stateNow_18 rfl ?_
    refine wp_ireturn (pc := 20) d_M_stateNow_20 rfl ?_
    exact ⟨_, rfl, by unfold xSe; rw [if_neg (by omega)], k1.up (fun a k z => by omega)⟩
theorem c_M_state (h : mH M D) (hd : mDi D) : Ci L 8 zm_M_state [rV 174, iV s, iV w] M (fun z M' => z = xSe D s w ∧ mF mPq M M') := by
  show wp L _ zm_M_state 0 [rV 174, iV s, iV w] [] M _
  refine wp_aload_n (pc := 0) d_M_state_0 rfl ?_
  refine wp_iload_n (pc := 1) d_M_state_1 rfl ?_
  refine wp_iload_n (pc := 2) d_M_state_2 rfl ?_
  refine wp_callV2i (pc := 3) d_M_state_3 rfl rfl (zk_174 L) rfl rfl (c_M_stateNow h hd) (fun x3 M3 h3 => ?_)
  refine wp_ireturn (pc := 6) d_M_state_6 rfl ?_
  exact ⟨_, rfl, h3⟩
theorem c_M_far (h : mH M D) (hd : mDi D) : Ci L 7 zm_M_far [rV 174, iV x, iV y] M (fun z M' => z = xFa D x y ∧ mF mPq M M') := by
  show wp L _ zm_M_far 0 [rV 174, iV x, iV y] [] M _
  refine wp_aload_n (pc := 0) d_M_far_0 rfl ?_
  refine wp_callV0v (pc := 1) d_M_far_1 rfl rfl (zk_174 L) rfl rfl (c_M_layStates h hd) (fun M1 h1 => ?_)
  obtain ⟨k1, hs⟩ := h1
  have h1 : mH M1 D := h.keep k1 (by omega) (by omega) (by omega)
  have hd1 := hd.1
  have hn := uN_m hd
  have hp := hd.pl
  have e20 : M1 174 20 = uN D := hs.1.1
  refine wp_iload_n (pc := 4) d_M_far_4 rfl ?_
  refine wp_iconst (pc := 5) d_M_far_5 rfl ?_
  refine wp_aload_n (pc := 6) d_M_far_6 rfl ?_
  refine wp_getI (pc := 7) d_M_far_7 rfl (by decide) (zk_174 L) ?_
  refine wp_iconst (pc := 10) d_M_far_10 rfl ?_
  refine wp_isub (pc := 11) d_M_far_11 (by omega) (by omega) ?_
  refine wp_callS3f (pc := 12) d_M_far_12 rfl rfl rfl rfl rfl c_M_within ?_
  refine wp_if_eq (tgt := 41) (pc := 15) d_M_far_15 rfl (fun c15 => ?_) (fun c15 => ?_)
  · have c15 := zb_eq0 c15
    refine wp_bipush (pc := 41) d_M_far_41 rfl ?_
    refine wp_ireturn (pc := 43) d_M_far_43 rfl ?_
    first
    | exact ⟨_, rfl, by unfold xFa; rw [if_pos (by omega)], k1.up (fun a k z => by omega)⟩
    | exact ⟨_, rfl, by unfold xFa; rw [if_neg (by omega)], k1.up (fun a k z => by omega)⟩
  · have c15 := zb_ne0 c15
    refine wp_iload_n (pc := 18) d_M_far_18 rfl ?_
    refine wp_iconst (pc := 19) d_M_far_19 rfl ?_
    refine wp_aload_n (pc := 20) d_M_far_20 rfl ?_
    refine wp_getI (pc := 21) d_M_far_21 rfl (by decide) (zk_174 L) ?_
    refine wp_iconst (pc := 24) d_M_far_24 rfl ?_
    refine wp_isub (pc := 25) d_M_far_25 (by omega) (by omega) ?_
    refine wp_callS3f (pc := 26) d_M_far_26 rfl rfl rfl rfl rfl c_M_within ?_
    refine wp_if_eq (tgt := 41) (pc := 29) d_M_far_29 rfl (fun c29 => ?_) (fun c29 => ?_)
    · have c29 := zb_eq0 c29
      refine wp_bipush (pc := 41) d_M_far_41 rfl ?_
      refine wp_ireturn (pc := 43) d_M_far_43 rfl ?_
      first
      | exact ⟨_, rfl, by unfold xFa; rw [if_pos (by omega)], k1.up (fun a k z => by omega)⟩
      | exact ⟨_, rfl, by unfold xFa; rw [if_neg (by omega)], k1.up (fun a k z => by omega)⟩
    · have c29 := zb_ne0 c29
      refine wp_aload_n (pc := 32) d_M_far_32 rfl ?_
      refine wp_iload_n (pc := 33) d_M_far_33 rfl ?_
      refine wp_iload_n (pc := 34) d_M_far_34 rfl ?_
      refine wp_callV2f (pc := 35) d_M_far_35 rfl rfl (zk_174 L) rfl rfl (c_M_farNow h1 hd hs.1 (by omega) (by omega) (by omega) (by omega)) ?_
      refine wp_goto (tgt := 43) (pc := 38) d_M_far_38 rfl ?_
      refine wp_ireturn (pc := 43) d_M_far_43 rfl ?_
      first
      | exact ⟨_, rfl, by unfold xFa; rw [if_pos (by omega)], k1.up (fun a k z => by omega)⟩
      | exact ⟨_, rfl, by unfold xFa; rw [if_neg (by omega)], k1.up (fun a k z => by omega)⟩
theorem c_M_turned (h : mH M D) (hd : mDi D) : Ci L 7 zm_M_turned [rV 174, iV s, iV p] M (fun z M' => z = xTu D s p ∧ mF mPq M M') := by
  show wp L _ zm_M_turned 0 [rV 174, iV s, iV p, uV] [] M _
  refine wp_aload_n (pc := 0) d_M_turned_0 rfl ?_
  refine wp_callV0v (pc := 1) d_M_turned_1 rfl rfl (zk_174 L) rfl rfl (c_M_layStates h hd) (fun M1 h1 => ?_)
  obtain ⟨k1, hs⟩ := h1
  have h1 : mH M1 D := h.keep k1 (by omega) (by omega) (by omega)
  have hd1 := hd.1
  have hn := uN_m hd
  have hp := hd.pl
  have e20 : M1 174 20 = uN D := hs.1.1
  refine wp_iload_n (pc := 4) d_M_turned_4 rfl ?_
  refine wp_iconst (pc := 5) d_M_turned_5 rfl ?_
  refine wp_aload_n (pc := 6) d_M_turned_6 rfl ?_
  refine wp_getI (pc := 7) d_M_turned_7 rfl (by decide) (zk_174 L) ?_
  refine wp_iconst (pc := 10) d_M_turned_10 rfl ?_
  refine wp_isub (pc := 11) d_M_turned_11 (by omega) (by omega) ?_
  refine wp_callS3f (pc := 12) d_M_turned_12 rfl rfl rfl rfl rfl c_M_within ?_
  refine wp_if_eq (tgt := 36) (pc := 15) d_M_turned_15 rfl (fun c15 => ?_) (fun c15 => ?_)
  · have c15 := zb_eq0 c15
    refine wp_iconst (pc := 36) d_M_turned_36 rfl ?_
    refine wp_ist3 (pc := 37) d_M_turned_37 rfl ?_
    refine wp_iload_n (pc := 38) d_M_turned_38 rfl ?_
    refine wp_if_ne (tgt := 47) (pc := 39) d_M_turned_39 rfl (fun c39 => ?_) (fun c39 => ?_)
    · exact absurd c39 (by decide)
    · refine wp_bipush (pc := 42) d_M_turned_42 rfl ?_
      refine wp_goto (tgt := 61) (pc := 44) d_M_turned_44 rfl ?_
      refine wp_ireturn (pc := 61) d_M_turned_61 rfl ?_
      first
      | exact ⟨_, rfl, by unfold xTu; rw [if_neg (by omega)], k1.up (fun a k z => by omega)⟩
      | exact ⟨_, rfl, by unfold xTu; rw [if_pos (by omega), if_pos c53], k1.up (fun a k z => by omega)⟩
      | exact ⟨_, rfl, by unfold xTu; rw [if_pos (by omega), if_neg c53], k1.up (fun a k z => by omega)⟩
  · have c15 := zb_ne0 c15
    refine wp_iload_n (pc := 18) d_M_turned_18 rfl ?_
    refine wp_iconst (pc := 19) d_M_turned_19 rfl ?_
    refine wp_aload_n (pc := 20) d_M_turned_20 rfl ?_
    refine wp_callV0f (pc := 21) d_M_turned_21 rfl rfl (zk_174 L) rfl rfl (c_M_places h1 hd) ?_
    refine wp_iconst (pc := 24) d_M_turned_24 rfl ?_
    refine wp_isub (pc := 25) d_M_turned_25 (by omega) (by omega) ?_
    refine wp_callS3f (pc := 26) d_M_turned_26 rfl rfl rfl rfl rfl c_M_within ?_
    refine wp_if_eq (tgt := 36) (pc := 29) d_M_turned_29 rfl (fun c29 => ?_) (fun c29 => ?_)
    · have c29 := zb_eq0 c29
      refine wp_iconst (pc := 36) d_M_turned_36 rfl ?_
      refine wp_ist3 (pc := 37) d_M_turned_37 rfl ?_
      refine wp_iload_n (pc := 38) d_M_turned_38 rfl ?_
      refine wp_if_ne (tgt := 47) (pc := 39) d_M_turned_39 rfl (fun c39 => ?_) (fun c39 => ?_)
      · exact absurd c39 (by decide)
      · refine wp_bipush (pc := 42) d_M_turned_42 rfl ?_
        refine wp_goto (tgt := 61) (pc := 44) d_M_turned_44 rfl ?_
        refine wp_ireturn (pc := 61) d_M_turned_61 rfl ?_
        first
        | exact ⟨_, rfl, by unfold xTu; rw [if_neg (by omega)], k1.up (fun a k z => by omega)⟩
        | exact ⟨_, rfl, by unfold xTu; rw [if_pos (by omega), if_pos c53], k1.up (fun a k z => by omega)⟩
        | exact ⟨_, rfl, by unfold xTu; rw [if_pos (by omega), if_neg c53], k1.up (fun a k z => by omega)⟩
    · have c29 := zb_ne0 c29
      refine wp_iconst (pc := 32) d_M_turned_32 rfl ?_
      refine wp_goto (tgt := 37) (pc := 33) d_M_turned_33 rfl ?_
      refine wp_ist3 (pc := 37) d_M_turned_37 rfl ?_
      refine wp_iload_n (pc := 38) d_M_turned_38 rfl ?_
      refine wp_if_ne (tgt := 47) (pc := 39) d_M_turned_39 rfl (fun c39 => ?_) (fun c39 => ?_)
      · refine wp_aload_n (pc := 47) d_M_turned_47 rfl ?_
        refine wp_iload_n (pc := 48) d_M_turned_48 rfl ?_
        refine wp_iload_n (pc := 49) d_M_turned_49 rfl ?_
        refine wp_callV2f (pc := 50) d_M_turned_50 rfl rfl (zk_174 L) rfl rfl (c_M_isTurned h1 hd hs (by omega) (by omega) (by omega) (by omega)) ?_
        refine wp_if_eq (tgt := 60) (pc := 53) d_M_turned_53 rfl (fun c53 => ?_) (fun c53 => ?_)
        · refine wp_iconst (pc := 60) d_M_turned_60 rfl ?_
          refine wp_ireturn (pc := 61) d_M_turned_61 rfl ?_
          first
          | exact ⟨_, rfl, by unfold xTu; rw [if_neg (by omega)], k1.up (fun a k z => by omega)⟩
          | exact ⟨_, rfl, by unfold xTu; rw [if_pos (by omega), if_pos c53], k1.up (fun a k z => by omega)⟩
          | exact ⟨_, rfl, by unfold xTu; rw [if_pos (by omega), if_neg c53], k1.up (fun a k z => by omega)⟩
        · refine wp_iconst (pc := 56) d_M_turned_56 rfl ?_
          refine wp_goto (tgt := 61) (pc := 57) d_M_turned_57 rfl ?_
          refine wp_ireturn (pc := 61) d_M_turned_61 rfl ?_
          first
          | exact ⟨_, rfl, by unfold xTu; rw [if_neg (by omega)], k1.up (fun a k z => by omega)⟩
          | exact ⟨_, rfl, by unfold xTu; rw [if_pos (by omega), if_pos c53], k1.up (fun a k z => by omega)⟩
          | exact ⟨_, rfl, by unfold xTu; rw [if_pos (by omega), if_neg c53], k1.up (fun a k z => by omega)⟩
      · exact absurd c39 (by decide)
end ZM9
