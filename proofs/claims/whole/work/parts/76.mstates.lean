/-! the model's states, on: layStates -/
abbrev mPl (a k : Nat) : Prop := (182 ≤ a ∧ a < 190) ∨ a = 174 ∧ (k = 14 ∨ k = 16 ∨ k = 17 ∨ k = 20)
theorem zc_eq0 {P : Prop} [Decidable P] (h : (if P then (0 : Int) else 1) = 0) : P := by
  by_cases p : P
  · exact p
  · rw [if_neg p] at h; exact absurd h (by decide)
theorem zc_ne0 {P : Prop} [Decidable P] (h : ¬ (if P then (0 : Int) else 1) = 0) : ¬ P := fun p => h (if_pos p)
/-- the states are laid -/
def mSt (M : zM) (D : qDt) : Prop := mGs M D D.2.2.2.toNat ∧ ∀ s : Int, 0 ≤ s → s < uN D → M 188 s.toNat = (uT D).1 s ∧ M 189 s.toNat = (uT D).2.2 s
theorem mSt.keep {P : Nat → Nat → Prop} {M M' : zM} {D : qDt} (h : mSt M D) (hd : mDi D) (hf : mF P M M') (h1 : ¬ P 174 20) (h2 : ∀ a j, 184 ≤ a → a < 190 → ¬ P a j) : mSt M' D :=
  ⟨h.1.keep hd.pl.2 hf h1 (fun j => h2 _ j (by decide) (by decide)) (fun j _ => ⟨h2 _ j (by decide) (by decide), h2 _ j (by decide) (by decide)⟩) (fun j _ => h2 _ j (by decide) (by decide)), fun s s0 s1 => ⟨(hf _ _ (h2 _ _ (by decide) (by decide))).trans (h.2 s s0 s1).1, (hf _ _ (h2 _ _ (by decide) (by decide))).trans (h.2 s s0 s1).2⟩⟩
section ZM6
variable {L : Nat} {M : zM} {D : qDt} {Y : qYt} {g : qPt} {x y z w c p s i j : Int}
theorem lp_M_ls1 {M1 : zM} (h : mH M1 D) (hd : mDi D) {kk : Nat} (hg : mGs M1 D kk) (hk : (kk : Int) < D.2.2.2) (hi : M1 185 ((kk : Int)).toNat = (if uIn D 0 (kk : Int) then 0 else 1)) (hr : uIn D 0 (kk : Int) → mRw M1 D kk) {Qx : Option zV → zM → Prop} (hq : ∀ (M' : zM) (u2 : zV), mF (fun a j => a = 186 ∧ j = ((kk : Int)).toNat) M1 M' → M' 186 ((kk : Int)).toNat = (if uIn D 0 (kk : Int) ∧ uFs D (uG D kk) (kk : Int) < (uG D kk).1 then uFs D (uG D kk) (kk : Int) else -1) → wp L 6 zm_M_layStates 92 [rV 174, iV (kk : Int), u2] [] M' Qx) : ∀ (n9 : Nat) (s : Int) (M : zM), (uG D kk).1 - s < n9 → (0 ≤ s) → (s ≤ (uG D kk).1) → (mF (fun a j => a = 186 ∧ j = ((kk : Int)).toNat) M1 M) → (M 186 ((kk : Int)).toNat = (if uIn D 0 (kk : Int) ∧ uFs D (uG D kk) (kk : Int) < s then uFs D (uG D kk) (kk : Int) else -1)) → wp L 6 zm_M_layStates 29 [rV 174, iV (kk : Int), iV s] [] M (Qx) := by
  intro n9
  induction n9 with
  | zero =>
    intro s  M  h9 g1 g2 g3 g4
    exact absurd h9 (by omega)
  | succ n9 ih =>
    intro s  M  h9 g1 g2 g3 g4
    have hd1 := hd.1
    have hp := hd.pl
    obtain ⟨b1, b2, b3, b4, b5⟩ := uG_b D hd.2.1.1 kk
    have hM : mH M D := h.keep g3 (by omega) (by omega) (by omega)
    have hgM : mGs M D kk := hg.keep hp.2 g3 (by omega) (by omega) (by omega) (by omega)
    have e20 : M 174 20 = (uG D kk).1 := hgM.1
    have e185 := (g3 185 ((kk : Int)).toNat (by omega)).trans hi
    have hFb0 : 0 ≤ uFs D (uG D kk) (kk : Int) ∧ uFs D (uG D kk) (kk : Int) ≤ 0 + ((uG D kk).1.toNat : Int) := qFd_b _ _ _
    obtain ⟨hFa, hFb⟩ := qFd_at (c := fun s => uDf D ((uG D kk).2.2.1 s) (kk : Int)) (uG D kk).1.toNat 0
    rw [show qFd (fun s => uDf D ((uG D kk).2.2.1 s) (kk : Int)) (uG D kk).1.toNat 0 = uFs D (uG D kk) (kk : Int) from rfl] at hFa hFb
    refine wp_iload_n (pc := 29) d_M_layStates_29 rfl ?_
    refine wp_aload_n (pc := 30) d_M_layStates_30 rfl ?_
    refine wp_getI (pc := 31) d_M_layStates_31 rfl (by decide) (zk_174 L) ?_
    refine wp_icmp_ge (tgt := 92) (pc := 34) d_M_layStates_34 rfl (fun c34 => ?_) (fun c34 => ?_)
    · refine hq M _ g3 ?_
      rw [g4]
      by_cases hin : uIn D 0 (kk : Int)
      · first
        | exact absurd hin c43
        | rw [show s = (uG D kk).1 by omega]
      · rw [if_neg (fun z => hin z.1), if_neg (fun z => hin z.1)]
    · refine wp_aload_n (pc := 37) d_M_layStates_37 rfl ?_
      refine wp_getR (pc := 38) d_M_layStates_38 rfl (zk_174 L) zx_174_19 ?_
      refine wp_iload_n (pc := 41) d_M_layStates_41 rfl ?_
      refine wp_bald (pc := 42) d_M_layStates_42 (zk_185 L) (by omega) (by omega) ?_
      rw [e185]
      refine wp_if_ne (tgt := 92) (pc := 43) d_M_layStates_43 rfl (fun c43 => ?_) (fun c43 => ?_)
      · have c43 := zc_ne0 c43
        refine hq M _ g3 ?_
        rw [g4]
        by_cases hin : uIn D 0 (kk : Int)
        · first
          | exact absurd hin c43
          | rw [show s = (uG D kk).1 by omega]
        · rw [if_neg (fun z => hin z.1), if_neg (fun z => hin z.1)]
      · have c43 := zc_eq0 (Decidable.of_not_not c43)
        have f1 := hgM.2.1 s g1 (by omega)
        have hs4 := b4 s g1 (by omega)
        have hs1 : uDf D ((uG D kk).2.2.1 s) (kk : Int) = 0 → uFs D (uG D kk) (kk : Int) ≤ s := fun z => by
          by_cases e : uFs D (uG D kk) (kk : Int) ≤ s
          · exact e
          · exact absurd z (hFa s g1 (by omega))
        have hs2 : uFs D (uG D kk) (kk : Int) = s → uDf D ((uG D kk).2.2.1 s) (kk : Int) = 0 := fun e => by rw [← e]; exact hFb (by omega)
        have g5 : (uFs D (uG D kk) (kk : Int) < s ∧ M 186 ((kk : Int)).toNat = uFs D (uG D kk) (kk : Int)) ∨ (¬ uFs D (uG D kk) (kk : Int) < s ∧ M 186 ((kk : Int)).toNat = -1) := by
          rw [g4]
          by_cases e : uFs D (uG D kk) (kk : Int) < s
          · exact Or.inl ⟨e, if_pos ⟨c43, e⟩⟩
          · exact Or.inr ⟨e, if_neg (fun z => e z.2)⟩
        refine zcut (pc' := 85) (fun (v85 : Int) => v85 = (if uIn D 0 (kk : Int) ∧ uFs D (uG D kk) (kk : Int) < s + 1 then uFs D (uG D kk) (kk : Int) else -1)) (fun (v85 : Int) => [rV 174, iV (kk : Int), iV s]) (fun (v85 : Int) => [iV v85, iV (kk : Int), rV 186]) (fun (v85 : Int) => M) ?_ (fun K85 => ?_)
        · intro v85 h85
          show wp L _ zm_M_layStates 85 [rV 174, iV (kk : Int), iV s] [iV v85, iV (kk : Int), rV 186] (M) _
          refine wp_iast (pc := 85) d_M_layStates_85 (zk_186 L) (by decide) (by omega) (by omega) ?_
          refine wp_iinc2 (pc := 86) d_M_layStates_86 rfl (by omega) (by omega) ?_
          refine wp_goto (tgt := 29) (pc := 89) d_M_layStates_89 rfl ?_
          exact ih (s + 1) _ (by omega) (by omega) (by omega) (g3.u ⟨rfl, rfl⟩) (zU_eq.trans h85)
        · refine wp_aload_n (pc := 46) d_M_layStates_46 rfl ?_
          refine wp_getR (pc := 47) d_M_layStates_47 rfl (zk_174 L) zx_174_21 ?_
          refine wp_iload_n (pc := 50) d_M_layStates_50 rfl ?_
          refine wp_aload_n (pc := 51) d_M_layStates_51 rfl ?_
          refine wp_getR (pc := 52) d_M_layStates_52 rfl (zk_174 L) zx_174_21 ?_
          refine wp_iload_n (pc := 55) d_M_layStates_55 rfl ?_
          refine wp_iald (pc := 56) d_M_layStates_56 (zk_186 L) (by omega) (by omega) ?_
          refine wp_iconst (pc := 57) d_M_layStates_57 rfl ?_
          refine wp_icmp_ne (tgt := 79) (pc := 58) d_M_layStates_58 rfl (fun c58 => ?_) (fun c58 => ?_)
          · refine wp_aload_n (pc := 79) d_M_layStates_79 rfl ?_
            refine wp_getR (pc := 80) d_M_layStates_80 rfl (zk_174 L) zx_174_21 ?_
            refine wp_iload_n (pc := 83) d_M_layStates_83 rfl ?_
            refine wp_iald (pc := 84) d_M_layStates_84 (zk_186 L) (by omega) (by omega) ?_
            refine K85 _ ?_
            first
            | (rw [if_pos ⟨c43, by omega⟩]; omega)
            | (rw [if_neg (fun z => by omega)]; omega)
          · refine wp_aload_n (pc := 61) d_M_layStates_61 rfl ?_
            refine wp_aload_n (pc := 62) d_M_layStates_62 rfl ?_
            refine wp_getR (pc := 63) d_M_layStates_63 rfl (zk_174 L) zx_174_22 ?_
            refine wp_iload_n (pc := 66) d_M_layStates_66 rfl ?_
            refine wp_iald (pc := 67) d_M_layStates_67 (zk_187 L) (by omega) (by omega) ?_
            rw [f1]
            refine wp_iload_n (pc := 68) d_M_layStates_68 rfl ?_
            refine wp_callV2f (pc := 69) d_M_layStates_69 rfl rfl (zk_174 L) rfl rfl (c_M_unlike hM hd ⟨by omega, hgM.2.2.2 _ (by omega) (by omega) hs4.2.1⟩ ⟨by omega, fun p p0 p1 => (g3 184 _ (by omega)).trans (hr c43 p p0 p1)⟩) ?_
            refine wp_if_ne (tgt := 79) (pc := 72) d_M_layStates_72 rfl (fun c72 => ?_) (fun c72 => ?_)
            · refine wp_aload_n (pc := 79) d_M_layStates_79 rfl ?_
              refine wp_getR (pc := 80) d_M_layStates_80 rfl (zk_174 L) zx_174_21 ?_
              refine wp_iload_n (pc := 83) d_M_layStates_83 rfl ?_
              refine wp_iald (pc := 84) d_M_layStates_84 (zk_186 L) (by omega) (by omega) ?_
              refine K85 _ ?_
              first
              | (rw [if_pos ⟨c43, by omega⟩]; omega)
              | (rw [if_neg (fun z => by omega)]; omega)
            · refine wp_iload_n (pc := 75) d_M_layStates_75 rfl ?_
              refine wp_goto (tgt := 85) (pc := 76) d_M_layStates_76 rfl ?_
              refine K85 _ ?_
              first
              | (rw [if_pos ⟨c43, by omega⟩]; omega)
              | (rw [if_neg (fun z => by omega)]; omega)
theorem lp_M_ls {M0 : zM} (h : mH M0 D) (hd : mDi D) : ∀ (n9 : Nat) (kk : Nat) (M : zM) (u2 : zV), D.2.2.2 - kk < n9 → ((kk : Int) ≤ D.2.2.2) → (mF mPl M0 M) → (mGs M D kk) → wp L 6 zm_M_layStates 7 [rV 174, iV (kk : Int), u2] [] M (fun r M' => r = none ∧ (mF mPl M0 M' ∧ mSt M' D)) := by
  intro n9
  induction n9 with
  | zero =>
    intro kk  M  u2  h9 g0 g3 g4
    exact absurd h9 (by omega)
  | succ n9 ih =>
    intro kk  M  u2  h9 g0 g3 g4
    have hd1 := hd.1
    have hp := hd.pl
    have hM : mH M D := h.keep g3 (by omega) (by omega) (by omega)
    have e2 := hM.1
    refine wp_iload_n (pc := 7) d_M_layStates_7 rfl ?_
    refine wp_aload_n (pc := 8) d_M_layStates_8 rfl ?_
    refine wp_getI (pc := 9) d_M_layStates_9 rfl (by decide) (zk_174 L) ?_
    refine wp_icmp_ge (tgt := 147) (pc := 12) d_M_layStates_12 rfl (fun c12 => ?_) (fun c12 => ?_)
    · refine wp_aload_n (pc := 147) d_M_layStates_147 rfl ?_
      refine wp_callV0v (pc := 148) d_M_layStates_148 rfl rfl (zk_174 L) rfl rfl (Cv_of (c_M_layTree hM hd (by rw [show D.2.2.2.toNat = kk by omega]; exact g4))) (fun M148 h148 => ?_)
      obtain ⟨t1, t2⟩ := h148
      refine wp_return_ (pc := 151) d_M_layStates_151 rfl ?_
      exact ⟨rfl, g3.tr (t1.up (fun a j z => by omega)), (show mGs M D D.2.2.2.toNat by rw [show D.2.2.2.toNat = kk by omega]; exact g4).keep hp.2 t1 (by omega) (by omega) (by omega) (by omega), t2⟩
    · refine wp_aload_n (pc := 15) d_M_layStates_15 rfl ?_
      refine wp_iload_n (pc := 16) d_M_layStates_16 rfl ?_
      refine wp_callV1v (pc := 17) d_M_layStates_17 rfl rfl (zk_174 L) rfl rfl (c_M_layReading hM hd (by omega) (by omega)) (fun M17 h17 => ?_)
      obtain ⟨r1, r2, r3, r4⟩ := h17
      refine wp_aload_n (pc := 20) d_M_layStates_20 rfl ?_
      refine wp_getR (pc := 21) d_M_layStates_21 rfl (zk_174 L) zx_174_21 ?_
      refine wp_iload_n (pc := 24) d_M_layStates_24 rfl ?_
      refine wp_iconst (pc := 25) d_M_layStates_25 rfl ?_
      refine wp_iast (pc := 26) d_M_layStates_26 (zk_186 L) (by decide) (by omega) (by omega) ?_
      refine wp_iconst (pc := 27) d_M_layStates_27 rfl ?_
      refine wp_ist2 (pc := 28) d_M_layStates_28 rfl ?_
      have k1 : mF (fun a j => mPr (kk : Int) a j ∨ a = 186 ∧ j = ((kk : Int)).toNat) M (zU M17 186 ((kk : Int)).toNat (-1)) := (r1.up (fun a j z => Or.inl z)).u (Or.inr ⟨rfl, rfl⟩)
      have h1 : mH (zU M17 186 ((kk : Int)).toNat (-1)) D := hM.keep k1 (by omega) (by omega) (by omega)
      have hg1 : mGs (zU M17 186 ((kk : Int)).toNat (-1)) D kk := g4.keep hp.2 k1 (by omega) (by omega) (by omega) (by omega)
      refine lp_M_ls1 h1 hd hg1 (by omega) (by rw [zU_na (by decide)]; exact r3) (fun z p p0 p1 => by rw [zU_na (by decide)]; exact r4 z p p0 p1) (fun M' u2' hm hs => ?_) 100 0 _ (by have := uG_b D hd.2.1.1 kk; omega) (by omega) (by have := uG_b D hd.2.1.1 kk; omega) mF.rf (by rw [zU_eq, if_neg]; intro z; exact absurd (show (0 : Int) ≤ uFs D (uG D kk) (kk : Int) from (qFd_b _ _ _).1) (by omega))
      have hgM' : mGs M' D kk := hg1.keep hp.2 hm (by omega) (by omega) (by omega) (by omega)
      have e185 : M' 185 ((kk : Int)).toNat = (if uIn D 0 (kk : Int) then 0 else 1) := by rw [hm 185 _ (by omega), zU_na (by decide)]; exact r3
      have hrow : uIn D 0 (kk : Int) → mRw M' D kk := fun z p p0 p1 => by rw [hm 184 _ (by omega), zU_na (by decide)]; exact r4 z p p0 p1
      have e20 : M' 174 20 = (uG D kk).1 := hgM'.1
      obtain ⟨b1, b2, b3, b4, b5⟩ := uG_b D hd.2.1.1 kk
      have hF0 : 0 ≤ uFs D (uG D kk) (kk : Int) ∧ uFs D (uG D kk) (kk : Int) ≤ 0 + ((uG D kk).1.toNat : Int) := qFd_b _ _ _
      have hs2 : uIn D 0 (kk : Int) → (uFs D (uG D kk) (kk : Int) < (uG D kk).1 ∧ M' 186 ((kk : Int)).toNat = uFs D (uG D kk) (kk : Int)) ∨ (¬ uFs D (uG D kk) (kk : Int) < (uG D kk).1 ∧ M' 186 ((kk : Int)).toNat = -1) := fun hin => by
        rw [hs]
        by_cases e : uFs D (uG D kk) (kk : Int) < (uG D kk).1
        · exact Or.inl ⟨e, if_pos ⟨hin, e⟩⟩
        · exact Or.inr ⟨e, if_neg (fun z => e z.2)⟩
      have kM : mF mPl M0 M' := (g3.tr (k1.up (fun a j z => by omega))).tr (hm.up (fun a j z => by omega))
      refine zcut (pc' := 141) (fun (M2 : zM) => mF mPl M0 M2 ∧ mGs M2 D (kk + 1)) (fun (M2 : zM) => [rV 174, iV (kk : Int), u2']) (fun (M2 : zM) => []) (fun (M2 : zM) => M2) ?_ (fun K141 => ?_)
      · intro M2 h141
        show wp L _ zm_M_layStates 141 [rV 174, iV (kk : Int), u2'] [] (M2) _
        refine wp_iinc1 (pc := 141) d_M_layStates_141 rfl (by omega) (by omega) ?_
        refine wp_goto (tgt := 7) (pc := 144) d_M_layStates_144 rfl ?_
        exact ih (kk + 1) M2 _ (by omega) (by omega) h141.1 h141.2
      · refine wp_aload_n (pc := 92) d_M_layStates_92 rfl ?_
        refine wp_getR (pc := 93) d_M_layStates_93 rfl (zk_174 L) zx_174_19 ?_
        refine wp_iload_n (pc := 96) d_M_layStates_96 rfl ?_
        refine wp_bald (pc := 97) d_M_layStates_97 (zk_185 L) (by omega) (by omega) ?_
        rw [e185]
        refine wp_if_ne (tgt := 141) (pc := 98) d_M_layStates_98 rfl (fun c98 => ?_) (fun c98 => ?_)
        · have c98 := zc_ne0 c98
          first
          | exact K141 _ ⟨kM, mGs_su (P := fun _ _ => False) hp.2 hgM' mF.rf (fun j _ => ⟨id, id⟩) (fun j _ => id) e185 (fun z => absurd z c98) (by rw [uG_1 c98]; exact e20) (fun s s0 s1 => by rw [uG_1 c98] at s1 ⊢; exact hgM'.2.1 s s0 s1) (by rw [uG_1 c98]; exact (hs.trans (if_neg (fun z => c98 z.1))).trans qPut_eq.symm)⟩
          | (have hF : uFs D (uG D kk) (kk : Int) < (uG D kk).1 := by omega
             exact K141 _ ⟨kM, mGs_su (P := fun _ _ => False) hp.2 hgM' mF.rf (fun j _ => ⟨id, id⟩) (fun j _ => id) e185 hrow (by rw [uG_2 c98 hF]; exact e20) (fun s s0 s1 => by rw [uG_2 c98 hF] at s1 ⊢; exact hgM'.2.1 s s0 s1) (by rw [uG_2 c98 hF]; exact (hs.trans (if_pos ⟨c98, hF⟩)).trans qPut_eq.symm)⟩)
          | (have hF : ¬ uFs D (uG D kk) (kk : Int) < (uG D kk).1 := by omega
             have k3 : mF (fun a j => a = 186 ∧ j = ((kk : Int)).toNat ∨ a = 187 ∧ j = (uG D kk).1.toNat ∨ a = 174 ∧ j = 20) M' (zU (zU (zU M' 186 ((kk : Int)).toNat (uG D kk).1) 187 (uG D kk).1.toNat (kk : Int)) 174 20 ((uG D kk).1 + 1)) := ((mF.rf.u (Or.inl ⟨rfl, rfl⟩)).u (Or.inr (Or.inl ⟨rfl, rfl⟩))).u (Or.inr (Or.inr ⟨rfl, rfl⟩))
             refine K141 _ ⟨kM.tr (k3.up (fun a j z => by omega)), mGs_su hp.2 hgM' k3 (fun j hj => by omega) (fun j hj => by omega) ((k3 185 _ (by omega)).trans e185) (fun z p p0 p1 => (k3 184 _ (by omega)).trans (hrow z p p0 p1)) ?_ (fun s s0 s1 => ?_) ?_⟩
             · rw [uG_3 c98 hF]; exact zU_eq
             · rw [uG_3 c98 hF] at s1 ⊢
               rw [zU_na (by decide)]
               by_cases es : s = (uG D kk).1
               · rw [es, zU_eq]; exact qPut_eq.symm
               · have s1 : s < (uG D kk).1 + 1 := s1
                 rw [zU_nk (by omega), zU_na (by decide)]
                 exact (hgM'.2.1 s s0 (by omega)).trans (qPut_ne es).symm
             · rw [uG_3 c98 hF]
               show zU (zU (zU M' 186 ((kk : Int)).toNat (uG D kk).1) 187 (uG D kk).1.toNat (kk : Int)) 174 20 ((uG D kk).1 + 1) 186 ((kk : Int)).toNat = _
               rw [zU_na (by decide), zU_na (by decide), zU_eq]; exact qPut_eq.symm)
        · have c98 := zc_eq0 (Decidable.of_not_not c98)
          have hs3 := hs2 c98
          refine wp_aload_n (pc := 101) d_M_layStates_101 rfl ?_
          refine wp_getR (pc := 102) d_M_layStates_102 rfl (zk_174 L) zx_174_21 ?_
          refine wp_iload_n (pc := 105) d_M_layStates_105 rfl ?_
          refine wp_iald (pc := 106) d_M_layStates_106 (zk_186 L) (by omega) (by omega) ?_
          refine wp_iconst (pc := 107) d_M_layStates_107 rfl ?_
          refine wp_icmp_ne (tgt := 141) (pc := 108) d_M_layStates_108 rfl (fun c108 => ?_) (fun c108 => ?_)
          · first
            | exact K141 _ ⟨kM, mGs_su (P := fun _ _ => False) hp.2 hgM' mF.rf (fun j _ => ⟨id, id⟩) (fun j _ => id) e185 (fun z => absurd z c98) (by rw [uG_1 c98]; exact e20) (fun s s0 s1 => by rw [uG_1 c98] at s1 ⊢; exact hgM'.2.1 s s0 s1) (by rw [uG_1 c98]; exact (hs.trans (if_neg (fun z => c98 z.1))).trans qPut_eq.symm)⟩
            | (have hF : uFs D (uG D kk) (kk : Int) < (uG D kk).1 := by omega
               exact K141 _ ⟨kM, mGs_su (P := fun _ _ => False) hp.2 hgM' mF.rf (fun j _ => ⟨id, id⟩) (fun j _ => id) e185 hrow (by rw [uG_2 c98 hF]; exact e20) (fun s s0 s1 => by rw [uG_2 c98 hF] at s1 ⊢; exact hgM'.2.1 s s0 s1) (by rw [uG_2 c98 hF]; exact (hs.trans (if_pos ⟨c98, hF⟩)).trans qPut_eq.symm)⟩)
            | (have hF : ¬ uFs D (uG D kk) (kk : Int) < (uG D kk).1 := by omega
               have k3 : mF (fun a j => a = 186 ∧ j = ((kk : Int)).toNat ∨ a = 187 ∧ j = (uG D kk).1.toNat ∨ a = 174 ∧ j = 20) M' (zU (zU (zU M' 186 ((kk : Int)).toNat (uG D kk).1) 187 (uG D kk).1.toNat (kk : Int)) 174 20 ((uG D kk).1 + 1)) := ((mF.rf.u (Or.inl ⟨rfl, rfl⟩)).u (Or.inr (Or.inl ⟨rfl, rfl⟩))).u (Or.inr (Or.inr ⟨rfl, rfl⟩))
               refine K141 _ ⟨kM.tr (k3.up (fun a j z => by omega)), mGs_su hp.2 hgM' k3 (fun j hj => by omega) (fun j hj => by omega) ((k3 185 _ (by omega)).trans e185) (fun z p p0 p1 => (k3 184 _ (by omega)).trans (hrow z p p0 p1)) ?_ (fun s s0 s1 => ?_) ?_⟩
               · rw [uG_3 c98 hF]; exact zU_eq
               · rw [uG_3 c98 hF] at s1 ⊢
                 rw [zU_na (by decide)]
                 by_cases es : s = (uG D kk).1
                 · rw [es, zU_eq]; exact qPut_eq.symm
                 · have s1 : s < (uG D kk).1 + 1 := s1
                   rw [zU_nk (by omega), zU_na (by decide)]
                   exact (hgM'.2.1 s s0 (by omega)).trans (qPut_ne es).symm
               · rw [uG_3 c98 hF]
                 show zU (zU (zU M' 186 ((kk : Int)).toNat (uG D kk).1) 187 (uG D kk).1.toNat (kk : Int)) 174 20 ((uG D kk).1 + 1) 186 ((kk : Int)).toNat = _
                 rw [zU_na (by decide), zU_na (by decide), zU_eq]; exact qPut_eq.symm)
          · refine wp_aload_n (pc := 111) d_M_layStates_111 rfl ?_
            refine wp_getR (pc := 112) d_M_layStates_112 rfl (zk_174 L) zx_174_21 ?_
            refine wp_iload_n (pc := 115) d_M_layStates_115 rfl ?_
            refine wp_aload_n (pc := 116) d_M_layStates_116 rfl ?_
            refine wp_getI (pc := 117) d_M_layStates_117 rfl (by decide) (zk_174 L) ?_
            rw [e20]
            refine wp_iast (pc := 120) d_M_layStates_120 (zk_186 L) (by decide) (by omega) (by omega) ?_
            refine wp_aload_n (pc := 121) d_M_layStates_121 rfl ?_
            refine wp_getR (pc := 122) d_M_layStates_122 rfl (zk_174 L) zx_174_22 ?_
            refine wp_aload_n (pc := 125) d_M_layStates_125 rfl ?_
            refine wp_getI (pc := 126) d_M_layStates_126 rfl (by decide) (zk_174 L) ?_
            rw [zU_na (by decide), e20]
            refine wp_iload_n (pc := 129) d_M_layStates_129 rfl ?_
            refine wp_iast (pc := 130) d_M_layStates_130 (zk_187 L) (by decide) (by omega) (by omega) ?_
            refine wp_aload_n (pc := 131) d_M_layStates_131 rfl ?_
            refine wp_dup (pc := 132) d_M_layStates_132 rfl ?_
            refine wp_getI (pc := 133) d_M_layStates_133 rfl (by decide) (zk_174 L) ?_
            rw [zU_na (by decide), zU_na (by decide), e20]
            refine wp_iconst (pc := 136) d_M_layStates_136 rfl ?_
            refine wp_iadd (pc := 137) d_M_layStates_137 (by omega) (by omega) ?_
            refine wp_putI (pc := 138) d_M_layStates_138 rfl (zk_174 L) (by decide) ?_
            first
            | exact K141 _ ⟨kM, mGs_su (P := fun _ _ => False) hp.2 hgM' mF.rf (fun j _ => ⟨id, id⟩) (fun j _ => id) e185 (fun z => absurd z c98) (by rw [uG_1 c98]; exact e20) (fun s s0 s1 => by rw [uG_1 c98] at s1 ⊢; exact hgM'.2.1 s s0 s1) (by rw [uG_1 c98]; exact (hs.trans (if_neg (fun z => c98 z.1))).trans qPut_eq.symm)⟩
            | (have hF : uFs D (uG D kk) (kk : Int) < (uG D kk).1 := by omega
               exact K141 _ ⟨kM, mGs_su (P := fun _ _ => False) hp.2 hgM' mF.rf (fun j _ => ⟨id, id⟩) (fun j _ => id) e185 hrow (by rw [uG_2 c98 hF]; exact e20) (fun s s0 s1 => by rw [uG_2 c98 hF] at s1 ⊢; exact hgM'.2.1 s s0 s1) (by rw [uG_2 c98 hF]; exact (hs.trans (if_pos ⟨c98, hF⟩)).trans qPut_eq.symm)⟩)
            | (have hF : ¬ uFs D (uG D kk) (kk : Int) < (uG D kk).1 := by omega
               have k3 : mF (fun a j => a = 186 ∧ j = ((kk : Int)).toNat ∨ a = 187 ∧ j = (uG D kk).1.toNat ∨ a = 174 ∧ j = 20) M' (zU (zU (zU M' 186 ((kk : Int)).toNat (uG D kk).1) 187 (uG D kk).1.toNat (kk : Int)) 174 20 ((uG D kk).1 + 1)) := ((mF.rf.u (Or.inl ⟨rfl, rfl⟩)).u (Or.inr (Or.inl ⟨rfl, rfl⟩))).u (Or.inr (Or.inr ⟨rfl, rfl⟩))
               refine K141 _ ⟨kM.tr (k3.up (fun a j z => by omega)), mGs_su hp.2 hgM' k3 (fun j hj => by omega) (fun j hj => by omega) ((k3 185 _ (by omega)).trans e185) (fun z p p0 p1 => (k3 184 _ (by omega)).trans (hrow z p p0 p1)) ?_ (fun s s0 s1 => ?_) ?_⟩
               · rw [uG_3 c98 hF]; exact zU_eq
               · rw [uG_3 c98 hF] at s1 ⊢
                 rw [zU_na (by decide)]
                 by_cases es : s = (uG D kk).1
                 · rw [es, zU_eq]; exact qPut_eq.symm
                 · have s1 : s < (uG D kk).1 + 1 := s1
                   rw [zU_nk (by omega), zU_na (by decide)]
                   exact (hgM'.2.1 s s0 (by omega)).trans (qPut_ne es).symm
               · rw [uG_3 c98 hF]
                 show zU (zU (zU M' 186 ((kk : Int)).toNat (uG D kk).1) 187 (uG D kk).1.toNat (kk : Int)) 174 20 ((uG D kk).1 + 1) 186 ((kk : Int)).toNat = _
                 rw [zU_na (by decide), zU_na (by decide), zU_eq]; exact qPut_eq.symm)
theorem c_M_layStates (h : mH M D) (hd : mDi D) : Cv L 6 zm_M_layStates [rV 174] M (fun M' => mF mPl M M' ∧ mSt M' D) := by
  show wp L _ zm_M_layStates 0 [rV 174, uV, uV] [] M _
  have hd1 := hd.1
  refine wp_aload_n (pc := 0) d_M_layStates_0 rfl ?_
  refine wp_iconst (pc := 1) d_M_layStates_1 rfl ?_
  refine wp_putI (pc := 2) d_M_layStates_2 rfl (zk_174 L) (by decide) ?_
  refine wp_iconst (pc := 5) d_M_layStates_5 rfl ?_
  refine wp_ist1 (pc := 6) d_M_layStates_6 rfl ?_
  have k1 : mF mPl M (zU M 174 20 0) := mF.rf.u (by omega)
  refine wp_mono (lp_M_ls (M0 := zU M 174 20 0) (h.keep k1 (by omega) (by omega) (by omega)) hd 100 0 _ _ (by omega) (by omega) mF.rf ⟨zU_eq, fun s s0 s1 => absurd (show s < 0 from s1) (by omega), fun c c0 c1 => absurd c1 (by omega), fun c c0 c1 => absurd c1 (by omega)⟩) (fun r M' hr => ⟨hr.1, k1.tr hr.2.1, hr.2.2⟩)
end ZM6
