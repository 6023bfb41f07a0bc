/-! Fault: cell 167; rows 168 (pair), 169 (sooner), 170 (later), 171 (ahead) -/
/-- the pairs before (a, b) are in the rows -/
def qFp (M : zM) (Y : qYt) (n : Nat) (P : Int → Int → Prop) (K : Int) : Prop := M 167 4 = K ∧ (∀ k : Nat, (k : Int) < K → ∃ a b : Int, (0 ≤ a ∧ a < n) ∧ (0 ≤ b ∧ b < n) ∧ P a b ∧ vLw Y a b = true ∧ M 168 k = ((2 ^ a.toNat ||| 2 ^ b.toNat : Nat) : Int) ∧ M 169 k = Y.2 a 1 ∧ M 170 k = Y.2 b 1) ∧
  ∀ a b : Int, 0 ≤ a → a < n → 0 ≤ b → b < n → P a b → vLw Y a b = true → ∃ k : Nat, (k : Int) < K ∧ M 168 k = ((2 ^ a.toNat ||| 2 ^ b.toNat : Nat) : Int) ∧ M 169 k = Y.2 a 1 ∧ M 170 k = Y.2 b 1
theorem qFp.im {M : zM} {Y : qYt} {n : Nat} {P P' : Int → Int → Prop} {K : Int} (h : qFp M Y n P K) (h1 : ∀ a b : Int, 0 ≤ a → a < n → 0 ≤ b → b < n → vLw Y a b = true → (P a b ↔ P' a b)) : qFp M Y n P' K := by
  obtain ⟨g1, g2, g3⟩ := h
  refine ⟨g1, fun k hk => ?_, fun a b a0 a1 b0 b1 hp hl => g3 a b a0 a1 b0 b1 ((h1 a b a0 a1 b0 b1 hl).2 hp) hl⟩
  obtain ⟨a, b, ha, hb, hp, hl, q⟩ := g2 k hk
  exact ⟨a, b, ha, hb, (h1 a b ha.1 ha.2 hb.1 hb.2 hl).1 hp, hl, q⟩
section ZFa
variable {L : Nat} {M : zM} {Y : qYt} {x y z w c p s i j : Int}
theorem lp_Fa_fp1 {M0 : zM} (hY : qYC M0 = Y) (hi : qYi Y) {k : Nat} (hk : (k : Int) < Y.1) {Qx : Option zV → zM → Prop} (hq : ∀ (M' : zM) (w : zV), zSm (fun a => 167 ≤ a ∧ a < 171) M0 M' → (∀ q, ¬ q = 4 → M' 167 q = M0 167 q) → qFp M' Y Y.1.toNat (fun a b => a < ((k : Int) + 1) ∨ a = ((k : Int) + 1) ∧ b < 0) (vPn Y Y.1.toNat (k + 1 : Nat) + qN (fun b => vLw Y (k + 1 : Nat) b) 0) → wp L 2 zm_Fault_findPairs 7 [rV 167, rV 147, iV ((k : Int) + 1), w] [] M' Qx) : ∀ (n9 : Nat) (m : Nat) (M : zM), Y.1 - m < n9 → ((m : Int) ≤ Y.1) → (zSm (fun a => 167 ≤ a ∧ a < 171) M0 M) → (∀ q, ¬ q = 4 → M 167 q = M0 167 q) → (qFp M Y Y.1.toNat (fun a b => a < (k : Int) ∨ a = (k : Int) ∧ b < (m : Int)) (vPn Y Y.1.toNat k + qN (fun b => vLw Y k b) m)) → wp L 2 zm_Fault_findPairs 17 [rV 167, rV 147, iV k, iV m] [] M (Qx) := by
  intro n9
  induction n9 with
  | zero =>
    intro m  M  h9 g2 g3 g4 g5
    exact absurd h9 (by omega)
  | succ n9 ih =>
    intro m  M  h9 g2 g3 g4 g5
    have hn := hi.1
    have eY : qYC M = Y := (qYC_eq (by rw [show M0 147 1 = (qYC M0).1 from rfl, hY]; exact hi.1.2) (g3 147 (by omega) 1) (fun a a1 a2 => g3 a (by omega))).trans hY
    have en : M 147 1 = Y.1 := by rw [← eY]; rfl
    have hnb := qN_b (fun b => vLw Y k b) m
    have hpb : 0 ≤ vPn Y Y.1.toNat k := (qS_b (B := 12) (fun a _ _ => by have := qN_b (fun b => vLw Y a b) Y.1.toNat; omega)).1
    have h74 := g5.1
    have es : qN (fun b => vLw Y k b) (m + 1) = qN (fun b => vLw Y k b) m + (if vLw Y k m = true then 1 else 0) := rfl
    refine wp_iload_n (pc := 17) d_Fault_findPairs_17 rfl ?_
    refine wp_aload_n (pc := 18) d_Fault_findPairs_18 rfl ?_
    refine wp_callV0f (pc := 19) d_Fault_findPairs_19 rfl rfl (zk_147 L) rfl rfl c_Sg_size ?_
    refine wp_icmp_ge (tgt := 105) (pc := 22) d_Fault_findPairs_22 rfl (fun c22 => ?_) (fun c22 => ?_)
    · refine wp_iinc2 (pc := 105) d_Fault_findPairs_105 rfl (by omega) (by omega) ?_
      refine wp_goto (tgt := 7) (pc := 108) d_Fault_findPairs_108 rfl ?_
      refine hq M _ g3 g4 ?_
      have em : m = Y.1.toNat := by omega
      rw [em] at g5
      have e2 : vPn Y Y.1.toNat (k + 1) + qN (fun b => vLw Y ((k + 1 : Nat) : Int) b) 0 = vPn Y Y.1.toNat k + qN (fun b => vLw Y k b) Y.1.toNat := by
        show vPn Y Y.1.toNat k + qN (fun b => vLw Y k b) Y.1.toNat + 0 = _
        omega
      rw [e2]
      exact g5.im (fun a b a0 a1 b0 b1 hl => ⟨fun z => by omega, fun z => by omega⟩)
    · refine wp_aload_n (pc := 25) d_Fault_findPairs_25 rfl ?_
      refine wp_getI (pc := 26) d_Fault_findPairs_26 rfl (by decide) (zk_167 L) ?_
      refine wp_bipush (pc := 29) d_Fault_findPairs_29 rfl ?_
      refine wp_icmp_ge (tgt := 99) (pc := 31) d_Fault_findPairs_31 rfl (fun c31 => ?_) (fun c31 => ?_)
      · by_cases hlw : vLw Y k m = true
        · have hat := vPn_at Y (n := Y.1.toNat) (a := k) (b := m) (by omega) (by omega) (by omega) hlw
          exact absurd c31 (by omega)
        · have hlw : vLw Y k m = false := Bool.eq_false_iff.2 hlw
          refine wp_iinc3 (pc := 99) d_Fault_findPairs_99 rfl (by omega) (by omega) ?_
          refine wp_goto (tgt := 17) (pc := 102) d_Fault_findPairs_102 rfl ?_
          refine ih (m + 1) M (by omega) (by omega) g3 g4 ?_
          rw [es, if_neg (by rw [hlw]; decide), Int.add_zero]
          exact g5.im (fun a b a0 a1 b0 b1 hl => ⟨fun z => by omega, fun z => by
            by_cases e : a = k ∧ b = m
            · rw [e.1, e.2, hlw] at hl; exact absurd hl (by decide)
            · omega⟩)
      · refine wp_aload_n (pc := 34) d_Fault_findPairs_34 rfl ?_
        refine wp_iload_n (pc := 35) d_Fault_findPairs_35 rfl ?_
        refine wp_iload_n (pc := 36) d_Fault_findPairs_36 rfl ?_
        refine wp_callV2f (pc := 37) d_Fault_findPairs_37 rfl rfl (zk_147 L) rfl rfl (c_Sg_lwY (by omega) (by omega) (by omega) (by omega) (by omega)) ?_
        rw [eY]
        refine wp_if_eq (tgt := 99) (pc := 40) d_Fault_findPairs_40 rfl (fun c40 => ?_) (fun c40 => ?_)
        · refine wp_iinc3 (pc := 99) d_Fault_findPairs_99 rfl (by omega) (by omega) ?_
          refine wp_goto (tgt := 17) (pc := 102) d_Fault_findPairs_102 rfl ?_
          first
          | (have hlw := qB_0 c40
             refine ih (m + 1) M (by omega) (by omega) g3 g4 ?_
             rw [es, if_neg (by rw [hlw]; decide), Int.add_zero]
             exact g5.im (fun a b a0 a1 b0 b1 hl => ⟨fun z => by omega, fun z => by
               by_cases e : a = k ∧ b = m
               · rw [e.1, e.2, hlw] at hl; exact absurd hl (by decide)
               · omega⟩))
          | (have z1 : zU M 168 (M 167 4).toNat ((2 ^ k ||| 2 ^ m : Nat) : Int) 167 4 = M 167 4 := zU_na (by decide)
             rw [z1]
             have z2 : zU (zU M 168 (M 167 4).toNat ((2 ^ k ||| 2 ^ m : Nat) : Int)) 169 (M 167 4).toNat (Y.2 k 1) 167 4 = M 167 4 := (zU_na (by decide)).trans z1
             rw [z2]
             have z3 : zU (zU (zU M 168 (M 167 4).toNat ((2 ^ k ||| 2 ^ m : Nat) : Int)) 169 (M 167 4).toNat (Y.2 k 1)) 170 (M 167 4).toNat (Y.2 m 1) 167 4 = M 167 4 := (zU_na (by decide)).trans z2
             rw [z3]
             have ha : ∀ q : Nat, ¬ q = (M 167 4).toNat → (zU (zU (zU (zU M 168 (M 167 4).toNat ((2 ^ k ||| 2 ^ m : Nat) : Int)) 169 (M 167 4).toNat (Y.2 k 1)) 170 (M 167 4).toNat (Y.2 m 1)) 167 4 (M 167 4 + 1)) 168 q = M 168 q ∧ (zU (zU (zU (zU M 168 (M 167 4).toNat ((2 ^ k ||| 2 ^ m : Nat) : Int)) 169 (M 167 4).toNat (Y.2 k 1)) 170 (M 167 4).toNat (Y.2 m 1)) 167 4 (M 167 4 + 1)) 169 q = M 169 q ∧ (zU (zU (zU (zU M 168 (M 167 4).toNat ((2 ^ k ||| 2 ^ m : Nat) : Int)) 169 (M 167 4).toNat (Y.2 k 1)) 170 (M 167 4).toNat (Y.2 m 1)) 167 4 (M 167 4 + 1)) 170 q = M 170 q := fun q hq => ⟨by rw [zU_na (by decide), zU_na (by decide), zU_na (by decide), zU_nk hq], by rw [zU_na (by decide), zU_na (by decide), zU_nk hq, zU_na (by decide)], by rw [zU_na (by decide), zU_nk hq, zU_na (by decide), zU_na (by decide)]⟩
             have hb : (zU (zU (zU (zU M 168 (M 167 4).toNat ((2 ^ k ||| 2 ^ m : Nat) : Int)) 169 (M 167 4).toNat (Y.2 k 1)) 170 (M 167 4).toNat (Y.2 m 1)) 167 4 (M 167 4 + 1)) 168 (M 167 4).toNat = ((2 ^ k ||| 2 ^ m : Nat) : Int) ∧ (zU (zU (zU (zU M 168 (M 167 4).toNat ((2 ^ k ||| 2 ^ m : Nat) : Int)) 169 (M 167 4).toNat (Y.2 k 1)) 170 (M 167 4).toNat (Y.2 m 1)) 167 4 (M 167 4 + 1)) 169 (M 167 4).toNat = Y.2 k 1 ∧ (zU (zU (zU (zU M 168 (M 167 4).toNat ((2 ^ k ||| 2 ^ m : Nat) : Int)) 169 (M 167 4).toNat (Y.2 k 1)) 170 (M 167 4).toNat (Y.2 m 1)) 167 4 (M 167 4 + 1)) 170 (M 167 4).toNat = Y.2 m 1 := ⟨by rw [zU_na (by decide), zU_na (by decide), zU_na (by decide), zU_eq], by rw [zU_na (by decide), zU_na (by decide), zU_eq], by rw [zU_na (by decide), zU_eq]⟩
             have h4 : (zU (zU (zU (zU M 168 (M 167 4).toNat ((2 ^ k ||| 2 ^ m : Nat) : Int)) 169 (M 167 4).toNat (Y.2 k 1)) 170 (M 167 4).toNat (Y.2 m 1)) 167 4 (M 167 4 + 1)) 167 4 = M 167 4 + 1 := zU_eq
             have h5 : ∀ q, ¬ q = 4 → (zU (zU (zU (zU M 168 (M 167 4).toNat ((2 ^ k ||| 2 ^ m : Nat) : Int)) 169 (M 167 4).toNat (Y.2 k 1)) 170 (M 167 4).toNat (Y.2 m 1)) 167 4 (M 167 4 + 1)) 167 q = M0 167 q := fun q hq => by rw [zU_nk hq, zU_na (by decide), zU_na (by decide), zU_na (by decide)]; exact g4 q hq
             have h6 : zSm (fun a => 167 ≤ a ∧ a < 171) M0 (zU (zU (zU (zU M 168 (M 167 4).toNat ((2 ^ k ||| 2 ^ m : Nat) : Int)) 169 (M 167 4).toNat (Y.2 k 1)) 170 (M 167 4).toNat (Y.2 m 1)) 167 4 (M 167 4 + 1)) := (((g3.u (by omega)).u (by omega)).u (by omega)).u (by omega)
             generalize zU (zU (zU (zU M 168 (M 167 4).toNat ((2 ^ k ||| 2 ^ m : Nat) : Int)) 169 (M 167 4).toNat (Y.2 k 1)) 170 (M 167 4).toNat (Y.2 m 1)) 167 4 (M 167 4 + 1) = M9 at ha hb h4 h5 h6 ⊢
             refine ih (m + 1) M9 (by omega) (by omega) h6 h5 ⟨?_, fun q hq => ?_, fun a b a0 a1 b0 b1 hp hl => ?_⟩
             · rw [es, if_pos hlw, h4, h74]; omega
             · rw [es, if_pos hlw] at hq
               by_cases e : q = (M 167 4).toNat
               · rw [e]
                 exact ⟨k, m, by omega, by omega, by omega, hlw, hb⟩
               · obtain ⟨a, b, pa, pb, pp, pl, pq⟩ := g5.2.1 q (by omega)
                 have := ha q e
                 rw [this.1, this.2.1, this.2.2]
                 exact ⟨a, b, pa, pb, by omega, pl, pq⟩
             · rw [es, if_pos hlw]
               by_cases e : a = k ∧ b = m
               · rw [e.1, e.2]
                 exact ⟨(M 167 4).toNat, by omega, hb⟩
               · obtain ⟨q, q1, q2⟩ := g5.2.2 a b a0 a1 b0 b1 (by omega) hl
                 have := ha q (by omega)
                 rw [← this.1, ← this.2.1, ← this.2.2] at q2
                 exact ⟨q, by omega, q2⟩)
        · have hlw := qB_1 c40
          have hat := vPn_at Y (n := Y.1.toNat) (a := k) (b := m) (by omega) (by omega) (by omega) hlw
          have h1b : 2 ^ k ≤ 2 ^ 12 := Nat.pow_le_pow_right (by decide) (by omega)
          have h2b : 2 ^ m ≤ 2 ^ 12 := Nat.pow_le_pow_right (by decide) (by omega)
          refine wp_aload_n (pc := 43) d_Fault_findPairs_43 rfl ?_
          refine wp_getR (pc := 44) d_Fault_findPairs_44 rfl (zk_167 L) zx_167_0 ?_
          refine wp_aload_n (pc := 47) d_Fault_findPairs_47 rfl ?_
          refine wp_getI (pc := 48) d_Fault_findPairs_48 rfl (by decide) (zk_167 L) ?_
          refine wp_iconst (pc := 51) d_Fault_findPairs_51 rfl ?_
          refine wp_iload_n (pc := 52) d_Fault_findPairs_52 rfl ?_
          refine wp_ishl (v := _) (pc := 53) d_Fault_findPairs_53 (zn_shl1 k (by omega)) ?_
          refine wp_iconst (pc := 54) d_Fault_findPairs_54 rfl ?_
          refine wp_iload_n (pc := 55) d_Fault_findPairs_55 rfl ?_
          refine wp_ishl (v := _) (pc := 56) d_Fault_findPairs_56 (zn_shl1 m (by omega)) ?_
          refine wp_ior (v := ((2 ^ k ||| 2 ^ m : Nat) : Int)) (pc := 57) d_Fault_findPairs_57 (zn_or (by omega) (by omega)) ?_
          refine wp_iast (pc := 58) d_Fault_findPairs_58 (zk_168 L) (by decide) (by omega) (by omega) ?_
          refine wp_aload_n (pc := 59) d_Fault_findPairs_59 rfl ?_
          refine wp_getR (pc := 60) d_Fault_findPairs_60 rfl (zk_167 L) zx_167_1 ?_
          refine wp_aload_n (pc := 63) d_Fault_findPairs_63 rfl ?_
          refine wp_getI (pc := 64) d_Fault_findPairs_64 rfl (by decide) (zk_167 L) ?_
          refine wp_aload_n (pc := 67) d_Fault_findPairs_67 rfl ?_
          refine wp_iload_n (pc := 68) d_Fault_findPairs_68 rfl ?_
          refine wp_iconst (pc := 69) d_Fault_findPairs_69 rfl ?_
          refine wp_callV2f (pc := 70) d_Fault_findPairs_70 rfl rfl (zk_147 L) rfl rfl (c_Sg_getY (by rw [zU_na (by decide)]; omega)) ?_
          rw [qYC_eq (M := M) (by omega) (zU_na (by decide)) (fun a a1 a2 k => zU_na (by omega)), eY]
          refine wp_iast (pc := 73) d_Fault_findPairs_73 (zk_169 L) (by decide) (by rw [zU_na (by decide)]; omega) (by rw [zU_na (by decide)]; omega) ?_
          refine wp_aload_n (pc := 74) d_Fault_findPairs_74 rfl ?_
          refine wp_getR (pc := 75) d_Fault_findPairs_75 rfl (zk_167 L) zx_167_2 ?_
          refine wp_aload_n (pc := 78) d_Fault_findPairs_78 rfl ?_
          refine wp_getI (pc := 79) d_Fault_findPairs_79 rfl (by decide) (zk_167 L) ?_
          refine wp_aload_n (pc := 82) d_Fault_findPairs_82 rfl ?_
          refine wp_iload_n (pc := 83) d_Fault_findPairs_83 rfl ?_
          refine wp_iconst (pc := 84) d_Fault_findPairs_84 rfl ?_
          refine wp_callV2f (pc := 85) d_Fault_findPairs_85 rfl rfl (zk_147 L) rfl rfl (c_Sg_getY (by rw [zU_na (by decide), zU_na (by decide)]; omega)) ?_
          rw [qYC_eq (M := M) (by omega) ((zU_na (by decide)).trans (zU_na (by decide))) (fun a a1 a2 k => (zU_na (by omega)).trans (zU_na (by omega))), eY]
          refine wp_iast (pc := 88) d_Fault_findPairs_88 (zk_170 L) (by decide) (by rw [zU_na (by decide), zU_na (by decide)]; omega) (by rw [zU_na (by decide), zU_na (by decide)]; omega) ?_
          refine wp_aload_n (pc := 89) d_Fault_findPairs_89 rfl ?_
          refine wp_dup (pc := 90) d_Fault_findPairs_90 rfl ?_
          refine wp_getI (pc := 91) d_Fault_findPairs_91 rfl (by decide) (zk_167 L) ?_
          refine wp_iconst (pc := 94) d_Fault_findPairs_94 rfl ?_
          refine wp_iadd (pc := 95) d_Fault_findPairs_95 (by rw [zU_na (by decide), zU_na (by decide), zU_na (by decide)]; omega) (by rw [zU_na (by decide), zU_na (by decide), zU_na (by decide)]; omega) ?_
          refine wp_putI (pc := 96) d_Fault_findPairs_96 rfl (zk_167 L) (by decide) ?_
          refine wp_iinc3 (pc := 99) d_Fault_findPairs_99 rfl (by omega) (by omega) ?_
          refine wp_goto (tgt := 17) (pc := 102) d_Fault_findPairs_102 rfl ?_
          first
          | (have hlw := qB_0 c40
             refine ih (m + 1) M (by omega) (by omega) g3 g4 ?_
             rw [es, if_neg (by rw [hlw]; decide), Int.add_zero]
             exact g5.im (fun a b a0 a1 b0 b1 hl => ⟨fun z => by omega, fun z => by
               by_cases e : a = k ∧ b = m
               · rw [e.1, e.2, hlw] at hl; exact absurd hl (by decide)
               · omega⟩))
          | (have z1 : zU M 168 (M 167 4).toNat ((2 ^ k ||| 2 ^ m : Nat) : Int) 167 4 = M 167 4 := zU_na (by decide)
             rw [z1]
             have z2 : zU (zU M 168 (M 167 4).toNat ((2 ^ k ||| 2 ^ m : Nat) : Int)) 169 (M 167 4).toNat (Y.2 k 1) 167 4 = M 167 4 := (zU_na (by decide)).trans z1
             rw [z2]
             have z3 : zU (zU (zU M 168 (M 167 4).toNat ((2 ^ k ||| 2 ^ m : Nat) : Int)) 169 (M 167 4).toNat (Y.2 k 1)) 170 (M 167 4).toNat (Y.2 m 1) 167 4 = M 167 4 := (zU_na (by decide)).trans z2
             rw [z3]
             have ha : ∀ q : Nat, ¬ q = (M 167 4).toNat → (zU (zU (zU (zU M 168 (M 167 4).toNat ((2 ^ k ||| 2 ^ m : Nat) : Int)) 169 (M 167 4).toNat (Y.2 k 1)) 170 (M 167 4).toNat (Y.2 m 1)) 167 4 (M 167 4 + 1)) 168 q = M 168 q ∧ (zU (zU (zU (zU M 168 (M 167 4).toNat ((2 ^ k ||| 2 ^ m : Nat) : Int)) 169 (M 167 4).toNat (Y.2 k 1)) 170 (M 167 4).toNat (Y.2 m 1)) 167 4 (M 167 4 + 1)) 169 q = M 169 q ∧ (zU (zU (zU (zU M 168 (M 167 4).toNat ((2 ^ k ||| 2 ^ m : Nat) : Int)) 169 (M 167 4).toNat (Y.2 k 1)) 170 (M 167 4).toNat (Y.2 m 1)) 167 4 (M 167 4 + 1)) 170 q = M 170 q := fun q hq => ⟨by rw [zU_na (by decide), zU_na (by decide), zU_na (by decide), zU_nk hq], by rw [zU_na (by decide), zU_na (by decide), zU_nk hq, zU_na (by decide)], by rw [zU_na (by decide), zU_nk hq, zU_na (by decide), zU_na (by decide)]⟩
             have hb : (zU (zU (zU (zU M 168 (M 167 4).toNat ((2 ^ k ||| 2 ^ m : Nat) : Int)) 169 (M 167 4).toNat (Y.2 k 1)) 170 (M 167 4).toNat (Y.2 m 1)) 167 4 (M 167 4 + 1)) 168 (M 167 4).toNat = ((2 ^ k ||| 2 ^ m : Nat) : Int) ∧ (zU (zU (zU (zU M 168 (M 167 4).toNat ((2 ^ k ||| 2 ^ m : Nat) : Int)) 169 (M 167 4).toNat (Y.2 k 1)) 170 (M 167 4).toNat (Y.2 m 1)) 167 4 (M 167 4 + 1)) 169 (M 167 4).toNat = Y.2 k 1 ∧ (zU (zU (zU (zU M 168 (M 167 4).toNat ((2 ^ k ||| 2 ^ m : Nat) : Int)) 169 (M 167 4).toNat (Y.2 k 1)) 170 (M 167 4).toNat (Y.2 m 1)) 167 4 (M 167 4 + 1)) 170 (M 167 4).toNat = Y.2 m 1 := ⟨by rw [zU_na (by decide), zU_na (by decide), zU_na (by decide), zU_eq], by rw [zU_na (by decide), zU_na (by decide), zU_eq], by rw [zU_na (by decide), zU_eq]⟩
             have h4 : (zU (zU (zU (zU M 168 (M 167 4).toNat ((2 ^ k ||| 2 ^ m : Nat) : Int)) 169 (M 167 4).toNat (Y.2 k 1)) 170 (M 167 4).toNat (Y.2 m 1)) 167 4 (M 167 4 + 1)) 167 4 = M 167 4 + 1 := zU_eq
             have h5 : ∀ q, ¬ q = 4 → (zU (zU (zU (zU M 168 (M 167 4).toNat ((2 ^ k ||| 2 ^ m : Nat) : Int)) 169 (M 167 4).toNat (Y.2 k 1)) 170 (M 167 4).toNat (Y.2 m 1)) 167 4 (M 167 4 + 1)) 167 q = M0 167 q := fun q hq => by rw [zU_nk hq, zU_na (by decide), zU_na (by decide), zU_na (by decide)]; exact g4 q hq
             have h6 : zSm (fun a => 167 ≤ a ∧ a < 171) M0 (zU (zU (zU (zU M 168 (M 167 4).toNat ((2 ^ k ||| 2 ^ m : Nat) : Int)) 169 (M 167 4).toNat (Y.2 k 1)) 170 (M 167 4).toNat (Y.2 m 1)) 167 4 (M 167 4 + 1)) := (((g3.u (by omega)).u (by omega)).u (by omega)).u (by omega)
             generalize zU (zU (zU (zU M 168 (M 167 4).toNat ((2 ^ k ||| 2 ^ m : Nat) : Int)) 169 (M 167 4).toNat (Y.2 k 1)) 170 (M 167 4).toNat (Y.2 m 1)) 167 4 (M 167 4 + 1) = M9 at ha hb h4 h5 h6 ⊢
             refine ih (m + 1) M9 (by omega) (by omega) h6 h5 ⟨?_, fun q hq => ?_, fun a b a0 a1 b0 b1 hp hl => ?_⟩
             · rw [es, if_pos hlw, h4, h74]; omega
             · rw [es, if_pos hlw] at hq
               by_cases e : q = (M 167 4).toNat
               · rw [e]
                 exact ⟨k, m, by omega, by omega, by omega, hlw, hb⟩
               · obtain ⟨a, b, pa, pb, pp, pl, pq⟩ := g5.2.1 q (by omega)
                 have := ha q e
                 rw [this.1, this.2.1, this.2.2]
                 exact ⟨a, b, pa, pb, by omega, pl, pq⟩
             · rw [es, if_pos hlw]
               by_cases e : a = k ∧ b = m
               · rw [e.1, e.2]
                 exact ⟨(M 167 4).toNat, by omega, hb⟩
               · obtain ⟨q, q1, q2⟩ := g5.2.2 a b a0 a1 b0 b1 (by omega) hl
                 have := ha q (by omega)
                 rw [← this.1, ← this.2.1, ← this.2.2] at q2
                 exact ⟨q, by omega, q2⟩)
theorem lp_Fa_fp {M0 : zM} (hY : qYC M0 = Y) (hi : qYi Y) : ∀ (n9 : Nat) (k : Nat) (M : zM) (w : zV), Y.1 - k < n9 → ((k : Int) ≤ Y.1) → (zSm (fun a => 167 ≤ a ∧ a < 171) M0 M) → (∀ q, ¬ q = 4 → M 167 q = M0 167 q) → (qFp M Y Y.1.toNat (fun a b => a < (k : Int) ∨ a = (k : Int) ∧ b < 0) (vPn Y Y.1.toNat (k : Nat) + qN (fun b => vLw Y (k : Nat) b) 0)) → wp L 2 zm_Fault_findPairs 7 [rV 167, rV 147, iV k, w] [] M (fun r M' => r = none ∧ (zSm (fun a => 167 ≤ a ∧ a < 171) M0 M' ∧ (∀ q, ¬ q = 4 → M' 167 q = M0 167 q) ∧ qFp M' Y Y.1.toNat (fun _ _ => True) (vPn Y Y.1.toNat Y.1.toNat))) := by
  intro n9
  induction n9 with
  | zero =>
    intro k  M  w  h9 g2 g3 g4 g5
    exact absurd h9 (by omega)
  | succ n9 ih =>
    intro k  M  w  h9 g2 g3 g4 g5
    have hn := hi.1
    have eY : qYC M = Y := (qYC_eq (by rw [show M0 147 1 = (qYC M0).1 from rfl, hY]; exact hi.1.2) (g3 147 (by omega) 1) (fun a a1 a2 => g3 a (by omega))).trans hY
    have en : M 147 1 = Y.1 := by rw [← eY]; rfl
    refine wp_iload_n (pc := 7) d_Fault_findPairs_7 rfl ?_
    refine wp_aload_n (pc := 8) d_Fault_findPairs_8 rfl ?_
    refine wp_callV0f (pc := 9) d_Fault_findPairs_9 rfl rfl (zk_147 L) rfl rfl c_Sg_size ?_
    refine wp_icmp_ge (tgt := 111) (pc := 12) d_Fault_findPairs_12 rfl (fun c12 => ?_) (fun c12 => ?_)
    · refine wp_return_ (pc := 111) d_Fault_findPairs_111 rfl ?_
      refine ⟨rfl, g3, g4, ?_⟩
      have ek : Y.1.toNat = k := by omega
      rw [ek] at g5 ⊢
      have e2 : vPn Y k k + qN (fun b => vLw Y (k : Int) b) 0 = vPn Y k k := Int.add_zero _
      rw [e2] at g5
      exact g5.im (fun a b a0 a1 b0 b1 hl => ⟨fun _ => trivial, fun _ => by omega⟩)
    · refine wp_iconst (pc := 15) d_Fault_findPairs_15 rfl ?_
      refine wp_ist3 (pc := 16) d_Fault_findPairs_16 rfl ?_
      exact lp_Fa_fp1 (M0 := M0) hY hi (by omega) (fun M' w q1 q2 q3 => ih (k + 1) M' w (by omega) (by omega) q1 q2 (by
        rw [show ((k + 1 : Nat) : Int) = (k : Int) + 1 by omega] at q3 ⊢
        exact q3)) 100 0 M (by omega) (by omega) g3 g4 g5
theorem c_Fa_fp (hY : qYC M = Y) (hi : qYi Y) : wpc L 2 zm_Fault_findPairs [rV 167, rV 147] M (fun r M' => r = none ∧ (zSm (fun a => 167 ≤ a ∧ a < 171) M M' ∧ (∀ q, ¬ q = 4 → M' 167 q = M 167 q) ∧ qFp M' Y Y.1.toNat (fun _ _ => True) (vPn Y Y.1.toNat Y.1.toNat))) := by
  show wp L _ zm_Fault_findPairs 0 [rV 167, rV 147, uV, uV] [] M _
  refine wp_aload_n (pc := 0) d_Fault_findPairs_0 rfl ?_
  refine wp_iconst (pc := 1) d_Fault_findPairs_1 rfl ?_
  refine wp_putI (pc := 2) d_Fault_findPairs_2 rfl (zk_167 L) (by decide) ?_
  refine wp_iconst (pc := 5) d_Fault_findPairs_5 rfl ?_
  refine wp_ist2 (pc := 6) d_Fault_findPairs_6 rfl ?_
  have hn := hi.1
  exact lp_Fa_fp (M0 := M) hY hi 100 0 _ _ (by omega) (by omega) (zSm.rf.u (by omega)) (fun q hq => zU_nk hq) ⟨by rw [zU_eq]; rfl, fun k hk => absurd hk (by show ¬ ((k : Int) < 0 + 0); omega), fun a b a0 a1 b0 b1 hp => absurd hp (by omega)⟩
end ZFa
