/-! Chronology: cell 161; rows 162 (types), 163 (companions), 164 (ahead), 165 (ways), 166 (first) -/
theorem z_or1 {c c' : Nat → Bool} {v x : Int} (hv : v = ((qBm c 6 : Nat) : Int)) (x0 : 0 ≤ x) (x1 : x < 6) (h : ∀ j : Nat, j < 6 → c' j = (c j || decide ((j : Int) = x))) : zI2 (· ||| ·) v (zI2 zShl 1 x) = ((qBm c' 6 : Nat) : Int) := by
  have hp : 2 ^ x.toNat ≤ 2 ^ 6 := Nat.pow_le_pow_right (by decide) (by omega)
  have hl := qBm_lt c 6
  rw [hv, show x = ((x.toNat : Nat) : Int) by omega, zn_shl1 _ (by omega), zn_or (by omega) (by omega), qBm_or (k := x.toNat) (by omega)]
  intro j hj
  rw [h j hj]
  congr 1
  rw [Bool.eq_iff_iff, decide_eq_true_iff, decide_eq_true_iff]
  omega
theorem z_orN {c c' : Nat → Bool} {v : Int} {b : Nat} (hv : v = ((qBm c 6 : Nat) : Int)) (hb : b < 64) (h : ∀ j : Nat, j < 6 → c' j = (c j || b.testBit j)) : zI2 (· ||| ·) v (b : Int) = ((qBm c' 6 : Nat) : Int) := by
  have hl := qBm_lt c 6
  rw [hv, zn_or (by omega) (by omega)]
  congr 1
  refine qBm_uniq (Nat.or_lt_two_pow (n := 6) hl hb) (fun j hj => ?_)
  rw [Nat.testBit_or, qBm_bit, decide_eq_true hj, Bool.true_and, h j hj]
/-- the sets behind the first k sightings -/
def pS (Y : qYt) (k : Nat) (f : Nat) : Bool := qEx (fun i => vAll i && decide (Y.2 i 1 = (f : Int))) k
def pT (Y : qYt) (k : Nat) (f t : Nat) : Bool := qEx (fun i => decide (Y.2 i 1 = (f : Int) ∧ Y.2 i 0 = (t : Int))) k
def pI (Y : qYt) (i : Int) (f g : Nat) : Nat → Bool := qEx (fun j => (vAll i && vAll j) && (decide (Y.2 i 1 = (f : Int) ∧ Y.2 j 1 = (g : Int)) && vLw Y i j))
def pA (Y : qYt) (k : Nat) (f g : Nat) : Bool := qEx (fun i => pI Y i f g Y.1.toNat) k
def qEt (M : zM) (Y : qYt) (k : Nat) : Prop := M 161 5 = ((qBm (pS Y k) 6 : Nat) : Int) ∧ ∀ f : Nat, f < 6 → M 162 f = ((qBm (pT Y k f) 6 : Nat) : Int) ∧ M 164 f = ((qBm (pA Y k f) 6 : Nat) : Int)
theorem pI_no {Y : qYt} {i : Int} {f g : Nat} (h : ¬ Y.2 i 1 = (f : Int)) : ∀ n, pI Y i f g n = false := by
  intro n
  induction n with
  | zero => rfl
  | succ n ih =>
    show (pI Y i f g n || _) = false
    rw [ih]
    show ((vAll i && vAll (n : Int)) && (decide (Y.2 i 1 = (f : Int) ∧ Y.2 (n : Int) 1 = (g : Int)) && vLw Y i (n : Int))) = false
    rw [decide_eq_false (fun z => h z.1), Bool.false_and, Bool.and_false]
section ZCh
variable {L : Nat} {M : zM} {Y : qYt} {x y z w c p s i j : Int}
theorem c_Sg_getY (hl : M 147 1 ≤ 12) : Cf L 1 zm_Sight_get [rV 147, iV i, iV j] M (iV ((qYC M).2 i j)) M := c_Sg_get hl
theorem c_Sg_lwY (hl : M 147 1 ≤ 12) (i0 : 0 ≤ i) (i1 : i < M 147 1) (j0 : 0 ≤ j) (j1 : j < M 147 1) : Cf L 1 zm_Sight_isLessWorn [rV 147, iV i, iV j] M (iV (qB (vLw (qYC M) i j))) M := by
  have h := c_Sg_isLessWorn (L := L) (i := i) (j := j) hl
  have e : (if ((0 ≤ i ∧ i < M 147 1) ∧ 0 ≤ j ∧ j < M 147 1) ∧ M (149 + i.toNat) 0 = M (149 + j.toNat) 0 ∧ M (149 + i.toNat) 3 < M (149 + j.toNat) 3 then (1 : Int) else 0) = qB (vLw (qYC M) i j) := by
    unfold vLw
    rw [qYC_1 i0 i1 (by decide) (by decide), qYC_1 j0 j1 (by decide) (by decide), qYC_1 i0 i1 (by decide) (by decide), qYC_1 j0 j1 (by decide) (by decide)]
    show _ = qB (decide (M (149 + i.toNat) 0 = M (149 + j.toNat) 0 ∧ M (149 + i.toNat) 3 < M (149 + j.toNat) 3))
    by_cases z : M (149 + i.toNat) 0 = M (149 + j.toNat) 0 ∧ M (149 + i.toNat) 3 < M (149 + j.toNat) 3
    · rw [if_pos ⟨⟨⟨i0, i1⟩, j0, j1⟩, z⟩, decide_eq_true z]; rfl
    · rw [if_neg (fun q => z q.2), decide_eq_false z]; rfl
  rw [e] at h
  exact h
theorem lp_Ch_enter {M0 : zM} {n f : Nat} (hY : qYC M0 = Y) (hi : qYi Y) (hnn : (n : Int) < Y.1) (hf6 : f < 6) (hff : Y.2 n 1 = (f : Int)) : ∀ (n9 : Nat) (k : Nat) (j : Int) (M : zM), Y.1 - j < n9 → (j = k) → (j ≤ Y.1) → (zSm (fun a => a = 161 ∨ a = 162 ∨ a = 164) M0 M) → (∀ k, ¬ k = 5 → M 161 k = M0 161 k) → (M 161 5 = ((qBm (pS Y (n + 1)) 6 : Nat) : Int)) → (∀ f : Nat, f < 6 → M 162 f = ((qBm (pT Y (n + 1) f) 6 : Nat) : Int)) → (∀ h : Nat, h < 6 → M 164 h = ((qBm (fun g => pA Y n h g || pI Y n h g k) 6 : Nat) : Int)) → wp L 2 zm_Chrono_enter 50 [rV 161, rV 147, iV n, iV f, iV j] [] M (fun r M' => r = none ∧ (zSm (fun a => a = 161 ∨ a = 162 ∨ a = 164) M0 M' ∧ (∀ k, ¬ k = 5 → M' 161 k = M0 161 k) ∧ qEt M' Y (n + 1))) := by
  intro n9
  induction n9 with
  | zero =>
    intro k  j  M  h9 g1 g2 g3 g4 g5 g6 g7
    exact absurd h9 (by omega)
  | succ n9 ih =>
    intro k  j  M  h9 g1 g2 g3 g4 g5 g6 g7
    have eY : qYC M = Y := (qYC_eq (by rw [show M0 147 1 = (qYC M0).1 from rfl, hY]; exact hi.1.2) (g3 147 (by omega) 1) (fun a a1 a2 => g3 a (by omega))).trans hY
    have en : M 147 1 = Y.1 := by rw [← eY]; rfl
    have hn := hi.1
    refine wp_iload (pc := 50) d_Chrono_enter_50 rfl ?_
    refine wp_aload_n (pc := 52) d_Chrono_enter_52 rfl ?_
    refine wp_callV0f (pc := 53) d_Chrono_enter_53 rfl rfl (zk_147 L) rfl rfl c_Sg_size ?_
    refine wp_icmp_ge (tgt := 93) (pc := 56) d_Chrono_enter_56 rfl (fun c56 => ?_) (fun c56 => ?_)
    · refine wp_return_ (pc := 93) d_Chrono_enter_93 rfl ?_
      have hk : k = Y.1.toNat := by omega
      subst hk
      exact ⟨rfl, g3, g4, g5, fun f hf => ⟨g6 f hf, g7 f hf⟩⟩
    · refine wp_aload_n (pc := 59) d_Chrono_enter_59 rfl ?_
      refine wp_iload_n (pc := 60) d_Chrono_enter_60 rfl ?_
      refine wp_iload (pc := 61) d_Chrono_enter_61 rfl ?_
      refine wp_callV2f (pc := 63) d_Chrono_enter_63 rfl rfl (zk_147 L) rfl rfl (c_Sg_lwY (by omega) (by omega) (by omega) (by omega) (by omega)) ?_
      rw [eY]
      refine wp_if_eq (tgt := 87) (pc := 66) d_Chrono_enter_66 rfl (fun c66 => ?_) (fun c66 => ?_)
      · refine wp_iinc4 (pc := 87) d_Chrono_enter_87 rfl (by omega) (by omega) ?_
        refine wp_goto (tgt := 50) (pc := 90) d_Chrono_enter_90 rfl ?_
        first
        | (have hlw := qB_0 c66
           refine ih (k + 1) (j + 1) M (by omega) (by omega) (by omega) g3 g4 g5 g6 (fun h hh => ?_)
           rw [g7 h hh]
           congr 1
           refine qBm_congr (fun g _ => ?_)
           show _ = (pA Y n h g || (pI Y n h g k || ((vAll n && vAll k) && (decide (Y.2 n 1 = (h : Int) ∧ Y.2 k 1 = (g : Int)) && vLw Y n k))))
           rw [← g1, hlw, Bool.and_false, Bool.and_false, Bool.or_false])
        | (have hlw := qB_1 c66
           refine ih (k + 1) (j + 1) _ (by omega) (by omega) (by omega) (g3.u (by omega)) (fun q hq => by rw [zU_na (by decide)]; exact g4 q hq) (by rw [zU_na (by decide)]; exact g5) (fun q hq => by rw [zU_na (by decide)]; exact g6 q hq) (fun h hh => ?_)
           by_cases e : h = f
           · subst e
             rw [show ((h : Int)).toNat = h by omega, zU_eq]
             refine z_or1 (g7 h hh) hfo.1 hfo.2 (fun g hg => ?_)
             show (pA Y n h g || (pI Y n h g k || ((vAll n && vAll k) && (decide (Y.2 n 1 = (h : Int) ∧ Y.2 k 1 = (g : Int)) && vLw Y n k)))) = _
             rw [← g1, hlw, Bool.and_true, Bool.or_assoc]
             congr 2
             show decide (Y.2 n 1 = (h : Int) ∧ Y.2 j 1 = (g : Int)) = _
             rw [Bool.eq_iff_iff, decide_eq_true_iff, decide_eq_true_iff]
             exact ⟨fun z => z.2.symm, fun z => ⟨hff, z.symm⟩⟩
           · rw [zU_nk (by omega), g7 h hh]
             congr 1
             refine qBm_congr (fun g _ => ?_)
             show _ = (pA Y n h g || pI Y n h g (k + 1))
             rw [pI_no (by rw [hff]; omega), pI_no (by rw [hff]; omega)])
      · refine wp_aload_n (pc := 69) d_Chrono_enter_69 rfl ?_
        refine wp_getR (pc := 70) d_Chrono_enter_70 rfl (zk_161 L) zx_161_2 ?_
        refine wp_iload_n (pc := 73) d_Chrono_enter_73 rfl ?_
        refine wp_dup2 (pc := 74) d_Chrono_enter_74 rfl rfl ?_
        refine wp_iald (pc := 75) d_Chrono_enter_75 (zk_164 L) (by omega) (by omega) ?_
        refine wp_iconst (pc := 76) d_Chrono_enter_76 rfl ?_
        refine wp_aload_n (pc := 77) d_Chrono_enter_77 rfl ?_
        refine wp_iload (pc := 78) d_Chrono_enter_78 rfl ?_
        refine wp_iconst (pc := 80) d_Chrono_enter_80 rfl ?_
        refine wp_callV2f (pc := 81) d_Chrono_enter_81 rfl rfl (zk_147 L) rfl rfl (c_Sg_getY (by omega)) ?_
        rw [eY]
        have hfo := (hi.2.1 j (by omega) (by omega)).2.1
        refine wp_ishl (v := _) (pc := 84) d_Chrono_enter_84 rfl ?_
        refine wp_ior (v := _) (pc := 85) d_Chrono_enter_85 rfl ?_
        refine wp_iast (pc := 86) d_Chrono_enter_86 (zk_164 L) (by decide) (by omega) (by omega) ?_
        refine wp_iinc4 (pc := 87) d_Chrono_enter_87 rfl (by omega) (by omega) ?_
        refine wp_goto (tgt := 50) (pc := 90) d_Chrono_enter_90 rfl ?_
        first
        | (have hlw := qB_0 c66
           refine ih (k + 1) (j + 1) M (by omega) (by omega) (by omega) g3 g4 g5 g6 (fun h hh => ?_)
           rw [g7 h hh]
           congr 1
           refine qBm_congr (fun g _ => ?_)
           show _ = (pA Y n h g || (pI Y n h g k || ((vAll n && vAll k) && (decide (Y.2 n 1 = (h : Int) ∧ Y.2 k 1 = (g : Int)) && vLw Y n k))))
           rw [← g1, hlw, Bool.and_false, Bool.and_false, Bool.or_false])
        | (have hlw := qB_1 c66
           refine ih (k + 1) (j + 1) _ (by omega) (by omega) (by omega) (g3.u (by omega)) (fun q hq => by rw [zU_na (by decide)]; exact g4 q hq) (by rw [zU_na (by decide)]; exact g5) (fun q hq => by rw [zU_na (by decide)]; exact g6 q hq) (fun h hh => ?_)
           by_cases e : h = f
           · subst e
             rw [show ((h : Int)).toNat = h by omega, zU_eq]
             refine z_or1 (g7 h hh) hfo.1 hfo.2 (fun g hg => ?_)
             show (pA Y n h g || (pI Y n h g k || ((vAll n && vAll k) && (decide (Y.2 n 1 = (h : Int) ∧ Y.2 k 1 = (g : Int)) && vLw Y n k)))) = _
             rw [← g1, hlw, Bool.and_true, Bool.or_assoc]
             congr 2
             show decide (Y.2 n 1 = (h : Int) ∧ Y.2 j 1 = (g : Int)) = _
             rw [Bool.eq_iff_iff, decide_eq_true_iff, decide_eq_true_iff]
             exact ⟨fun z => z.2.symm, fun z => ⟨hff, z.symm⟩⟩
           · rw [zU_nk (by omega), g7 h hh]
             congr 1
             refine qBm_congr (fun g _ => ?_)
             show _ = (pA Y n h g || pI Y n h g (k + 1))
             rw [pI_no (by rw [hff]; omega), pI_no (by rw [hff]; omega)])
theorem c_Ch_enter {n : Nat} (hY : qYC M = Y) (hi : qYi Y) (hnn : (n : Int) < Y.1) (ht : qEt M Y n) : wpc L 2 zm_Chrono_enter [rV 161, rV 147, iV n] M (fun r M' => r = none ∧ (zSm (fun a => a = 161 ∨ a = 162 ∨ a = 164) M M' ∧ (∀ k, ¬ k = 5 → M' 161 k = M 161 k) ∧ qEt M' Y (n + 1))) := by
  show wp L _ zm_Chrono_enter 0 [rV 161, rV 147, iV n, uV, uV] [] M _
  have en : M 147 1 = Y.1 := by rw [← hY]; rfl
  have hn := hi.1
  have hfo := (hi.2.1 n (by omega) (by omega)).2.1
  have hty := (hi.2.1 n (by omega) (by omega)).1
  refine wp_aload_n (pc := 0) d_Chrono_enter_0 rfl ?_
  refine wp_iload_n (pc := 1) d_Chrono_enter_1 rfl ?_
  refine wp_iconst (pc := 2) d_Chrono_enter_2 rfl ?_
  refine wp_callV2f (pc := 3) d_Chrono_enter_3 rfl rfl (zk_147 L) rfl rfl (c_Sg_getY (by omega)) ?_
  rw [hY]
  refine wp_ist3 (pc := 6) d_Chrono_enter_6 rfl ?_
  refine wp_iload_n (pc := 7) d_Chrono_enter_7 rfl ?_
  refine wp_if_lt (tgt := 17) (pc := 8) d_Chrono_enter_8 rfl (fun c8 => ?_) (fun c8 => ?_)
  · exact absurd c8 (by omega)
  · refine wp_iload_n (pc := 11) d_Chrono_enter_11 rfl ?_
    refine wp_bipush (pc := 12) d_Chrono_enter_12 rfl ?_
    refine wp_icmp_lt (tgt := 18) (pc := 14) d_Chrono_enter_14 rfl (fun c14 => ?_) (fun c14 => ?_)
    · refine wp_aload_n (pc := 18) d_Chrono_enter_18 rfl ?_
      refine wp_dup (pc := 19) d_Chrono_enter_19 rfl ?_
      refine wp_getI (pc := 20) d_Chrono_enter_20 rfl (by decide) (zk_161 L) ?_
      refine wp_iconst (pc := 23) d_Chrono_enter_23 rfl ?_
      refine wp_iload_n (pc := 24) d_Chrono_enter_24 rfl ?_
      refine wp_ishl (v := _) (pc := 25) d_Chrono_enter_25 rfl ?_
      refine wp_ior (v := _) (pc := 26) d_Chrono_enter_26 rfl ?_
      refine wp_putI (pc := 27) d_Chrono_enter_27 rfl (zk_161 L) (by decide) ?_
      refine wp_aload_n (pc := 30) d_Chrono_enter_30 rfl ?_
      refine wp_getR (pc := 31) d_Chrono_enter_31 rfl (zk_161 L) zx_161_0 ?_
      refine wp_iload_n (pc := 34) d_Chrono_enter_34 rfl ?_
      refine wp_dup2 (pc := 35) d_Chrono_enter_35 rfl rfl ?_
      refine wp_iald (pc := 36) d_Chrono_enter_36 (zk_162 L) (by omega) (by omega) ?_
      refine wp_iconst (pc := 37) d_Chrono_enter_37 rfl ?_
      refine wp_aload_n (pc := 38) d_Chrono_enter_38 rfl ?_
      refine wp_iload_n (pc := 39) d_Chrono_enter_39 rfl ?_
      refine wp_iconst (pc := 40) d_Chrono_enter_40 rfl ?_
      refine wp_callV2f (pc := 41) d_Chrono_enter_41 rfl rfl (zk_147 L) rfl rfl (c_Sg_getY (by rw [zU_na (by decide)]; omega)) ?_
      rw [qYC_eq (M := M) (by omega) (zU_na (by decide)) (fun a a1 a2 k => zU_na (by omega)), hY]
      refine wp_ishl (v := _) (pc := 44) d_Chrono_enter_44 rfl ?_
      refine wp_ior (v := _) (pc := 45) d_Chrono_enter_45 rfl ?_
      refine wp_iast (pc := 46) d_Chrono_enter_46 (zk_162 L) (by decide) (by omega) (by omega) ?_
      refine wp_iconst (pc := 47) d_Chrono_enter_47 rfl ?_
      refine wp_ist4 (pc := 48) d_Chrono_enter_48 rfl ?_
      have hff : Y.2 n 1 = (((Y.2 n 1).toNat : Nat) : Int) := by omega
      have h9 := lp_Ch_enter (L := L) (M0 := M) (n := n) (f := (Y.2 n 1).toNat) hY hi hnn (by omega) hff 100 0 0 (zU (zU M 161 5 (zI2 (· ||| ·) (M 161 5) (zI2 zShl 1 (Y.2 n 1)))) 162 (Y.2 n 1).toNat (zI2 (· ||| ·) (zU M 161 5 (zI2 (· ||| ·) (M 161 5) (zI2 zShl 1 (Y.2 n 1))) 162 (Y.2 n 1).toNat) (zI2 zShl 1 (Y.2 n 0)))) (by omega) rfl (by omega) ((zSm.rf.u (by omega)).u (by omega)) (fun k hk => by rw [zU_na (by decide), zU_nk hk]) ?_ ?_ ?_
      · rw [← hff] at h9
        exact h9
      · rw [zU_na (by decide), zU_eq]
        refine z_or1 ht.1 hfo.1 hfo.2 (fun g hg => ?_)
        show (pS Y n g || (vAll n && decide (Y.2 n 1 = (g : Int)))) = _
        congr 1
        show decide (Y.2 n 1 = (g : Int)) = _
        rw [Bool.eq_iff_iff, decide_eq_true_iff, decide_eq_true_iff]
        exact ⟨Eq.symm, Eq.symm⟩
      · intro f hf
        by_cases e : f = (Y.2 n 1).toNat
        · rw [← e, zU_eq, zU_na (by decide)]
          refine z_or1 (ht.2 f hf).1 hty.1 hty.2 (fun g hg => ?_)
          show (pT Y n f g || decide (Y.2 n 1 = (f : Int) ∧ Y.2 n 0 = (g : Int))) = _
          congr 1
          rw [Bool.eq_iff_iff, decide_eq_true_iff, decide_eq_true_iff]
          omega
        · rw [zU_nk e, zU_na (by decide), (ht.2 f hf).1]
          congr 1
          refine qBm_congr (fun g hg => ?_)
          show _ = (pT Y n f g || decide (Y.2 n 1 = (f : Int) ∧ Y.2 n 0 = (g : Int)))
          rw [decide_eq_false (by omega), Bool.or_false]
      · intro f hf
        rw [zU_na (by decide), zU_na (by decide), (ht.2 f hf).2]
        congr 1
        refine qBm_congr (fun g hg => ?_)
        show _ = (pA Y n f g || pI Y n f g 0)
        show _ = (pA Y n f g || false)
        rw [Bool.or_false]
    · exact absurd c14 (by omega)
theorem lp_Ch_comp {t : Nat → Nat} {u : Nat} (hT : ∀ f : Nat, f < 6 → M 162 f = ((t f : Nat) : Int)) (ht : ∀ f, t f < 64) (hu : u < 64) : ∀ (n9 : Nat) (k : Nat) (v : Int) (j : Int), 6 - j < n9 → (j = k) → (j ≤ 6) → (v = ((qBm (fun g => decide (¬ u = 0 ∧ ¬ t g = 0 ∧ t g &&& u = 0 ∧ g < k)) 6 : Nat) : Int)) → wp L 0 zm_Chrono_findCompanions 4 [rV 161, iV u, iV v, iV j] [] M (fun r M' => r = some (iV ((qBm (fun g => decide (¬ u = 0 ∧ ¬ t g = 0 ∧ t g &&& u = 0)) 6 : Nat) : Int)) ∧ M' = M) := by
  intro n9
  induction n9 with
  | zero =>
    intro k  v  j  h9 g1 g2 g3
    exact absurd h9 (by omega)
  | succ n9 ih =>
    intro k  v  j  h9 g1 g2 g3
    refine wp_iload_n (pc := 4) d_Chrono_findCompanions_4 rfl ?_
    refine wp_if_eq (tgt := 46) (pc := 5) d_Chrono_findCompanions_5 rfl (fun c5 => ?_) (fun c5 => ?_)
    · refine wp_iload_n (pc := 46) d_Chrono_findCompanions_46 rfl ?_
      refine wp_ireturn (pc := 47) d_Chrono_findCompanions_47 rfl ?_
      refine ⟨?_, rfl⟩
      rw [g3]
      congr 3
      refine qBm_congr (fun g hg => ?_)
      rw [Bool.eq_iff_iff, decide_eq_true_iff, decide_eq_true_iff]
      exact ⟨fun z => ⟨z.1, z.2.1, z.2.2.1⟩, fun z => ⟨z.1, z.2.1, z.2.2, by have := z.1; omega⟩⟩
    · refine wp_iload_n (pc := 8) d_Chrono_findCompanions_8 rfl ?_
      refine wp_bipush (pc := 9) d_Chrono_findCompanions_9 rfl ?_
      refine wp_icmp_ge (tgt := 46) (pc := 11) d_Chrono_findCompanions_11 rfl (fun c11 => ?_) (fun c11 => ?_)
      · refine wp_iload_n (pc := 46) d_Chrono_findCompanions_46 rfl ?_
        refine wp_ireturn (pc := 47) d_Chrono_findCompanions_47 rfl ?_
        refine ⟨?_, rfl⟩
        rw [g3]
        congr 3
        refine qBm_congr (fun g hg => ?_)
        rw [Bool.eq_iff_iff, decide_eq_true_iff, decide_eq_true_iff]
        exact ⟨fun z => ⟨z.1, z.2.1, z.2.2.1⟩, fun z => ⟨z.1, z.2.1, z.2.2, by have := z.1; omega⟩⟩
      · have hj := hT j.toNat (by omega)
        have hl := ht j.toNat
        have ej : j.toNat = k := by omega
        refine wp_aload_n (pc := 14) d_Chrono_findCompanions_14 rfl ?_
        refine wp_getR (pc := 15) d_Chrono_findCompanions_15 rfl (zk_161 L) zx_161_0 ?_
        refine wp_iload_n (pc := 18) d_Chrono_findCompanions_18 rfl ?_
        refine wp_iald (pc := 19) d_Chrono_findCompanions_19 (zk_162 L) (by omega) (by omega) ?_
        refine wp_if_eq (tgt := 40) (pc := 20) d_Chrono_findCompanions_20 rfl (fun c20 => ?_) (fun c20 => ?_)
        · refine wp_iinc3 (pc := 40) d_Chrono_findCompanions_40 rfl (by omega) (by omega) ?_
          refine wp_goto (tgt := 4) (pc := 43) d_Chrono_findCompanions_43 rfl ?_
          first
          | (refine ih (k + 1) _ (j + 1) (by omega) (by omega) (by omega) (z_or1 g3 (by omega) (by omega) (fun g hg => ?_))
             rw [hj] at c20
             by_cases e : g = k
             · subst e
               rw [decide_eq_true (show (g : Int) = j by omega), Bool.or_true]
               rw [ej] at c20 c31
               exact decide_eq_true ⟨by omega, by omega, by omega, by omega⟩
             · rw [decide_eq_false (show ¬ (g : Int) = j by omega), Bool.or_false]
               rw [Bool.eq_iff_iff, decide_eq_true_iff, decide_eq_true_iff]
               exact ⟨fun z => ⟨z.1, z.2.1, z.2.2.1, by omega⟩, fun z => ⟨z.1, z.2.1, z.2.2.1, by omega⟩⟩)
          | (refine ih (k + 1) v (j + 1) (by omega) (by omega) (by omega) (g3.trans ?_)
             congr 1
             refine qBm_congr (fun g hg => ?_)
             rw [hj, ej] at c20
             rw [Bool.eq_iff_iff, decide_eq_true_iff, decide_eq_true_iff]
             refine ⟨fun z => ⟨z.1, z.2.1, z.2.2.1, by omega⟩, fun z => ⟨z.1, z.2.1, z.2.2.1, ?_⟩⟩
             by_cases e : g = k
             · subst e
               first
               | exact absurd c20 (by omega)
               | (rw [ej] at c31; exact absurd c31 (by have := z.2.2.1; omega))
             · omega)
        · refine wp_aload_n (pc := 23) d_Chrono_findCompanions_23 rfl ?_
          refine wp_getR (pc := 24) d_Chrono_findCompanions_24 rfl (zk_161 L) zx_161_0 ?_
          refine wp_iload_n (pc := 27) d_Chrono_findCompanions_27 rfl ?_
          refine wp_iald (pc := 28) d_Chrono_findCompanions_28 (zk_162 L) (by omega) (by omega) ?_
          refine wp_iload_n (pc := 29) d_Chrono_findCompanions_29 rfl ?_
          refine wp_iand (v := ((t j.toNat &&& u : Nat) : Int)) (pc := 30) d_Chrono_findCompanions_30 (by rw [hj]; exact zn_and (by omega) (by omega)) ?_
          refine wp_if_ne (tgt := 40) (pc := 31) d_Chrono_findCompanions_31 rfl (fun c31 => ?_) (fun c31 => ?_)
          · refine wp_iinc3 (pc := 40) d_Chrono_findCompanions_40 rfl (by omega) (by omega) ?_
            refine wp_goto (tgt := 4) (pc := 43) d_Chrono_findCompanions_43 rfl ?_
            first
            | (refine ih (k + 1) _ (j + 1) (by omega) (by omega) (by omega) (z_or1 g3 (by omega) (by omega) (fun g hg => ?_))
               rw [hj] at c20
               by_cases e : g = k
               · subst e
                 rw [decide_eq_true (show (g : Int) = j by omega), Bool.or_true]
                 rw [ej] at c20 c31
                 exact decide_eq_true ⟨by omega, by omega, by omega, by omega⟩
               · rw [decide_eq_false (show ¬ (g : Int) = j by omega), Bool.or_false]
                 rw [Bool.eq_iff_iff, decide_eq_true_iff, decide_eq_true_iff]
                 exact ⟨fun z => ⟨z.1, z.2.1, z.2.2.1, by omega⟩, fun z => ⟨z.1, z.2.1, z.2.2.1, by omega⟩⟩)
            | (refine ih (k + 1) v (j + 1) (by omega) (by omega) (by omega) (g3.trans ?_)
               congr 1
               refine qBm_congr (fun g hg => ?_)
               rw [hj, ej] at c20
               rw [Bool.eq_iff_iff, decide_eq_true_iff, decide_eq_true_iff]
               refine ⟨fun z => ⟨z.1, z.2.1, z.2.2.1, by omega⟩, fun z => ⟨z.1, z.2.1, z.2.2.1, ?_⟩⟩
               by_cases e : g = k
               · subst e
                 first
                 | exact absurd c20 (by omega)
                 | (rw [ej] at c31; exact absurd c31 (by have := z.2.2.1; omega))
               · omega)
          · refine wp_iload_n (pc := 34) d_Chrono_findCompanions_34 rfl ?_
            refine wp_iconst (pc := 35) d_Chrono_findCompanions_35 rfl ?_
            refine wp_iload_n (pc := 36) d_Chrono_findCompanions_36 rfl ?_
            refine wp_ishl (v := _) (pc := 37) d_Chrono_findCompanions_37 rfl ?_
            refine wp_ior (v := _) (pc := 38) d_Chrono_findCompanions_38 rfl ?_
            refine wp_ist2 (pc := 39) d_Chrono_findCompanions_39 rfl ?_
            refine wp_iinc3 (pc := 40) d_Chrono_findCompanions_40 rfl (by omega) (by omega) ?_
            refine wp_goto (tgt := 4) (pc := 43) d_Chrono_findCompanions_43 rfl ?_
            first
            | (refine ih (k + 1) _ (j + 1) (by omega) (by omega) (by omega) (z_or1 g3 (by omega) (by omega) (fun g hg => ?_))
               rw [hj] at c20
               by_cases e : g = k
               · subst e
                 rw [decide_eq_true (show (g : Int) = j by omega), Bool.or_true]
                 rw [ej] at c20 c31
                 exact decide_eq_true ⟨by omega, by omega, by omega, by omega⟩
               · rw [decide_eq_false (show ¬ (g : Int) = j by omega), Bool.or_false]
                 rw [Bool.eq_iff_iff, decide_eq_true_iff, decide_eq_true_iff]
                 exact ⟨fun z => ⟨z.1, z.2.1, z.2.2.1, by omega⟩, fun z => ⟨z.1, z.2.1, z.2.2.1, by omega⟩⟩)
            | (refine ih (k + 1) v (j + 1) (by omega) (by omega) (by omega) (g3.trans ?_)
               congr 1
               refine qBm_congr (fun g hg => ?_)
               rw [hj, ej] at c20
               rw [Bool.eq_iff_iff, decide_eq_true_iff, decide_eq_true_iff]
               refine ⟨fun z => ⟨z.1, z.2.1, z.2.2.1, by omega⟩, fun z => ⟨z.1, z.2.1, z.2.2.1, ?_⟩⟩
               by_cases e : g = k
               · subst e
                 first
                 | exact absurd c20 (by omega)
                 | (rw [ej] at c31; exact absurd c31 (by have := z.2.2.1; omega))
               · omega)
theorem c_Ch_comp {t : Nat → Nat} {u : Nat} (hT : ∀ f : Nat, f < 6 → M 162 f = ((t f : Nat) : Int)) (ht : ∀ f, t f < 64) (hu : u < 64) : Cf L 0 zm_Chrono_findCompanions [rV 161, iV u] M (iV ((qBm (fun g => decide (¬ u = 0 ∧ ¬ t g = 0 ∧ t g &&& u = 0)) 6 : Nat) : Int)) M := by
  show wp L _ zm_Chrono_findCompanions 0 [rV 161, iV u, uV, uV] [] M _
  refine wp_iconst (pc := 0) d_Chrono_findCompanions_0 rfl ?_
  refine wp_ist2 (pc := 1) d_Chrono_findCompanions_1 rfl ?_
  refine wp_iconst (pc := 2) d_Chrono_findCompanions_2 rfl ?_
  refine wp_ist3 (pc := 3) d_Chrono_findCompanions_3 rfl ?_
  exact lp_Ch_comp hT ht hu 100 0 0 0 (by omega) rfl (by omega) (by rw [show qBm (fun g => decide (¬ u = 0 ∧ ¬ t g = 0 ∧ t g &&& u = 0 ∧ g < 0)) 6 = qBm (fun _ => false) 6 from qBm_congr (fun g hg => decide_eq_false (fun z => by have := z.2.2.2; omega))]; rfl)
end ZCh
