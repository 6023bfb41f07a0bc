/-! StopPress: the digest's pieces -/
def Cl (L d : Nat) (m : zD) (as : List zV) (M : zM) (P : Int64 → zM → Prop) : Prop := wpc L d m as M (fun r M' => ∃ x, r = some (lV x) ∧ P x M')
theorem wp_callV0l {L d pc : Nat} {m : zD} {ls : List zV} {M : zM} {Q : Option zV → zM → Prop} {k a sz d' : Nat} {m' : zD} {rest : List zV} {P : Int64 → zM → Prop} (hd : decode m.2.2.1 pc = .ok (.invokevirtual k, 3)) (hf : zCall m.1 k = some (0, 0, m')) (hcs : decide (zCs rest ≤ 8) = true) (hk : zkd L a = some (m'.1, sz)) (hsl : decide ((zSl [rV a]).length ≤ m'.2.2.2.1) = true) (hle : decide (d' + 1 ≤ d) = true) (hc : Cl L d' m' [rV a] M P) (h : ∀ x M', P x M' → wp L d m (pc + 3) ls (lV x :: rest) M' Q) : wp L d m pc ls (rV a :: rest) M Q :=
  wp_callV (as := []) hd hf ⟨rfl, rfl⟩ hcs hk hsl hle hc (fun r M' hp => by obtain ⟨x, rfl, hp⟩ := hp; exact h x M' hp)
theorem wp_callV1l {L d pc : Nat} {m : zD} {ls : List zV} {M : zM} {Q : Option zV → zM → Prop} {k a sz d' : Nat} {m' : zD} {rest : List zV} {y1 : zV} {P : Int64 → zM → Prop} (hd : decode m.2.2.1 pc = .ok (.invokevirtual k, 3)) (hf : zCall m.1 k = some (0, 1, m')) (hcs : decide (zCs rest ≤ 8) = true) (hk : zkd L a = some (m'.1, sz)) (hsl : decide ((zSl [rV a, y1]).length ≤ m'.2.2.2.1) = true) (hle : decide (d' + 1 ≤ d) = true) (hc : Cl L d' m' [rV a, y1] M P) (h : ∀ x M', P x M' → wp L d m (pc + 3) ls (lV x :: rest) M' Q) : wp L d m pc ls (y1 :: rV a :: rest) M Q :=
  wp_callV (as := [y1]) hd hf ⟨rfl, rfl⟩ hcs hk hsl hle hc (fun r M' hp => by obtain ⟨x, rfl, hp⟩ := hp; exact h x M' hp)
/-- one more number in a digest; many of them -/
def uX (h : Int64) (v : Int) : Int64 := 31 * h + (Int32.ofInt v).toInt64
def wF (g : Int → Int64 → Int64) : Nat → Int64 → Int64
  | 0, h => h
  | k + 1, h => g (k : Int) (wF g k h)
theorem wF_s (g : Int → Int64 → Int64) (k : Nat) (h : Int64) : wF g (k + 1) h = g (k : Int) (wF g k h) := rfl
theorem wF_congr {g g' : Int → Int64 → Int64} : ∀ {n : Nat} {h : Int64}, (∀ k : Int, 0 ≤ k → k < n → ∀ h, g k h = g' k h) → wF g n h = wF g' n h := by
  intro n
  induction n with
  | zero => intro h _; rfl
  | succ n ih =>
    intro h hh
    rw [wF_s, wF_s, ih (fun k k0 k1 => hh k k0 (by omega)), hh n (by omega) (by omega)]
def dCp (D : qDt) (c : Int) (h : Int64) : Int64 := wF (fun w h => uX h (uCp D c w)) 5 h
def dTx (D : qDt) (c : Int) (h : Int64) : Int64 := wF (fun i h => uX h (D.1 c i)) (D.2.1 c).toNat h
def dRd (D : qDt) (c : Int) (h : Int64) : Int64 := wF (fun p h => uX h (uRd D c p)) (if uIn D 0 c then uPl D else 0).toNat h
def dCopies (D : qDt) (h : Int64) : Int64 := wF (fun c h => dRd D c (dTx D c (dCp D c h))) D.2.2.2.toNat h
def dTa (D : qDt) (x y : Int) (h : Int64) : Int64 := wF (fun w h => uX h (uTa D x y w)) 7 h
def dPairs (D : qDt) (h : Int64) : Int64 := wF (fun x h => wF (fun j h => dTa D x (x + 1 + j) h) (D.2.2.2 - (x + 1)).toNat h) D.2.2.2.toNat h
def dSt (D : qDt) (s : Int) (h : Int64) : Int64 := wF (fun w h => uX h (uDe D s w)) 7 h
def dStates (D : qDt) (h : Int64) : Int64 := wF (fun s h => dSt D s h) (uN D).toNat (wF (fun w h => uX h (uDa D w)) 6 h)
def dSg (Y : qYt) (i : Int) (h : Int64) : Int64 := wF (fun w h => uX h (Y.2 i w)) 4 h
def dSight (Y : qYt) (h : Int64) : Int64 := wF (fun i h => dSg Y i h) Y.1.toNat h
def dFm (Y : qYt) (f : Int) (h : Int64) : Int64 := wF (fun w h => uX h (vFm Y f w)) 5 h
def dFormes (Y : qYt) (h : Int64) : Int64 := wF (fun p h => uX h (vFi Y p)) (vOl Y).toNat (wF (fun w h => uX h (vFs Y w)) 6 (wF (fun f h => dFm Y f h) 6 h))
def xDg (D : qDt) (Y : qYt) (g : qPt) (a b : Int) : Int64 := wF (fun w h => uX h (xCt D Y g a b w)) 6 (wF (fun i h => uX h (g.2 i)) g.1.toNat (dFormes Y (dSight Y (dStates D (dPairs D (dCopies D 1607))))))
section ZDg
variable {L : Nat} {M : zM} {D : qDt} {Y : qYt} {x y z w c p s i j : Int}
theorem lp_hc3 {h0 : Int64} (h : qIC M) (hB : qBu M D) (hD : qDC M = D) (c0 : 0 ≤ c) (c1 : c < D.2.2.2) {n : Int} (hn : n = if uIn D 0 c then uPl D else 0) {hb : Int64} {Qx : Option zV → zM → Prop} (hq : ∀ (u6 u7 u8 : zV), wp L 8 zm_P_hashCopies 5 [rV 4, lV h0, uV, lV (dRd D c hb), uV, iV (c + 1), u6, u7, u8] [] M Qx) : ∀ (n9 : Nat) (k : Nat) (hv : Int64) (p : Int) (u : zV), n - p < n9 → (p = k) → (p ≤ n) → (hv = wF (fun p h => uX h (uRd D c p)) k hb) → wp L 8 zm_P_hashCopies 125 [rV 4, lV h0, uV, lV hv, uV, iV c, u, iV n, iV p] [] M (Qx) := by
  intro n9
  induction n9 with
  | zero =>
    intro k  hv  p  u  h9 g1 g2 g3
    have hci := h.1
    obtain ⟨a1, a2, a3, a4, a5, a6⟩ := hci
    have hd := h.d
    have hpl := qDC_pl h.1
    rw [hD] at hd hpl
    have eN : D.2.2.2 = M 7 3 := by rw [← hD]; rfl
    have hn0 : 0 ≤ n ∧ n ≤ 24 := by rw [hn]; split <;> omega
    exact absurd h9 (by omega)
  | succ n9 ih =>
    intro k  hv  p  u  h9 g1 g2 g3
    have hci := h.1
    obtain ⟨a1, a2, a3, a4, a5, a6⟩ := hci
    have hd := h.d
    have hpl := qDC_pl h.1
    rw [hD] at hd hpl
    have eN : D.2.2.2 = M 7 3 := by rw [← hD]; rfl
    have hn0 : 0 ≤ n ∧ n ≤ 24 := by rw [hn]; split <;> omega
    have hq1 := qBu_i (x := 0) hB hd.1 hd.2.1 hpl.1 hpl.2.1
    refine wp_iload (pc := 125) d_P_hashCopies_125 rfl ?_
    refine wp_iload (pc := 127) d_P_hashCopies_127 rfl ?_
    refine wp_icmp_ge (tgt := 157) (pc := 129) d_P_hashCopies_129 rfl (fun c129 => ?_) (fun c129 => ?_)
    · refine wp_iinc5 (pc := 157) d_P_hashCopies_157 rfl (by omega) (by omega) ?_
      refine wp_goto (tgt := 5) (pc := 160) d_P_hashCopies_160 rfl ?_
      have := hq u (iV n) (iV p)
      unfold dRd at this
      rw [← hn, show n.toNat = k by omega, ← g3] at this
      exact this
    · refine wp_ldc2_w (pc := 132) d_P_hashCopies_132 rfl ?_
      refine wp_lload_n (pc := 135) d_P_hashCopies_135 rfl ?_
      refine wp_lmul (pc := 136) d_P_hashCopies_136 ?_
      refine wp_aload_n (pc := 137) d_P_hashCopies_137 rfl ?_
      refine wp_getR (pc := 138) d_P_hashCopies_138 rfl (zk_4 L) zx_4_2 ?_
      refine wp_iload (pc := 141) d_P_hashCopies_141 rfl ?_
      refine wp_iload (pc := 143) d_P_hashCopies_143 rfl ?_
      have hin : uIn D 0 c := Decidable.of_not_not (fun z => by rw [if_neg z] at hn; omega)
      rw [if_pos hin] at hn
      refine wp_callV2f (pc := 145) d_P_hashCopies_145 rfl rfl (zk_132 L) rfl rfl (c_Sm_readingAt hq1.1.2.1.2) ?_
      rw [qBu_rd hB hd.1 hd.2.1 hpl.1 hpl.2.1 c0 c1 hin (by omega) (by omega)]
      refine wp_i2l (pc := 148) d_P_hashCopies_148 ?_
      refine wp_ladd (pc := 149) d_P_hashCopies_149 ?_
      refine wp_lst3 (pc := 150) d_P_hashCopies_150 rfl ?_
      refine wp_iinc8 (pc := 151) d_P_hashCopies_151 rfl (by omega) (by omega) ?_
      refine wp_goto (tgt := 125) (pc := 154) d_P_hashCopies_154 rfl ?_
      refine ih (k + 1) _ (p + 1) _ (by omega) (by omega) (by omega) ?_
      rw [wF_s, ← g3, ← g1]
      rfl
theorem lp_hc2 {h0 : Int64} (h : qIC M) (hB : qBu M D) (hD : qDC M = D) (c0 : 0 ≤ c) (c1 : c < D.2.2.2) {hb : Int64} {Qx : Option zV → zM → Prop} (hq : ∀ (u6 u7 u8 : zV), wp L 8 zm_P_hashCopies 5 [rV 4, lV h0, uV, lV (dRd D c (dTx D c hb)), uV, iV (c + 1), u6, u7, u8] [] M Qx) : ∀ (n9 : Nat) (k : Nat) (hv : Int64) (p : Int) (u7 : zV) (u8 : zV), D.2.1 c - p < n9 → (p = k) → (p ≤ D.2.1 c) → (hv = wF (fun i h => uX h (D.1 c i)) k hb) → wp L 8 zm_P_hashCopies 62 [rV 4, lV h0, uV, lV hv, uV, iV c, rV (12 + 2 * c.toNat), iV p, u8] [] M (Qx) := by
  intro n9
  induction n9 with
  | zero =>
    intro k  hv  p  u7  u8  h9 g1 g2 g3
    have hci := h.1
    obtain ⟨a1, a2, a3, a4, a5, a6⟩ := hci
    have hd := h.d
    have hpl := qDC_pl h.1
    rw [hD] at hd hpl
    have eN : D.2.2.2 = M 7 3 := by rw [← hD]; rfl
    exact absurd h9 (by omega)
  | succ n9 ih =>
    intro k  hv  p  u7  u8  h9 g1 g2 g3
    have hci := h.1
    obtain ⟨a1, a2, a3, a4, a5, a6⟩ := hci
    have hd := h.d
    have hpl := qDC_pl h.1
    rw [hD] at hd hpl
    have eN : D.2.2.2 = M 7 3 := by rw [← hD]; rfl
    have el : D.2.1 c = M (12 + 2 * c.toNat) 1 := by rw [← hD]; exact qDC_2 c0 (by omega)
    have ef : D.1 c = qTx M (12 + 2 * c.toNat) := by rw [← hD]; exact qDC_1 c0 (by omega)
    have hlc := a4 c.toNat (by omega)
    have hl24 := hlc.2.1
    have hso := qBu_so hB hd.1 hd.2.1 hpl.1 hpl.2.1 (c := c) (by omega) (by omega)
    refine wp_iload (pc := 62) d_P_hashCopies_62 rfl ?_
    refine wp_aload (pc := 64) d_P_hashCopies_64 rfl ?_
    refine wp_callV0f (pc := 66) d_P_hashCopies_66 rfl rfl (zTx_i L (show c.toNat < 6 by omega)).1 rfl rfl (c_Text_size (zTx_i L (show c.toNat < 6 by omega))) ?_
    rw [← el]
    refine wp_icmp_ge (tgt := 93) (pc := 69) d_P_hashCopies_69 rfl (fun c69 => ?_) (fun c69 => ?_)
    · refine wp_aload_n (pc := 93) d_P_hashCopies_93 rfl ?_
      refine wp_getR (pc := 94) d_P_hashCopies_94 rfl (zk_4 L) zx_4_2 ?_
      refine wp_iload (pc := 97) d_P_hashCopies_97 rfl ?_
      refine wp_callV1f (pc := 99) d_P_hashCopies_99 rfl rfl (zk_132 L) rfl rfl c_Sm_isExcl ?_
      rw [if_pos (show 0 ≤ c ∧ c < 6 by omega)]
      refine wp_if_eq (tgt := 109) (pc := 102) d_P_hashCopies_102 rfl (fun c102 => ?_) (fun c102 => ?_)
      · have hin : uIn D 0 c := Decidable.of_not_not (fun z => zb_eq0 c102 (hso.2.2 z))
        refine wp_aload_n (pc := 109) d_P_hashCopies_109 rfl ?_
        refine wp_getR (pc := 110) d_P_hashCopies_110 rfl (zk_4 L) zx_4_1 ?_
        refine wp_iconst (pc := 113) d_P_hashCopies_113 rfl ?_
        refine wp_callV1f (pc := 114) d_P_hashCopies_114 rfl rfl (zk_7 L) rfl rfl (c_Co_text (by omega)) ?_
        rw [if_pos (by omega)]
        refine wp_callV0f (pc := 117) d_P_hashCopies_117 rfl rfl (zTx_i L (show 0 < 6 by decide)).1 rfl rfl (c_Text_size (zTx_i L (show 0 < 6 by decide))) ?_
        have ep : M (12 + 2 * (0 : Int).toNat) 1 = uPl D := (hpl.2.2 (by omega)).symm
        rw [ep]
        refine wp_ist7 (pc := 120) d_P_hashCopies_120 rfl ?_
        refine wp_iconst (pc := 122) d_P_hashCopies_122 rfl ?_
        refine wp_ist8 (pc := 123) d_P_hashCopies_123 rfl ?_
        have hx : dTx D c hb = hv := by unfold dTx; rw [g3, show (D.2.1 c).toNat = k by omega]
        first
        | exact lp_hc3 h hB hD c0 c1 (n := uPl D) (by rw [if_pos hin]) (hb := hv) (fun u6 u7 u8 => by rw [← hx]; exact hq u6 u7 u8) 100 0 hv 0 _ (by omega) rfl (by omega) rfl
        | exact lp_hc3 h hB hD c0 c1 (n := 0) (by rw [if_neg hin]) (hb := hv) (fun u6 u7 u8 => by rw [← hx]; exact hq u6 u7 u8) 100 0 hv 0 _ (by omega) rfl (by omega) rfl
      · have hin : ¬ uIn D 0 c := hso.2.1 (zb_ne0 c102)
        refine wp_iconst (pc := 105) d_P_hashCopies_105 rfl ?_
        refine wp_goto (tgt := 120) (pc := 106) d_P_hashCopies_106 rfl ?_
        refine wp_ist7 (pc := 120) d_P_hashCopies_120 rfl ?_
        refine wp_iconst (pc := 122) d_P_hashCopies_122 rfl ?_
        refine wp_ist8 (pc := 123) d_P_hashCopies_123 rfl ?_
        have hx : dTx D c hb = hv := by unfold dTx; rw [g3, show (D.2.1 c).toNat = k by omega]
        first
        | exact lp_hc3 h hB hD c0 c1 (n := uPl D) (by rw [if_pos hin]) (hb := hv) (fun u6 u7 u8 => by rw [← hx]; exact hq u6 u7 u8) 100 0 hv 0 _ (by omega) rfl (by omega) rfl
        | exact lp_hc3 h hB hD c0 c1 (n := 0) (by rw [if_neg hin]) (hb := hv) (fun u6 u7 u8 => by rw [← hx]; exact hq u6 u7 u8) 100 0 hv 0 _ (by omega) rfl (by omega) rfl
    · refine wp_ldc2_w (pc := 72) d_P_hashCopies_72 rfl ?_
      refine wp_lload_n (pc := 75) d_P_hashCopies_75 rfl ?_
      refine wp_lmul (pc := 76) d_P_hashCopies_76 ?_
      refine wp_aload (pc := 77) d_P_hashCopies_77 rfl ?_
      refine wp_iload (pc := 79) d_P_hashCopies_79 rfl ?_
      refine wp_callV1f (pc := 81) d_P_hashCopies_81 rfl rfl (zTx_i L (show c.toNat < 6 by omega)).1 rfl rfl (c_Text_at (zTx_i L (show c.toNat < 6 by omega)) hlc.2.1) ?_
      rw [show (if 0 ≤ p ∧ p < M (12 + 2 * c.toNat) 1 then M (12 + 2 * c.toNat + 1) p.toNat else -1) = D.1 c p from (congrFun ef p).symm]
      refine wp_i2l (pc := 84) d_P_hashCopies_84 ?_
      refine wp_ladd (pc := 85) d_P_hashCopies_85 ?_
      refine wp_lst3 (pc := 86) d_P_hashCopies_86 rfl ?_
      refine wp_iinc7 (pc := 87) d_P_hashCopies_87 rfl (by omega) (by omega) ?_
      refine wp_goto (tgt := 62) (pc := 90) d_P_hashCopies_90 rfl ?_
      refine ih (k + 1) _ (p + 1) u7 u8 (by omega) (by omega) (by omega) ?_
      rw [wF_s, ← g3, ← g1]
      rfl
theorem lp_hc1 {h0 : Int64} {M0 : zM} (c0 : 0 ≤ c) (c1 : c < D.2.2.2) {hb : Int64} {Qx : Option zV → zM → Prop} (hq : ∀ (M' : zM) (u6 u7 u8 : zV), (zSm (fun a => a = 11 ∨ (24 ≤ a ∧ a < 147)) M0 M' ∧ qIC M' ∧ qDC M' = D ∧ qBu M' D) → wp L 8 zm_P_hashCopies 5 [rV 4, lV h0, uV, lV (dRd D c (dTx D c (dCp D c hb))), uV, iV (c + 1), u6, u7, u8] [] M' Qx) : ∀ (n9 : Nat) (k : Nat) (hv : Int64) (p : Int) (M : zM) (u7 : zV) (u8 : zV), 5 - p < n9 → (p = k) → (p ≤ 5) → (hv = wF (fun w h => uX h (uCp D c w)) k hb) → (zSm (fun a => a = 11 ∨ (24 ≤ a ∧ a < 147)) M0 M ∧ qIC M ∧ qDC M = D ∧ qBu M D) → wp L 8 zm_P_hashCopies 20 [rV 4, lV h0, uV, lV hv, uV, iV c, iV p, u7, u8] [] M (Qx) := by
  intro n9
  induction n9 with
  | zero =>
    intro k  hv  p  M  u7  u8  h9 g1 g2 g3 g4
    exact absurd h9 (by omega)
  | succ n9 ih =>
    intro k  hv  p  M  u7  u8  h9 g1 g2 g3 g4
    obtain ⟨q1, h, hD, hB⟩ := g4
    have hci := h.1
    obtain ⟨a1, a2, a3, a4, a5, a6⟩ := hci
    have hd := h.d
    have hpl := qDC_pl h.1
    rw [hD] at hd hpl
    have eN : D.2.2.2 = M 7 3 := by rw [← hD]; rfl
    refine wp_iload (pc := 20) d_P_hashCopies_20 rfl ?_
    refine wp_iconst (pc := 22) d_P_hashCopies_22 rfl ?_
    refine wp_icmp_gt (tgt := 48) (pc := 23) d_P_hashCopies_23 rfl (fun c23 => ?_) (fun c23 => ?_)
    · refine wp_aload_n (pc := 48) d_P_hashCopies_48 rfl ?_
      refine wp_getR (pc := 49) d_P_hashCopies_49 rfl (zk_4 L) zx_4_1 ?_
      refine wp_iload (pc := 52) d_P_hashCopies_52 rfl ?_
      refine wp_callV1f (pc := 54) d_P_hashCopies_54 rfl rfl (zk_7 L) rfl rfl (c_Co_text (by omega)) ?_
      rw [if_pos (by omega)]
      refine wp_ast6 (pc := 57) d_P_hashCopies_57 rfl ?_
      refine wp_iconst (pc := 59) d_P_hashCopies_59 rfl ?_
      refine wp_ist7 (pc := 60) d_P_hashCopies_60 rfl ?_
      have hx : dCp D c hb = hv := by unfold dCp; rw [g3, show 5 = k by omega]
      have el : D.2.1 c = M (12 + 2 * c.toNat) 1 := by rw [← hD]; exact qDC_2 c0 (by omega)
      have hlc := a4 c.toNat (by omega)
      exact lp_hc2 h hB hD c0 c1 (hb := hv) (fun u6 u7 u8 => by rw [← hx]; exact hq M u6 u7 u8 ⟨q1, h, hD, hB⟩) 100 0 hv 0 u7 u8 (by have := hlc.2.1; omega) rfl (by have := hlc.1; omega) rfl
    · refine wp_ldc2_w (pc := 26) d_P_hashCopies_26 rfl ?_
      refine wp_lload_n (pc := 29) d_P_hashCopies_29 rfl ?_
      refine wp_lmul (pc := 30) d_P_hashCopies_30 ?_
      refine wp_aload_n (pc := 31) d_P_hashCopies_31 rfl ?_
      refine wp_iload (pc := 32) d_P_hashCopies_32 rfl ?_
      refine wp_iload (pc := 34) d_P_hashCopies_34 rfl ?_
      refine wp_callV2i (pc := 36) d_P_hashCopies_36 rfl rfl (zk_4 L) rfl rfl (c_P_dc h (by rw [hD]; exact hB) c0 (by omega)) (fun x36 M36 h36 => ?_)
      obtain ⟨y1, y2, y3, y4, y5⟩ := h36
      rw [hD] at y1 y4 y5
      rw [y1]
      refine wp_i2l (pc := 39) d_P_hashCopies_39 ?_
      refine wp_ladd (pc := 40) d_P_hashCopies_40 ?_
      refine wp_lst3 (pc := 41) d_P_hashCopies_41 rfl ?_
      refine wp_iinc6 (pc := 42) d_P_hashCopies_42 rfl (by omega) (by omega) ?_
      refine wp_goto (tgt := 20) (pc := 45) d_P_hashCopies_45 rfl ?_
      refine ih (k + 1) _ (p + 1) M36 u7 u8 (by omega) (by omega) (by omega) ?_ ⟨q1.tr y2, y3, y4, y5⟩
      rw [wF_s, ← g3, ← g1]
      rfl
theorem lp_hc {M0 : zM} {h0 : Int64} : ∀ (n9 : Nat) (k : Nat) (hv : Int64) (c : Int) (M : zM) (u6 : zV) (u7 : zV) (u8 : zV), 6 - c < n9 → (c = k) → (c ≤ D.2.2.2 ∧ D.2.2.2 ≤ 6) → (hv = wF (fun c h => dRd D c (dTx D c (dCp D c h))) k h0) → (zSm (fun a => a = 11 ∨ (24 ≤ a ∧ a < 147)) M0 M ∧ qIC M ∧ qDC M = D ∧ qBu M D) → wp L 8 zm_P_hashCopies 5 [rV 4, lV h0, uV, lV hv, uV, iV c, u6, u7, u8] [] M (fun r M' => ∃ x, r = some (lV x) ∧ (x = dCopies D h0 ∧ (zSm (fun a => a = 11 ∨ (24 ≤ a ∧ a < 147)) M0 M' ∧ qIC M' ∧ qDC M' = D ∧ qBu M' D))) := by
  intro n9
  induction n9 with
  | zero =>
    intro k  hv  c  M  u6  u7  u8  h9 g1 g2 g3 g4
    exact absurd h9 (by omega)
  | succ n9 ih =>
    intro k  hv  c  M  u6  u7  u8  h9 g1 g2 g3 g4
    obtain ⟨q1, h, hD, hB⟩ := g4
    have hci := h.1
    obtain ⟨a1, a2, a3, a4, a5, a6⟩ := hci
    have hd := h.d
    have hpl := qDC_pl h.1
    rw [hD] at hd hpl
    have eN : D.2.2.2 = M 7 3 := by rw [← hD]; rfl
    refine wp_iload (pc := 5) d_P_hashCopies_5 rfl ?_
    refine wp_aload_n (pc := 7) d_P_hashCopies_7 rfl ?_
    refine wp_getR (pc := 8) d_P_hashCopies_8 rfl (zk_4 L) zx_4_1 ?_
    refine wp_callV0f (pc := 11) d_P_hashCopies_11 rfl rfl (zk_7 L) rfl rfl c_Co_size ?_
    refine wp_icmp_ge (tgt := 163) (pc := 14) d_P_hashCopies_14 rfl (fun c14 => ?_) (fun c14 => ?_)
    · refine wp_lload_n (pc := 163) d_P_hashCopies_163 rfl ?_
      refine wp_lreturn (pc := 164) d_P_hashCopies_164 rfl ?_
      exact ⟨_, rfl, by unfold dCopies; rw [g3, show D.2.2.2.toNat = k by omega], q1, h, hD, hB⟩
    · refine wp_iconst (pc := 17) d_P_hashCopies_17 rfl ?_
      refine wp_ist6 (pc := 18) d_P_hashCopies_18 rfl ?_
      exact lp_hc1 (M0 := M0) (by omega) (by omega) (hb := hv) (fun M' v6 v7 v8 hh => ih (k + 1) _ (c + 1) M' v6 v7 v8 (by omega) (by omega) (by omega) (by rw [wF_s, ← g3, ← g1]) hh) 100 0 hv 0 M u7 u8 (by omega) rfl (by omega) rfl ⟨q1, h, hD, hB⟩
theorem c_P_hc {h0 : Int64} (h : qIC M) (hB : qBu M D) (hD : qDC M = D) : Cl L 8 zm_P_hashCopies [rV 4, lV h0] M (fun x M' => x = dCopies D h0 ∧ (zSm (fun a => a = 11 ∨ (24 ≤ a ∧ a < 147)) M M' ∧ qIC M' ∧ qDC M' = D ∧ qBu M' D)) := by
  show wp L _ zm_P_hashCopies 0 [rV 4, lV h0, uV, uV, uV, uV, uV, uV, uV] [] M _
  have hd := h.d
  rw [hD] at hd
  refine wp_lload_n (pc := 0) d_P_hashCopies_0 rfl ?_
  refine wp_lst3 (pc := 1) d_P_hashCopies_1 rfl ?_
  refine wp_iconst (pc := 2) d_P_hashCopies_2 rfl ?_
  refine wp_ist5 (pc := 3) d_P_hashCopies_3 rfl ?_
  exact lp_hc (M0 := M) 100 0 h0 0 M _ _ _ (by omega) rfl ⟨hd.2.2, hd.2.1⟩ rfl ⟨zSm.rf, h, hD, hB⟩
end ZDg
