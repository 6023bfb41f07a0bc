/-! Integer.bitCount, for sets of 24; Integer.numberOfTrailingZeros, for sets of 6 -/
theorem qN_add (c : Int → Bool) (n : Nat) : ∀ m : Nat, qN c (n + m) = qN c n + qN (fun k => c (k + n)) m := by
  intro m
  induction m with
  | zero => simp only [qN, Nat.add_zero, Int.add_zero]
  | succ m ih =>
    rw [show n + (m + 1) = (n + m) + 1 by omega]
    simp only [qN]
    rw [ih, show (((n + m : Nat) : Int)) = (m : Int) + n by omega]
    omega
theorem zs_and {h l m r : Nat} (hl : l < 256) (hr : r < 256) : (256 * h + l) &&& (256 * m + r) = 256 * (h &&& m) + (l &&& r) := by
  have hlr : l &&& r < 256 := Nat.lt_of_le_of_lt Nat.and_le_left hl
  apply Nat.eq_of_testBit_eq
  intro k
  rw [Nat.testBit_and, show 256 = 2 ^ 8 from rfl, Nat.testBit_two_pow_mul_add _ hl, Nat.testBit_two_pow_mul_add _ hr, Nat.testBit_two_pow_mul_add _ hlr]
  split
  · rw [Nat.testBit_and]
  · rw [Nat.testBit_and]
theorem zs_and3 {a b c x y z w : Nat} (hb : b < 256) (hc : c < 256) (ha : a < 256) (hx : x < 256) (hy : y < 256) (hz : z < 256) : (65536 * a + 256 * b + c) &&& (16777216 * w + 65536 * x + 256 * y + z) = 65536 * (a &&& x) + 256 * (b &&& y) + (c &&& z) := by
  rw [show 65536 * a + 256 * b + c = 256 * (256 * (256 * 0 + a) + b) + c by omega, show 16777216 * w + 65536 * x + 256 * y + z = 256 * (256 * (256 * w + x) + y) + z by omega, zs_and hc hz, zs_and hb hy, zs_and ha hx, Nat.zero_and]
  omega
def qF1 (c : Nat) : Nat := c - ((c / 2) &&& 85)
def qF2 (c : Nat) : Nat := (c &&& 51) + ((c / 4) &&& 51)
def qF3 (c : Nat) : Nat := (c + c / 16) % 16
def qS1 (x : Nat) : Nat := x - ((x >>> 1) &&& 1431655765)
def qS2 (x : Nat) : Nat := (x &&& 858993459) + ((x >>> 2) &&& 858993459)
def qS3 (x : Nat) : Nat := (x + (x >>> 4)) &&& 252645135
theorem zF1 : ∀ c, c < 256 → ∀ t, t < 2 → (t * 128 + c / 2) &&& 85 = (c / 2) &&& 85 ∧ (c / 2) &&& 85 ≤ c := by decide +kernel
theorem zF2 : ∀ c, c < 256 → ∀ t, t < 4 → (t * 64 + c / 4) &&& 51 = (c / 4) &&& 51 := by decide +kernel
theorem zF21 : ∀ c, c < 256 → qF2 (qF1 c) ≤ 68 ∧ qF2 (qF1 c) % 16 ≤ 4 := by decide +kernel
theorem zF3 : ∀ c, c < 69 → ∀ t, t < 5 → (c + (t * 16 + c / 16)) &&& 15 = qF3 c := by decide +kernel
theorem zF321 : ∀ c, c < 256 → ((qF3 (qF2 (qF1 c)) : Nat) : Int) = qPc c 8 ∧ qF3 (qF2 (qF1 c)) ≤ 8 := by decide +kernel
theorem qw1x {a b c : Nat} (ha : a < 256) (hb : b < 256) (hc : c < 256) : ((65536 * a + 256 * b + c) >>> 1) &&& 1431655765 = 65536 * ((a / 2) &&& 85) + 256 * ((b / 2) &&& 85) + ((c / 2) &&& 85) := by
  rw [Nat.shiftRight_eq_div_pow, show (65536 * a + 256 * b + c) / 2 ^ 1 = 65536 * (a / 2) + 256 * ((a % 2) * 128 + b / 2) + ((b % 2) * 128 + c / 2) by omega,
    show 1431655765 = 16777216 * 85 + 65536 * 85 + 256 * 85 + 85 from rfl, zs_and3 (by omega) (by omega) (by omega) (by decide) (by decide) (by decide), (zF1 b hb _ (by omega)).1, (zF1 c hc _ (by omega)).1]
theorem qw1 {a b c : Nat} (ha : a < 256) (hb : b < 256) (hc : c < 256) : qS1 (65536 * a + 256 * b + c) = 65536 * qF1 a + 256 * qF1 b + qF1 c := by
  unfold qS1 qF1
  rw [qw1x ha hb hc]
  have h1 := (zF1 a ha 0 (by decide)).2
  have h2 := (zF1 b hb 0 (by decide)).2
  have h3 := (zF1 c hc 0 (by decide)).2
  omega
theorem qw2 {a b c : Nat} (ha : a < 256) (hb : b < 256) (hc : c < 256) : qS2 (65536 * a + 256 * b + c) = 65536 * qF2 a + 256 * qF2 b + qF2 c := by
  unfold qS2 qF2
  rw [Nat.shiftRight_eq_div_pow, show (65536 * a + 256 * b + c) / 2 ^ 2 = 65536 * (a / 4) + 256 * ((a % 4) * 64 + b / 4) + ((b % 4) * 64 + c / 4) by omega,
    show 858993459 = 16777216 * 51 + 65536 * 51 + 256 * 51 + 51 from rfl, zs_and3 (by omega) (by omega) (by omega) (by decide) (by decide) (by decide), zs_and3 (by omega) (by omega) (by omega) (by decide) (by decide) (by decide), zF2 b hb _ (by omega), zF2 c hc _ (by omega)]
  omega
theorem qw3 {a b c : Nat} (ha : a ≤ 68) (hb : b ≤ 68) (hc : c ≤ 68) (ha4 : a % 16 ≤ 4) (hb4 : b % 16 ≤ 4) : qS3 (65536 * a + 256 * b + c) = 65536 * qF3 a + 256 * qF3 b + qF3 c := by
  unfold qS3
  rw [Nat.shiftRight_eq_div_pow, show 65536 * a + 256 * b + c + (65536 * a + 256 * b + c) / 2 ^ 4 = 65536 * (a + (0 * 16 + a / 16)) + 256 * (b + ((a % 16) * 16 + b / 16)) + (c + ((b % 16) * 16 + c / 16)) by omega,
    show 252645135 = 16777216 * 15 + 65536 * 15 + 256 * 15 + 15 from rfl, zs_and3 (by omega) (by omega) (by omega) (by decide) (by decide) (by decide), zF3 a (by omega) _ (by omega), zF3 b (by omega) _ (by omega), zF3 c (by omega) _ (by omega)]
theorem qPc_3 {a b c : Nat} (hb : b < 256) (hc : c < 256) : qPc (65536 * a + 256 * b + c) 24 = qPc a 8 + qPc b 8 + qPc c 8 := by
  unfold qPc
  rw [show 24 = 8 + (8 + 8) from rfl, qN_add, qN_add]
  rw [qN_congr (n := 8) (c' := fun k => c.testBit k.toNat) (fun k k0 k1 => by
      rw [show 65536 * a + 256 * b + c = 2 ^ 8 * (256 * a + b) + c by omega, Nat.testBit_two_pow_mul_add _ hc, if_pos (by omega)])]
  rw [qN_congr (n := 8) (c := fun k => (65536 * a + 256 * b + c).testBit (k + (8 : Nat)).toNat) (c' := fun k => b.testBit k.toNat) (fun k k0 k1 => by
      rw [show 65536 * a + 256 * b + c = 2 ^ 8 * (2 ^ 8 * a + b) + c by omega, Nat.testBit_two_pow_mul_add _ hc, if_neg (by omega), show (k + (8 : Nat)).toNat - 8 = k.toNat by omega, Nat.testBit_two_pow_mul_add _ hb, if_pos (by omega)])]
  rw [qN_congr (n := 8) (c := fun k => (65536 * a + 256 * b + c).testBit (k + (8 : Nat) + (8 : Nat)).toNat) (c' := fun k => a.testBit k.toNat) (fun k k0 k1 => by
      rw [show 65536 * a + 256 * b + c = 2 ^ 8 * (2 ^ 8 * a + b) + c by omega, Nat.testBit_two_pow_mul_add _ hc, if_neg (by omega), show (k + (8 : Nat) + (8 : Nat)).toNat - 8 = k.toNat + 8 by omega, Nat.testBit_two_pow_mul_add _ hb, if_neg (by omega), show k.toNat + 8 - 8 = k.toNat by omega])]
  omega
/-- what the last rows make of three bytes -/
theorem qw4 {p q r : Nat} (hp : p ≤ 8) (hq : q ≤ 8) (hr : r ≤ 8) : (65536 * p + 256 * q + r + (65536 * p + 256 * q + r) >>> 8 + (65536 * p + 256 * q + r + (65536 * p + 256 * q + r) >>> 8) >>> 16) &&& 63 = p + q + r := by
  have h1 : (65536 * p + 256 * q + r) >>> 8 = 256 * p + q := by rw [Nat.shiftRight_eq_div_pow]; omega
  have h2 : (65536 * p + 256 * q + r + (256 * p + q)) >>> 16 = p := by rw [Nat.shiftRight_eq_div_pow]; omega
  rw [h1, h2, show 63 = 2 ^ 6 - 1 from rfl, Nat.and_two_pow_sub_one_eq_mod]
  omega
theorem zS_all {x : Nat} (hx : x < 16777216) : ∃ p q r, p ≤ 8 ∧ q ≤ 8 ∧ r ≤ 8 ∧ qS3 (qS2 (qS1 x)) = 65536 * p + 256 * q + r ∧ qPc x 24 = ((p + q + r : Nat) : Int) ∧ qS1 x ≤ x ∧ (x >>> 1) &&& 1431655765 ≤ x ∧ qS2 (qS1 x) < 16777216 := by
  have e : x = 65536 * (x / 65536) + 256 * (x / 256 % 256) + x % 256 := by omega
  have ha : x / 65536 < 256 := by omega
  have hb : x / 256 % 256 < 256 := by omega
  have hc : x % 256 < 256 := by omega
  generalize x / 65536 = a at e ha
  generalize x / 256 % 256 = b at e hb
  generalize x % 256 = c at e hc
  subst e
  have f1 : ∀ c, qF1 c ≤ c := fun c => Nat.sub_le _ _
  have g1 := f1 a
  have g2 := f1 b
  have g3 := f1 c
  have k1 := zF21 a ha
  have k2 := zF21 b hb
  have k3 := zF21 c hc
  have m1 := zF321 a ha
  have m2 := zF321 b hb
  have m3 := zF321 c hc
  have n1 := (zF1 a ha 0 (by decide)).2
  have n2 := (zF1 b hb 0 (by decide)).2
  have n3 := (zF1 c hc 0 (by decide)).2
  refine ⟨qF3 (qF2 (qF1 a)), qF3 (qF2 (qF1 b)), qF3 (qF2 (qF1 c)), m1.2, m2.2, m3.2, ?_, ?_, Nat.sub_le _ _, ?_, ?_⟩
  · rw [qw1 ha hb hc, qw2 (by omega) (by omega) (by omega), qw3 k1.1 k2.1 k3.1 k1.2 k2.2]
  · rw [qPc_3 hb hc, ← m1.1, ← m2.1, ← m3.1]
    omega
  · rw [qw1x ha hb hc]; omega
  · rw [qw1 ha hb hc, qw2 (by omega) (by omega) (by omega)]; omega
section ZBc
variable {L : Nat} {M : zM}
theorem c_bitCount {x : Nat} (hx : x < 16777216) : Cf L 0 zm_Int_bitCount [iV (x : Int)] M (iV (qPc x 24)) M := by
  show wp L _ zm_Int_bitCount 0 [iV (x : Int)] [] M _
  obtain ⟨p, q, r, hp, hq, hr, h3, hP, hs1, hs0, hs2⟩ := zS_all hx
  have hu1 : qS1 x < 2147483648 := by omega
  have hv1 : (x >>> 1) &&& 1431655765 < 2147483648 := by omega
  have hz1 : x >>> 1 ≤ x := by rw [Nat.shiftRight_eq_div_pow]; exact Nat.div_le_self _ _
  have e1 : (x : Int) - (((x >>> 1) &&& 1431655765 : Nat) : Int) = ((qS1 x : Nat) : Int) := by unfold qS1; omega
  have hz2 : qS1 x >>> 2 ≤ qS1 x := by rw [Nat.shiftRight_eq_div_pow]; exact Nat.div_le_self _ _
  have e2 : ((qS1 x &&& 858993459 : Nat) : Int) + ((qS1 x >>> 2 &&& 858993459 : Nat) : Int) = ((qS2 (qS1 x) : Nat) : Int) := by unfold qS2; omega
  have hz4 : qS2 (qS1 x) >>> 4 ≤ qS2 (qS1 x) := by rw [Nat.shiftRight_eq_div_pow]; exact Nat.div_le_self _ _
  have e3 : ((qS2 (qS1 x) : Nat) : Int) + ((qS2 (qS1 x) >>> 4 : Nat) : Int) = ((qS2 (qS1 x) + qS2 (qS1 x) >>> 4 : Nat) : Int) := by omega
  have e4 : ((qS2 (qS1 x) + qS2 (qS1 x) >>> 4) &&& 252645135) = qS3 (qS2 (qS1 x)) := rfl
  have hz5 : qS3 (qS2 (qS1 x)) >>> 8 ≤ qS3 (qS2 (qS1 x)) := by rw [Nat.shiftRight_eq_div_pow]; exact Nat.div_le_self _ _
  have e5 : ((qS3 (qS2 (qS1 x)) : Nat) : Int) + ((qS3 (qS2 (qS1 x)) >>> 8 : Nat) : Int) = ((qS3 (qS2 (qS1 x)) + qS3 (qS2 (qS1 x)) >>> 8 : Nat) : Int) := by omega
  have hz6 : (qS3 (qS2 (qS1 x)) + qS3 (qS2 (qS1 x)) >>> 8) >>> 16 ≤ qS3 (qS2 (qS1 x)) + qS3 (qS2 (qS1 x)) >>> 8 := by rw [Nat.shiftRight_eq_div_pow]; exact Nat.div_le_self _ _
  have e6 : ((qS3 (qS2 (qS1 x)) + qS3 (qS2 (qS1 x)) >>> 8 : Nat) : Int) + (((qS3 (qS2 (qS1 x)) + qS3 (qS2 (qS1 x)) >>> 8) >>> 16 : Nat) : Int) = ((qS3 (qS2 (qS1 x)) + qS3 (qS2 (qS1 x)) >>> 8 + (qS3 (qS2 (qS1 x)) + qS3 (qS2 (qS1 x)) >>> 8) >>> 16 : Nat) : Int) := by omega
  have e7 := qw4 hp hq hr
  rw [← h3] at e7
  refine wp_iload_n (pc := 0) d_Int_bitCount_0 rfl ?_
  refine wp_iload_n (pc := 1) d_Int_bitCount_1 rfl ?_
  refine wp_iconst (pc := 2) d_Int_bitCount_2 rfl ?_
  refine wp_iushr (v := _) (pc := 3) d_Int_bitCount_3 (zn_usr (k := 1) (by omega) (by decide)) ?_
  refine wp_ldc_w (pc := 4) d_Int_bitCount_4 rfl ?_
  refine wp_iand (v := _) (pc := 7) d_Int_bitCount_7 (zn_and (b := 1431655765) (by omega) (by decide)) ?_
  refine wp_isub (pc := 8) d_Int_bitCount_8 (by omega) (by omega) ?_
  rw [e1]
  refine wp_ist0 (pc := 9) d_Int_bitCount_9 ?_
  refine wp_iload_n (pc := 10) d_Int_bitCount_10 rfl ?_
  refine wp_ldc_w (pc := 11) d_Int_bitCount_11 rfl ?_
  refine wp_iand (v := _) (pc := 14) d_Int_bitCount_14 (zn_and (b := 858993459) (by omega) (by decide)) ?_
  refine wp_iload_n (pc := 15) d_Int_bitCount_15 rfl ?_
  refine wp_iconst (pc := 16) d_Int_bitCount_16 rfl ?_
  refine wp_iushr (v := _) (pc := 17) d_Int_bitCount_17 (zn_usr (k := 2) (by omega) (by decide)) ?_
  refine wp_ldc_w (pc := 18) d_Int_bitCount_18 rfl ?_
  refine wp_iand (v := _) (pc := 21) d_Int_bitCount_21 (zn_and (b := 858993459) (by omega) (by decide)) ?_
  refine wp_iadd (pc := 22) d_Int_bitCount_22 (by omega) (by omega) ?_
  rw [e2]
  refine wp_ist0 (pc := 23) d_Int_bitCount_23 ?_
  refine wp_iload_n (pc := 24) d_Int_bitCount_24 rfl ?_
  refine wp_iload_n (pc := 25) d_Int_bitCount_25 rfl ?_
  refine wp_iconst (pc := 26) d_Int_bitCount_26 rfl ?_
  refine wp_iushr (v := _) (pc := 27) d_Int_bitCount_27 (zn_usr (k := 4) (by omega) (by decide)) ?_
  refine wp_iadd (pc := 28) d_Int_bitCount_28 (by omega) (by omega) ?_
  rw [e3]
  refine wp_ldc_w (pc := 29) d_Int_bitCount_29 rfl ?_
  refine wp_iand (v := _) (pc := 32) d_Int_bitCount_32 (zn_and (b := 252645135) (by omega) (by decide)) ?_
  rw [e4]
  refine wp_ist0 (pc := 33) d_Int_bitCount_33 ?_
  refine wp_iload_n (pc := 34) d_Int_bitCount_34 rfl ?_
  refine wp_iload_n (pc := 35) d_Int_bitCount_35 rfl ?_
  refine wp_bipush (pc := 36) d_Int_bitCount_36 rfl ?_
  refine wp_iushr (v := _) (pc := 38) d_Int_bitCount_38 (zn_usr (k := 8) (by omega) (by decide)) ?_
  refine wp_iadd (pc := 39) d_Int_bitCount_39 (by omega) (by omega) ?_
  rw [e5]
  refine wp_ist0 (pc := 40) d_Int_bitCount_40 ?_
  refine wp_iload_n (pc := 41) d_Int_bitCount_41 rfl ?_
  refine wp_iload_n (pc := 42) d_Int_bitCount_42 rfl ?_
  refine wp_bipush (pc := 43) d_Int_bitCount_43 rfl ?_
  refine wp_iushr (v := _) (pc := 45) d_Int_bitCount_45 (zn_usr (k := 16) (by omega) (by decide)) ?_
  refine wp_iadd (pc := 46) d_Int_bitCount_46 (by omega) (by omega) ?_
  rw [e6]
  refine wp_ist0 (pc := 47) d_Int_bitCount_47 ?_
  refine wp_iload_n (pc := 48) d_Int_bitCount_48 rfl ?_
  refine wp_bipush (pc := 49) d_Int_bitCount_49 rfl ?_
  refine wp_iand (v := _) (pc := 51) d_Int_bitCount_51 (zn_and (b := 63) (by omega) (by decide)) ?_
  refine wp_ireturn (pc := 52) d_Int_bitCount_52 rfl ?_
  exact ⟨by rw [hP, e7], rfl⟩
/-- the smallest number of a set of 6 -/
def qTz (x : Nat) : Int := if x.testBit 0 then 0 else if x.testBit 1 then 1 else if x.testBit 2 then 2 else if x.testBit 3 then 3 else if x.testBit 4 then 4 else 5
theorem zTz : ∀ x : Nat, x < 64 → 0 < x → (qTz x = 0 ∧ zI2 (· &&& ·) (zI2 (· ^^^ ·) (x : Int) (-1)) ((x : Int) - 1) = 0) ∨ (qTz x = 1 ∧ zI2 (· &&& ·) (zI2 (· ^^^ ·) (x : Int) (-1)) ((x : Int) - 1) = 1) ∨ (qTz x = 2 ∧ zI2 (· &&& ·) (zI2 (· ^^^ ·) (x : Int) (-1)) ((x : Int) - 1) = 3) ∨ (qTz x = 3 ∧ zI2 (· &&& ·) (zI2 (· ^^^ ·) (x : Int) (-1)) ((x : Int) - 1) = 7) ∨ (qTz x = 4 ∧ zI2 (· &&& ·) (zI2 (· ^^^ ·) (x : Int) (-1)) ((x : Int) - 1) = 15) ∨ (qTz x = 5 ∧ zI2 (· &&& ·) (zI2 (· ^^^ ·) (x : Int) (-1)) ((x : Int) - 1) = 31) := by decide +kernel
theorem c_ntz0 {x : Nat} (hx : x < 64) (h0 : 0 < x) (h2 : zI2 (· &&& ·) (zI2 (· ^^^ ·) (x : Int) (-1)) ((x : Int) - 1) = 0) : Cf L 0 zm_Int_numberOfTrailingZeros [iV (x : Int)] M (iV 0) M := by
  show wp L _ zm_Int_numberOfTrailingZeros 0 [iV (x : Int), uV] [] M _
  refine wp_iload_n (pc := 0) d_Int_numberOfTrailingZeros_0 rfl ?_
  refine wp_iconst (pc := 1) d_Int_numberOfTrailingZeros_1 rfl ?_
  refine wp_ixor (v := _) (pc := 2) d_Int_numberOfTrailingZeros_2 rfl ?_
  refine wp_iload_n (pc := 3) d_Int_numberOfTrailingZeros_3 rfl ?_
  refine wp_iconst (pc := 4) d_Int_numberOfTrailingZeros_4 rfl ?_
  refine wp_isub (pc := 5) d_Int_numberOfTrailingZeros_5 (by omega) (by omega) ?_
  refine wp_iand (v := _) (pc := 6) d_Int_numberOfTrailingZeros_6 h2 ?_
  refine wp_ist0 (pc := 7) d_Int_numberOfTrailingZeros_7 ?_
  refine wp_iload_n (pc := 8) d_Int_numberOfTrailingZeros_8 rfl ?_
  refine wp_if_gt (tgt := 17) (pc := 9) d_Int_numberOfTrailingZeros_9 rfl (fun c9 => ?_) (fun c9 => ?_)
  · exact absurd c9 (by decide)
  · refine wp_iload_n (pc := 12) d_Int_numberOfTrailingZeros_12 rfl ?_
    refine wp_bipush (pc := 13) d_Int_numberOfTrailingZeros_13 rfl ?_
    refine wp_iand (v := 0) (pc := 15) d_Int_numberOfTrailingZeros_15 rfl ?_
    refine wp_ireturn (pc := 16) d_Int_numberOfTrailingZeros_16 rfl ?_
    exact ⟨rfl, rfl⟩
theorem c_ntz1 {x : Nat} (hx : x < 64) (h0 : 0 < x) (h2 : zI2 (· &&& ·) (zI2 (· ^^^ ·) (x : Int) (-1)) ((x : Int) - 1) = 1) : Cf L 0 zm_Int_numberOfTrailingZeros [iV (x : Int)] M (iV 1) M := by
  show wp L _ zm_Int_numberOfTrailingZeros 0 [iV (x : Int), uV] [] M _
  refine wp_iload_n (pc := 0) d_Int_numberOfTrailingZeros_0 rfl ?_
  refine wp_iconst (pc := 1) d_Int_numberOfTrailingZeros_1 rfl ?_
  refine wp_ixor (v := _) (pc := 2) d_Int_numberOfTrailingZeros_2 rfl ?_
  refine wp_iload_n (pc := 3) d_Int_numberOfTrailingZeros_3 rfl ?_
  refine wp_iconst (pc := 4) d_Int_numberOfTrailingZeros_4 rfl ?_
  refine wp_isub (pc := 5) d_Int_numberOfTrailingZeros_5 (by omega) (by omega) ?_
  refine wp_iand (v := _) (pc := 6) d_Int_numberOfTrailingZeros_6 h2 ?_
  refine wp_ist0 (pc := 7) d_Int_numberOfTrailingZeros_7 ?_
  refine wp_iload_n (pc := 8) d_Int_numberOfTrailingZeros_8 rfl ?_
  refine wp_if_gt (tgt := 17) (pc := 9) d_Int_numberOfTrailingZeros_9 rfl (fun c9 => ?_) (fun c9 => ?_)
  · refine wp_iconst (pc := 17) d_Int_numberOfTrailingZeros_17 rfl ?_
    refine wp_ist1 (pc := 18) d_Int_numberOfTrailingZeros_18 rfl ?_
    refine wp_iload_n (pc := 19) d_Int_numberOfTrailingZeros_19 rfl ?_
    refine wp_ldc_w (pc := 20) d_Int_numberOfTrailingZeros_20 rfl ?_
    refine wp_icmp_le (tgt := 34) (pc := 23) d_Int_numberOfTrailingZeros_23 rfl (fun c23 => ?_) (fun c23 => ?_)
    · refine wp_iload_n (pc := 34) d_Int_numberOfTrailingZeros_34 rfl ?_
      refine wp_sipush (pc := 35) d_Int_numberOfTrailingZeros_35 rfl ?_
      refine wp_icmp_le (tgt := 49) (pc := 38) d_Int_numberOfTrailingZeros_38 rfl (fun c38 => ?_) (fun c38 => ?_)
      · refine wp_iload_n (pc := 49) d_Int_numberOfTrailingZeros_49 rfl ?_
        refine wp_bipush (pc := 50) d_Int_numberOfTrailingZeros_50 rfl ?_
        refine wp_icmp_le (tgt := 62) (pc := 52) d_Int_numberOfTrailingZeros_52 rfl (fun c52 => ?_) (fun c52 => ?_)
        · refine wp_iload_n (pc := 62) d_Int_numberOfTrailingZeros_62 rfl ?_
          refine wp_iconst (pc := 63) d_Int_numberOfTrailingZeros_63 rfl ?_
          refine wp_icmp_le (tgt := 74) (pc := 64) d_Int_numberOfTrailingZeros_64 rfl (fun c64 => ?_) (fun c64 => ?_)
          · refine wp_iload_n (pc := 74) d_Int_numberOfTrailingZeros_74 rfl ?_
            refine wp_iload_n (pc := 75) d_Int_numberOfTrailingZeros_75 rfl ?_
            refine wp_iconst (pc := 76) d_Int_numberOfTrailingZeros_76 rfl ?_
            refine wp_iushr (v := _) (pc := 77) d_Int_numberOfTrailingZeros_77 rfl ?_
            refine wp_iadd (pc := 78) d_Int_numberOfTrailingZeros_78 (by decide) (by decide) ?_
            refine wp_ireturn (pc := 79) d_Int_numberOfTrailingZeros_79 rfl ?_
            exact ⟨rfl, rfl⟩
          · first | exact absurd (by decide) c64 | exact absurd c64 (by decide)
        · first | exact absurd (by decide) c52 | exact absurd c52 (by decide)
      · exact absurd (by decide) c38
    · exact absurd (by decide) c23
  · exact absurd c9 (by decide)
theorem c_ntz2 {x : Nat} (hx : x < 64) (h0 : 0 < x) (h2 : zI2 (· &&& ·) (zI2 (· ^^^ ·) (x : Int) (-1)) ((x : Int) - 1) = 3) : Cf L 0 zm_Int_numberOfTrailingZeros [iV (x : Int)] M (iV 2) M := by
  show wp L _ zm_Int_numberOfTrailingZeros 0 [iV (x : Int), uV] [] M _
  refine wp_iload_n (pc := 0) d_Int_numberOfTrailingZeros_0 rfl ?_
  refine wp_iconst (pc := 1) d_Int_numberOfTrailingZeros_1 rfl ?_
  refine wp_ixor (v := _) (pc := 2) d_Int_numberOfTrailingZeros_2 rfl ?_
  refine wp_iload_n (pc := 3) d_Int_numberOfTrailingZeros_3 rfl ?_
  refine wp_iconst (pc := 4) d_Int_numberOfTrailingZeros_4 rfl ?_
  refine wp_isub (pc := 5) d_Int_numberOfTrailingZeros_5 (by omega) (by omega) ?_
  refine wp_iand (v := _) (pc := 6) d_Int_numberOfTrailingZeros_6 h2 ?_
  refine wp_ist0 (pc := 7) d_Int_numberOfTrailingZeros_7 ?_
  refine wp_iload_n (pc := 8) d_Int_numberOfTrailingZeros_8 rfl ?_
  refine wp_if_gt (tgt := 17) (pc := 9) d_Int_numberOfTrailingZeros_9 rfl (fun c9 => ?_) (fun c9 => ?_)
  · refine wp_iconst (pc := 17) d_Int_numberOfTrailingZeros_17 rfl ?_
    refine wp_ist1 (pc := 18) d_Int_numberOfTrailingZeros_18 rfl ?_
    refine wp_iload_n (pc := 19) d_Int_numberOfTrailingZeros_19 rfl ?_
    refine wp_ldc_w (pc := 20) d_Int_numberOfTrailingZeros_20 rfl ?_
    refine wp_icmp_le (tgt := 34) (pc := 23) d_Int_numberOfTrailingZeros_23 rfl (fun c23 => ?_) (fun c23 => ?_)
    · refine wp_iload_n (pc := 34) d_Int_numberOfTrailingZeros_34 rfl ?_
      refine wp_sipush (pc := 35) d_Int_numberOfTrailingZeros_35 rfl ?_
      refine wp_icmp_le (tgt := 49) (pc := 38) d_Int_numberOfTrailingZeros_38 rfl (fun c38 => ?_) (fun c38 => ?_)
      · refine wp_iload_n (pc := 49) d_Int_numberOfTrailingZeros_49 rfl ?_
        refine wp_bipush (pc := 50) d_Int_numberOfTrailingZeros_50 rfl ?_
        refine wp_icmp_le (tgt := 62) (pc := 52) d_Int_numberOfTrailingZeros_52 rfl (fun c52 => ?_) (fun c52 => ?_)
        · refine wp_iload_n (pc := 62) d_Int_numberOfTrailingZeros_62 rfl ?_
          refine wp_iconst (pc := 63) d_Int_numberOfTrailingZeros_63 rfl ?_
          refine wp_icmp_le (tgt := 74) (pc := 64) d_Int_numberOfTrailingZeros_64 rfl (fun c64 => ?_) (fun c64 => ?_)
          · refine wp_iload_n (pc := 74) d_Int_numberOfTrailingZeros_74 rfl ?_
            refine wp_iload_n (pc := 75) d_Int_numberOfTrailingZeros_75 rfl ?_
            refine wp_iconst (pc := 76) d_Int_numberOfTrailingZeros_76 rfl ?_
            refine wp_iushr (v := _) (pc := 77) d_Int_numberOfTrailingZeros_77 rfl ?_
            refine wp_iadd (pc := 78) d_Int_numberOfTrailingZeros_78 (by decide) (by decide) ?_
            refine wp_ireturn (pc := 79) d_Int_numberOfTrailingZeros_79 rfl ?_
            exact ⟨rfl, rfl⟩
          · first | exact absurd (by decide) c64 | exact absurd c64 (by decide)
        · first | exact absurd (by decide) c52 | exact absurd c52 (by decide)
      · exact absurd (by decide) c38
    · exact absurd (by decide) c23
  · exact absurd c9 (by decide)
theorem c_ntz3 {x : Nat} (hx : x < 64) (h0 : 0 < x) (h2 : zI2 (· &&& ·) (zI2 (· ^^^ ·) (x : Int) (-1)) ((x : Int) - 1) = 7) : Cf L 0 zm_Int_numberOfTrailingZeros [iV (x : Int)] M (iV 3) M := by
  show wp L _ zm_Int_numberOfTrailingZeros 0 [iV (x : Int), uV] [] M _
  refine wp_iload_n (pc := 0) d_Int_numberOfTrailingZeros_0 rfl ?_
  refine wp_iconst (pc := 1) d_Int_numberOfTrailingZeros_1 rfl ?_
  refine wp_ixor (v := _) (pc := 2) d_Int_numberOfTrailingZeros_2 rfl ?_
  refine wp_iload_n (pc := 3) d_Int_numberOfTrailingZeros_3 rfl ?_
  refine wp_iconst (pc := 4) d_Int_numberOfTrailingZeros_4 rfl ?_
  refine wp_isub (pc := 5) d_Int_numberOfTrailingZeros_5 (by omega) (by omega) ?_
  refine wp_iand (v := _) (pc := 6) d_Int_numberOfTrailingZeros_6 h2 ?_
  refine wp_ist0 (pc := 7) d_Int_numberOfTrailingZeros_7 ?_
  refine wp_iload_n (pc := 8) d_Int_numberOfTrailingZeros_8 rfl ?_
  refine wp_if_gt (tgt := 17) (pc := 9) d_Int_numberOfTrailingZeros_9 rfl (fun c9 => ?_) (fun c9 => ?_)
  · refine wp_iconst (pc := 17) d_Int_numberOfTrailingZeros_17 rfl ?_
    refine wp_ist1 (pc := 18) d_Int_numberOfTrailingZeros_18 rfl ?_
    refine wp_iload_n (pc := 19) d_Int_numberOfTrailingZeros_19 rfl ?_
    refine wp_ldc_w (pc := 20) d_Int_numberOfTrailingZeros_20 rfl ?_
    refine wp_icmp_le (tgt := 34) (pc := 23) d_Int_numberOfTrailingZeros_23 rfl (fun c23 => ?_) (fun c23 => ?_)
    · refine wp_iload_n (pc := 34) d_Int_numberOfTrailingZeros_34 rfl ?_
      refine wp_sipush (pc := 35) d_Int_numberOfTrailingZeros_35 rfl ?_
      refine wp_icmp_le (tgt := 49) (pc := 38) d_Int_numberOfTrailingZeros_38 rfl (fun c38 => ?_) (fun c38 => ?_)
      · refine wp_iload_n (pc := 49) d_Int_numberOfTrailingZeros_49 rfl ?_
        refine wp_bipush (pc := 50) d_Int_numberOfTrailingZeros_50 rfl ?_
        refine wp_icmp_le (tgt := 62) (pc := 52) d_Int_numberOfTrailingZeros_52 rfl (fun c52 => ?_) (fun c52 => ?_)
        · refine wp_iload_n (pc := 62) d_Int_numberOfTrailingZeros_62 rfl ?_
          refine wp_iconst (pc := 63) d_Int_numberOfTrailingZeros_63 rfl ?_
          refine wp_icmp_le (tgt := 74) (pc := 64) d_Int_numberOfTrailingZeros_64 rfl (fun c64 => ?_) (fun c64 => ?_)
          · first | exact absurd (by decide) c64 | exact absurd c64 (by decide)
          · refine wp_iinc1 (pc := 67) d_Int_numberOfTrailingZeros_67 rfl (by omega) (by omega) ?_
            refine wp_iload_n (pc := 70) d_Int_numberOfTrailingZeros_70 rfl ?_
            refine wp_iconst (pc := 71) d_Int_numberOfTrailingZeros_71 rfl ?_
            refine wp_iushr (v := _) (pc := 72) d_Int_numberOfTrailingZeros_72 rfl ?_
            refine wp_ist0 (pc := 73) d_Int_numberOfTrailingZeros_73 ?_
            refine wp_iload_n (pc := 74) d_Int_numberOfTrailingZeros_74 rfl ?_
            refine wp_iload_n (pc := 75) d_Int_numberOfTrailingZeros_75 rfl ?_
            refine wp_iconst (pc := 76) d_Int_numberOfTrailingZeros_76 rfl ?_
            refine wp_iushr (v := _) (pc := 77) d_Int_numberOfTrailingZeros_77 rfl ?_
            refine wp_iadd (pc := 78) d_Int_numberOfTrailingZeros_78 (by decide) (by decide) ?_
            refine wp_ireturn (pc := 79) d_Int_numberOfTrailingZeros_79 rfl ?_
            exact ⟨rfl, rfl⟩
        · first | exact absurd (by decide) c52 | exact absurd c52 (by decide)
      · exact absurd (by decide) c38
    · exact absurd (by decide) c23
  · exact absurd c9 (by decide)
theorem c_ntz4 {x : Nat} (hx : x < 64) (h0 : 0 < x) (h2 : zI2 (· &&& ·) (zI2 (· ^^^ ·) (x : Int) (-1)) ((x : Int) - 1) = 15) : Cf L 0 zm_Int_numberOfTrailingZeros [iV (x : Int)] M (iV 4) M := by
  show wp L _ zm_Int_numberOfTrailingZeros 0 [iV (x : Int), uV] [] M _
  refine wp_iload_n (pc := 0) d_Int_numberOfTrailingZeros_0 rfl ?_
  refine wp_iconst (pc := 1) d_Int_numberOfTrailingZeros_1 rfl ?_
  refine wp_ixor (v := _) (pc := 2) d_Int_numberOfTrailingZeros_2 rfl ?_
  refine wp_iload_n (pc := 3) d_Int_numberOfTrailingZeros_3 rfl ?_
  refine wp_iconst (pc := 4) d_Int_numberOfTrailingZeros_4 rfl ?_
  refine wp_isub (pc := 5) d_Int_numberOfTrailingZeros_5 (by omega) (by omega) ?_
  refine wp_iand (v := _) (pc := 6) d_Int_numberOfTrailingZeros_6 h2 ?_
  refine wp_ist0 (pc := 7) d_Int_numberOfTrailingZeros_7 ?_
  refine wp_iload_n (pc := 8) d_Int_numberOfTrailingZeros_8 rfl ?_
  refine wp_if_gt (tgt := 17) (pc := 9) d_Int_numberOfTrailingZeros_9 rfl (fun c9 => ?_) (fun c9 => ?_)
  · refine wp_iconst (pc := 17) d_Int_numberOfTrailingZeros_17 rfl ?_
    refine wp_ist1 (pc := 18) d_Int_numberOfTrailingZeros_18 rfl ?_
    refine wp_iload_n (pc := 19) d_Int_numberOfTrailingZeros_19 rfl ?_
    refine wp_ldc_w (pc := 20) d_Int_numberOfTrailingZeros_20 rfl ?_
    refine wp_icmp_le (tgt := 34) (pc := 23) d_Int_numberOfTrailingZeros_23 rfl (fun c23 => ?_) (fun c23 => ?_)
    · refine wp_iload_n (pc := 34) d_Int_numberOfTrailingZeros_34 rfl ?_
      refine wp_sipush (pc := 35) d_Int_numberOfTrailingZeros_35 rfl ?_
      refine wp_icmp_le (tgt := 49) (pc := 38) d_Int_numberOfTrailingZeros_38 rfl (fun c38 => ?_) (fun c38 => ?_)
      · refine wp_iload_n (pc := 49) d_Int_numberOfTrailingZeros_49 rfl ?_
        refine wp_bipush (pc := 50) d_Int_numberOfTrailingZeros_50 rfl ?_
        refine wp_icmp_le (tgt := 62) (pc := 52) d_Int_numberOfTrailingZeros_52 rfl (fun c52 => ?_) (fun c52 => ?_)
        · refine wp_iload_n (pc := 62) d_Int_numberOfTrailingZeros_62 rfl ?_
          refine wp_iconst (pc := 63) d_Int_numberOfTrailingZeros_63 rfl ?_
          refine wp_icmp_le (tgt := 74) (pc := 64) d_Int_numberOfTrailingZeros_64 rfl (fun c64 => ?_) (fun c64 => ?_)
          · first | exact absurd (by decide) c64 | exact absurd c64 (by decide)
          · refine wp_iinc1 (pc := 67) d_Int_numberOfTrailingZeros_67 rfl (by omega) (by omega) ?_
            refine wp_iload_n (pc := 70) d_Int_numberOfTrailingZeros_70 rfl ?_
            refine wp_iconst (pc := 71) d_Int_numberOfTrailingZeros_71 rfl ?_
            refine wp_iushr (v := _) (pc := 72) d_Int_numberOfTrailingZeros_72 rfl ?_
            refine wp_ist0 (pc := 73) d_Int_numberOfTrailingZeros_73 ?_
            refine wp_iload_n (pc := 74) d_Int_numberOfTrailingZeros_74 rfl ?_
            refine wp_iload_n (pc := 75) d_Int_numberOfTrailingZeros_75 rfl ?_
            refine wp_iconst (pc := 76) d_Int_numberOfTrailingZeros_76 rfl ?_
            refine wp_iushr (v := _) (pc := 77) d_Int_numberOfTrailingZeros_77 rfl ?_
            refine wp_iadd (pc := 78) d_Int_numberOfTrailingZeros_78 (by decide) (by decide) ?_
            refine wp_ireturn (pc := 79) d_Int_numberOfTrailingZeros_79 rfl ?_
            exact ⟨rfl, rfl⟩
        · first | exact absurd (by decide) c52 | exact absurd c52 (by decide)
      · exact absurd (by decide) c38
    · exact absurd (by decide) c23
  · exact absurd c9 (by decide)
theorem c_ntz5 {x : Nat} (hx : x < 64) (h0 : 0 < x) (h2 : zI2 (· &&& ·) (zI2 (· ^^^ ·) (x : Int) (-1)) ((x : Int) - 1) = 31) : Cf L 0 zm_Int_numberOfTrailingZeros [iV (x : Int)] M (iV 5) M := by
  show wp L _ zm_Int_numberOfTrailingZeros 0 [iV (x : Int), uV] [] M _
  refine wp_iload_n (pc := 0) d_Int_numberOfTrailingZeros_0 rfl ?_
  refine wp_iconst (pc := 1) d_Int_numberOfTrailingZeros_1 rfl ?_
  refine wp_ixor (v := _) (pc := 2) d_Int_numberOfTrailingZeros_2 rfl ?_
  refine wp_iload_n (pc := 3) d_Int_numberOfTrailingZeros_3 rfl ?_
  refine wp_iconst (pc := 4) d_Int_numberOfTrailingZeros_4 rfl ?_
  refine wp_isub (pc := 5) d_Int_numberOfTrailingZeros_5 (by omega) (by omega) ?_
  refine wp_iand (v := _) (pc := 6) d_Int_numberOfTrailingZeros_6 h2 ?_
  refine wp_ist0 (pc := 7) d_Int_numberOfTrailingZeros_7 ?_
  refine wp_iload_n (pc := 8) d_Int_numberOfTrailingZeros_8 rfl ?_
  refine wp_if_gt (tgt := 17) (pc := 9) d_Int_numberOfTrailingZeros_9 rfl (fun c9 => ?_) (fun c9 => ?_)
  · refine wp_iconst (pc := 17) d_Int_numberOfTrailingZeros_17 rfl ?_
    refine wp_ist1 (pc := 18) d_Int_numberOfTrailingZeros_18 rfl ?_
    refine wp_iload_n (pc := 19) d_Int_numberOfTrailingZeros_19 rfl ?_
    refine wp_ldc_w (pc := 20) d_Int_numberOfTrailingZeros_20 rfl ?_
    refine wp_icmp_le (tgt := 34) (pc := 23) d_Int_numberOfTrailingZeros_23 rfl (fun c23 => ?_) (fun c23 => ?_)
    · refine wp_iload_n (pc := 34) d_Int_numberOfTrailingZeros_34 rfl ?_
      refine wp_sipush (pc := 35) d_Int_numberOfTrailingZeros_35 rfl ?_
      refine wp_icmp_le (tgt := 49) (pc := 38) d_Int_numberOfTrailingZeros_38 rfl (fun c38 => ?_) (fun c38 => ?_)
      · refine wp_iload_n (pc := 49) d_Int_numberOfTrailingZeros_49 rfl ?_
        refine wp_bipush (pc := 50) d_Int_numberOfTrailingZeros_50 rfl ?_
        refine wp_icmp_le (tgt := 62) (pc := 52) d_Int_numberOfTrailingZeros_52 rfl (fun c52 => ?_) (fun c52 => ?_)
        · first | exact absurd (by decide) c52 | exact absurd c52 (by decide)
        · refine wp_iinc1 (pc := 55) d_Int_numberOfTrailingZeros_55 rfl (by omega) (by omega) ?_
          refine wp_iload_n (pc := 58) d_Int_numberOfTrailingZeros_58 rfl ?_
          refine wp_iconst (pc := 59) d_Int_numberOfTrailingZeros_59 rfl ?_
          refine wp_iushr (v := _) (pc := 60) d_Int_numberOfTrailingZeros_60 rfl ?_
          refine wp_ist0 (pc := 61) d_Int_numberOfTrailingZeros_61 ?_
          refine wp_iload_n (pc := 62) d_Int_numberOfTrailingZeros_62 rfl ?_
          refine wp_iconst (pc := 63) d_Int_numberOfTrailingZeros_63 rfl ?_
          refine wp_icmp_le (tgt := 74) (pc := 64) d_Int_numberOfTrailingZeros_64 rfl (fun c64 => ?_) (fun c64 => ?_)
          · refine wp_iload_n (pc := 74) d_Int_numberOfTrailingZeros_74 rfl ?_
            refine wp_iload_n (pc := 75) d_Int_numberOfTrailingZeros_75 rfl ?_
            refine wp_iconst (pc := 76) d_Int_numberOfTrailingZeros_76 rfl ?_
            refine wp_iushr (v := _) (pc := 77) d_Int_numberOfTrailingZeros_77 rfl ?_
            refine wp_iadd (pc := 78) d_Int_numberOfTrailingZeros_78 (by decide) (by decide) ?_
            refine wp_ireturn (pc := 79) d_Int_numberOfTrailingZeros_79 rfl ?_
            exact ⟨rfl, rfl⟩
          · first | exact absurd (by decide) c64 | exact absurd c64 (by decide)
      · exact absurd (by decide) c38
    · exact absurd (by decide) c23
  · exact absurd c9 (by decide)
theorem c_ntz {x : Nat} (hx : x < 64) (h0 : 0 < x) : Cf L 0 zm_Int_numberOfTrailingZeros [iV (x : Int)] M (iV (qTz x)) M := by
  rcases zTz x hx h0 with h | h | h | h | h | h
  · rw [h.1]; exact c_ntz0 hx h0 h.2
  · rw [h.1]; exact c_ntz1 hx h0 h.2
  · rw [h.1]; exact c_ntz2 hx h0 h.2
  · rw [h.1]; exact c_ntz3 hx h0 h.2
  · rw [h.1]; exact c_ntz4 hx h0 h.2
  · rw [h.1]; exact c_ntz5 hx h0 h.2
end ZBc
